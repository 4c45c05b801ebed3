section
-- ===== PART A: goes FIRST, ahead of the names: the tables' words, and 'selects' of the private methods out of them =====
/-- a private method of a class that the tables say can be made, by its rows of tables_1 -/
def lw_okq (q : MethodName × Nat) : Prop := (q.1.cls ≠ "java/lang/invoke/MethodHandle" ∧ q.1.cls ≠ "java/lang/invoke/VarHandle") ∧ Cond.instantiable q.1.cls q.2 ∈ tables_1 ∧ Cond.privateMethod q.1 ∈ tables_1 ∧ Cond.instanceMethod q.1 ∈ tables_1
theorem lw_p0 : lw_okq (⟨"BoothFlash", "finding", "(I)I"⟩, 7) := ⟨⟨by decide +kernel, by decide +kernel⟩, List.mem_of_getElem? (i := 15) (by decide +kernel), List.mem_of_getElem? (i := 195) (by decide +kernel), List.mem_of_getElem? (i := 196) (by decide +kernel)⟩
theorem lw_p1 : lw_okq (⟨"BoothFlash", "sheetAt", "(I)LBoothFlash$Sheet;"⟩, 7) := ⟨⟨by decide +kernel, by decide +kernel⟩, List.mem_of_getElem? (i := 15) (by decide +kernel), List.mem_of_getElem? (i := 471) (by decide +kernel), List.mem_of_getElem? (i := 472) (by decide +kernel)⟩
theorem lw_p2 : lw_okq (⟨"BoothFlash", "isTallAsTold", "(LBoothFlash$Sheet;II)Z"⟩, 7) := ⟨⟨by decide +kernel, by decide +kernel⟩, List.mem_of_getElem? (i := 15) (by decide +kernel), List.mem_of_getElem? (i := 483) (by decide +kernel), List.mem_of_getElem? (i := 484) (by decide +kernel)⟩
theorem lw_p3 : lw_okq (⟨"BoothFlash", "isKindAsTold", "(LBoothFlash$Sheet;II)Z"⟩, 7) := ⟨⟨by decide +kernel, by decide +kernel⟩, List.mem_of_getElem? (i := 15) (by decide +kernel), List.mem_of_getElem? (i := 507) (by decide +kernel), List.mem_of_getElem? (i := 508) (by decide +kernel)⟩
theorem lw_p4 : lw_okq (⟨"BoothFlash", "lightsWithoutFaults", "(II)I"⟩, 7) := ⟨⟨by decide +kernel, by decide +kernel⟩, List.mem_of_getElem? (i := 15) (by decide +kernel), List.mem_of_getElem? (i := 524) (by decide +kernel), List.mem_of_getElem? (i := 525) (by decide +kernel)⟩
theorem lw_p5 : lw_okq (⟨"BoothFlashModel", "become", "(II)I"⟩, 22) := ⟨⟨by decide +kernel, by decide +kernel⟩, List.mem_of_getElem? (i := 758) (by decide +kernel), List.mem_of_getElem? (i := 851) (by decide +kernel), List.mem_of_getElem? (i := 852) (by decide +kernel)⟩
theorem lw_p6 : lw_okq (⟨"BoothFlashModel", "finding", "(I)I"⟩, 22) := ⟨⟨by decide +kernel, by decide +kernel⟩, List.mem_of_getElem? (i := 758) (by decide +kernel), List.mem_of_getElem? (i := 856) (by decide +kernel), List.mem_of_getElem? (i := 857) (by decide +kernel)⟩
theorem lw_p7 : lw_okq (⟨"BoothFlashModel", "isInQueue", "(I)Z"⟩, 22) := ⟨⟨by decide +kernel, by decide +kernel⟩, List.mem_of_getElem? (i := 758) (by decide +kernel), List.mem_of_getElem? (i := 871) (by decide +kernel), List.mem_of_getElem? (i := 872) (by decide +kernel)⟩
theorem lw_p8 : lw_okq (⟨"BoothFlashModel", "isSitter", "(I)Z"⟩, 22) := ⟨⟨by decide +kernel, by decide +kernel⟩, List.mem_of_getElem? (i := 758) (by decide +kernel), List.mem_of_getElem? (i := 875) (by decide +kernel), List.mem_of_getElem? (i := 876) (by decide +kernel)⟩
theorem lw_p9 : lw_okq (⟨"BoothFlashModel", "comes", "(IIIII)I"⟩, 22) := ⟨⟨by decide +kernel, by decide +kernel⟩, List.mem_of_getElem? (i := 758) (by decide +kernel), List.mem_of_getElem? (i := 891) (by decide +kernel), List.mem_of_getElem? (i := 892) (by decide +kernel)⟩
theorem lw_p10 : lw_okq (⟨"BoothFlashModel", "sitterIs", "(II)I"⟩, 22) := ⟨⟨by decide +kernel, by decide +kernel⟩, List.mem_of_getElem? (i := 758) (by decide +kernel), List.mem_of_getElem? (i := 902) (by decide +kernel), List.mem_of_getElem? (i := 903) (by decide +kernel)⟩
theorem lw_p11 : lw_okq (⟨"BoothFlashModel", "off", "(I)I"⟩, 22) := ⟨⟨by decide +kernel, by decide +kernel⟩, List.mem_of_getElem? (i := 758) (by decide +kernel), List.mem_of_getElem? (i := 906) (by decide +kernel), List.mem_of_getElem? (i := 907) (by decide +kernel)⟩
theorem lw_p12 : lw_okq (⟨"BoothFlashModel", "may", "(I)I"⟩, 22) := ⟨⟨by decide +kernel, by decide +kernel⟩, List.mem_of_getElem? (i := 758) (by decide +kernel), List.mem_of_getElem? (i := 911) (by decide +kernel), List.mem_of_getElem? (i := 912) (by decide +kernel)⟩
theorem lw_p13 : lw_okq (⟨"BoothFlashModel", "faultsNow", "(II)I"⟩, 22) := ⟨⟨by decide +kernel, by decide +kernel⟩, List.mem_of_getElem? (i := 758) (by decide +kernel), List.mem_of_getElem? (i := 929) (by decide +kernel), List.mem_of_getElem? (i := 930) (by decide +kernel)⟩
theorem lw_p14 : lw_okq (⟨"BoothFlashModel", "isShut", "(II)Z"⟩, 22) := ⟨⟨by decide +kernel, by decide +kernel⟩, List.mem_of_getElem? (i := 758) (by decide +kernel), List.mem_of_getElem? (i := 933) (by decide +kernel), List.mem_of_getElem? (i := 934) (by decide +kernel)⟩
theorem lw_p15 : lw_okq (⟨"BoothFlashModel", "isSmiling", "(II)Z"⟩, 22) := ⟨⟨by decide +kernel, by decide +kernel⟩, List.mem_of_getElem? (i := 758) (by decide +kernel), List.mem_of_getElem? (i := 937) (by decide +kernel), List.mem_of_getElem? (i := 938) (by decide +kernel)⟩
def lw_privs_1 : List (MethodName × Nat) := [(⟨"BoothFlash", "finding", "(I)I"⟩, 7), (⟨"BoothFlash", "sheetAt", "(I)LBoothFlash$Sheet;"⟩, 7), (⟨"BoothFlash", "isTallAsTold", "(LBoothFlash$Sheet;II)Z"⟩, 7), (⟨"BoothFlash", "isKindAsTold", "(LBoothFlash$Sheet;II)Z"⟩, 7), (⟨"BoothFlash", "lightsWithoutFaults", "(II)I"⟩, 7), (⟨"BoothFlashModel", "become", "(II)I"⟩, 22), (⟨"BoothFlashModel", "finding", "(I)I"⟩, 22), (⟨"BoothFlashModel", "isInQueue", "(I)Z"⟩, 22), (⟨"BoothFlashModel", "isSitter", "(I)Z"⟩, 22), (⟨"BoothFlashModel", "comes", "(IIIII)I"⟩, 22), (⟨"BoothFlashModel", "sitterIs", "(II)I"⟩, 22), (⟨"BoothFlashModel", "off", "(I)I"⟩, 22), (⟨"BoothFlashModel", "may", "(I)I"⟩, 22), (⟨"BoothFlashModel", "faultsNow", "(II)I"⟩, 22), (⟨"BoothFlashModel", "isShut", "(II)Z"⟩, 22), (⟨"BoothFlashModel", "isSmiling", "(II)Z"⟩, 22)]
theorem lw_r1 : ∀ q ∈ lw_privs_1, lw_okq q := List.forall_mem_cons.mpr ⟨lw_p0, List.forall_mem_cons.mpr ⟨lw_p1, List.forall_mem_cons.mpr ⟨lw_p2, List.forall_mem_cons.mpr ⟨lw_p3, List.forall_mem_cons.mpr ⟨lw_p4, List.forall_mem_cons.mpr ⟨lw_p5, List.forall_mem_cons.mpr ⟨lw_p6, List.forall_mem_cons.mpr ⟨lw_p7, List.forall_mem_cons.mpr ⟨lw_p8, List.forall_mem_cons.mpr ⟨lw_p9, List.forall_mem_cons.mpr ⟨lw_p10, List.forall_mem_cons.mpr ⟨lw_p11, List.forall_mem_cons.mpr ⟨lw_p12, List.forall_mem_cons.mpr ⟨lw_p13, List.forall_mem_cons.mpr ⟨lw_p14, List.forall_mem_cons.mpr ⟨lw_p15, fun _ h => absurd h List.not_mem_nil⟩⟩⟩⟩⟩⟩⟩⟩⟩⟩⟩⟩⟩⟩⟩⟩
theorem lw_p16 : lw_okq (⟨"BoothFlashModel", "isShining", "(I)Z"⟩, 22) := ⟨⟨by decide +kernel, by decide +kernel⟩, List.mem_of_getElem? (i := 758) (by decide +kernel), List.mem_of_getElem? (i := 941) (by decide +kernel), List.mem_of_getElem? (i := 942) (by decide +kernel)⟩
theorem lw_p17 : lw_okq (⟨"BoothFlashModel", "minutes", "(I)V"⟩, 22) := ⟨⟨by decide +kernel, by decide +kernel⟩, List.mem_of_getElem? (i := 758) (by decide +kernel), List.mem_of_getElem? (i := 957) (by decide +kernel), List.mem_of_getElem? (i := 958) (by decide +kernel)⟩
theorem lw_p18 : lw_okq (⟨"BoothFlashModel", "minute", "()V"⟩, 22) := ⟨⟨by decide +kernel, by decide +kernel⟩, List.mem_of_getElem? (i := 758) (by decide +kernel), List.mem_of_getElem? (i := 961) (by decide +kernel), List.mem_of_getElem? (i := 962) (by decide +kernel)⟩
theorem lw_p19 : lw_okq (⟨"BoothFlashModel", "next", "()I"⟩, 22) := ⟨⟨by decide +kernel, by decide +kernel⟩, List.mem_of_getElem? (i := 758) (by decide +kernel), List.mem_of_getElem? (i := 965) (by decide +kernel), List.mem_of_getElem? (i := 966) (by decide +kernel)⟩
theorem lw_p20 : lw_okq (⟨"BoothFlashModel", "sits", "(I)V"⟩, 22) := ⟨⟨by decide +kernel, by decide +kernel⟩, List.mem_of_getElem? (i := 758) (by decide +kernel), List.mem_of_getElem? (i := 969) (by decide +kernel), List.mem_of_getElem? (i := 970) (by decide +kernel)⟩
theorem lw_p21 : lw_okq (⟨"BoothFlashModel", "turnsStool", "(I)V"⟩, 22) := ⟨⟨by decide +kernel, by decide +kernel⟩, List.mem_of_getElem? (i := 758) (by decide +kernel), List.mem_of_getElem? (i := 974) (by decide +kernel), List.mem_of_getElem? (i := 975) (by decide +kernel)⟩
theorem lw_p22 : lw_okq (⟨"BoothFlashModel", "isGood", "(I)Z"⟩, 22) := ⟨⟨by decide +kernel, by decide +kernel⟩, List.mem_of_getElem? (i := 758) (by decide +kernel), List.mem_of_getElem? (i := 979) (by decide +kernel), List.mem_of_getElem? (i := 980) (by decide +kernel)⟩
theorem lw_p23 : lw_okq (⟨"BoothFlashModel", "sumOf", "(I)I"⟩, 22) := ⟨⟨by decide +kernel, by decide +kernel⟩, List.mem_of_getElem? (i := 758) (by decide +kernel), List.mem_of_getElem? (i := 983) (by decide +kernel), List.mem_of_getElem? (i := 984) (by decide +kernel)⟩
theorem lw_p24 : lw_okq (⟨"BoothFlashModel", "goodOnes", "()I"⟩, 22) := ⟨⟨by decide +kernel, by decide +kernel⟩, List.mem_of_getElem? (i := 758) (by decide +kernel), List.mem_of_getElem? (i := 991) (by decide +kernel), List.mem_of_getElem? (i := 992) (by decide +kernel)⟩
theorem lw_p25 : lw_okq (⟨"BoothFlashModel", "commonFaults", "()I"⟩, 22) := ⟨⟨by decide +kernel, by decide +kernel⟩, List.mem_of_getElem? (i := 758) (by decide +kernel), List.mem_of_getElem? (i := 995) (by decide +kernel), List.mem_of_getElem? (i := 996) (by decide +kernel)⟩
theorem lw_p26 : lw_okq (⟨"BoothFlashModel", "behind", "(II)I"⟩, 22) := ⟨⟨by decide +kernel, by decide +kernel⟩, List.mem_of_getElem? (i := 758) (by decide +kernel), List.mem_of_getElem? (i := 1003) (by decide +kernel), List.mem_of_getElem? (i := 1004) (by decide +kernel)⟩
theorem lw_p27 : lw_okq (⟨"BoothFlashModel", "putBack", "(I)I"⟩, 22) := ⟨⟨by decide +kernel, by decide +kernel⟩, List.mem_of_getElem? (i := 758) (by decide +kernel), List.mem_of_getElem? (i := 1010) (by decide +kernel), List.mem_of_getElem? (i := 1011) (by decide +kernel)⟩
theorem lw_p28 : lw_okq (⟨"BoothFlashModel", "orNone", "(I)I"⟩, 22) := ⟨⟨by decide +kernel, by decide +kernel⟩, List.mem_of_getElem? (i := 758) (by decide +kernel), List.mem_of_getElem? (i := 1022) (by decide +kernel), List.mem_of_getElem? (i := 1023) (by decide +kernel)⟩
theorem lw_p29 : lw_okq (⟨"BoothFlashModel", "areAllTaken", "()Z"⟩, 22) := ⟨⟨by decide +kernel, by decide +kernel⟩, List.mem_of_getElem? (i := 758) (by decide +kernel), List.mem_of_getElem? (i := 1035) (by decide +kernel), List.mem_of_getElem? (i := 1036) (by decide +kernel)⟩
theorem lw_p30 : lw_okq (⟨"BoothFlashModel", "faultsTogether", "(I)I"⟩, 22) := ⟨⟨by decide +kernel, by decide +kernel⟩, List.mem_of_getElem? (i := 758) (by decide +kernel), List.mem_of_getElem? (i := 1043) (by decide +kernel), List.mem_of_getElem? (i := 1044) (by decide +kernel)⟩
theorem lw_p31 : lw_okq (⟨"BoothFlashModel", "isTakenWith", "(IIII)Z"⟩, 22) := ⟨⟨by decide +kernel, by decide +kernel⟩, List.mem_of_getElem? (i := 758) (by decide +kernel), List.mem_of_getElem? (i := 1054) (by decide +kernel), List.mem_of_getElem? (i := 1055) (by decide +kernel)⟩
def lw_privs_2 : List (MethodName × Nat) := [(⟨"BoothFlashModel", "isShining", "(I)Z"⟩, 22), (⟨"BoothFlashModel", "minutes", "(I)V"⟩, 22), (⟨"BoothFlashModel", "minute", "()V"⟩, 22), (⟨"BoothFlashModel", "next", "()I"⟩, 22), (⟨"BoothFlashModel", "sits", "(I)V"⟩, 22), (⟨"BoothFlashModel", "turnsStool", "(I)V"⟩, 22), (⟨"BoothFlashModel", "isGood", "(I)Z"⟩, 22), (⟨"BoothFlashModel", "sumOf", "(I)I"⟩, 22), (⟨"BoothFlashModel", "goodOnes", "()I"⟩, 22), (⟨"BoothFlashModel", "commonFaults", "()I"⟩, 22), (⟨"BoothFlashModel", "behind", "(II)I"⟩, 22), (⟨"BoothFlashModel", "putBack", "(I)I"⟩, 22), (⟨"BoothFlashModel", "orNone", "(I)I"⟩, 22), (⟨"BoothFlashModel", "areAllTaken", "()Z"⟩, 22), (⟨"BoothFlashModel", "faultsTogether", "(I)I"⟩, 22), (⟨"BoothFlashModel", "isTakenWith", "(IIII)Z"⟩, 22)]
theorem lw_r2 : ∀ q ∈ lw_privs_2, lw_okq q := List.forall_mem_cons.mpr ⟨lw_p16, List.forall_mem_cons.mpr ⟨lw_p17, List.forall_mem_cons.mpr ⟨lw_p18, List.forall_mem_cons.mpr ⟨lw_p19, List.forall_mem_cons.mpr ⟨lw_p20, List.forall_mem_cons.mpr ⟨lw_p21, List.forall_mem_cons.mpr ⟨lw_p22, List.forall_mem_cons.mpr ⟨lw_p23, List.forall_mem_cons.mpr ⟨lw_p24, List.forall_mem_cons.mpr ⟨lw_p25, List.forall_mem_cons.mpr ⟨lw_p26, List.forall_mem_cons.mpr ⟨lw_p27, List.forall_mem_cons.mpr ⟨lw_p28, List.forall_mem_cons.mpr ⟨lw_p29, List.forall_mem_cons.mpr ⟨lw_p30, List.forall_mem_cons.mpr ⟨lw_p31, fun _ h => absurd h List.not_mem_nil⟩⟩⟩⟩⟩⟩⟩⟩⟩⟩⟩⟩⟩⟩⟩⟩
theorem lw_p32 : lw_okq (⟨"BoothFlashModel", "takenWith", "(IIII)I"⟩, 22) := ⟨⟨by decide +kernel, by decide +kernel⟩, List.mem_of_getElem? (i := 758) (by decide +kernel), List.mem_of_getElem? (i := 1066) (by decide +kernel), List.mem_of_getElem? (i := 1067) (by decide +kernel)⟩
theorem lw_p33 : lw_okq (⟨"BoothFlashModel", "takenWithout", "(III)I"⟩, 22) := ⟨⟨by decide +kernel, by decide +kernel⟩, List.mem_of_getElem? (i := 758) (by decide +kernel), List.mem_of_getElem? (i := 1085) (by decide +kernel), List.mem_of_getElem? (i := 1086) (by decide +kernel)⟩
theorem lw_p34 : lw_okq (⟨"BoothFlashModel", "lacks", "(IZ)I"⟩, 22) := ⟨⟨by decide +kernel, by decide +kernel⟩, List.mem_of_getElem? (i := 758) (by decide +kernel), List.mem_of_getElem? (i := 1093) (by decide +kernel), List.mem_of_getElem? (i := 1094) (by decide +kernel)⟩
theorem lw_p35 : lw_okq (⟨"BoothFlashModel", "fitTall", "(II)V"⟩, 22) := ⟨⟨by decide +kernel, by decide +kernel⟩, List.mem_of_getElem? (i := 758) (by decide +kernel), List.mem_of_getElem? (i := 1101) (by decide +kernel), List.mem_of_getElem? (i := 1102) (by decide +kernel)⟩
theorem lw_p36 : lw_okq (⟨"BoothFlashModel", "areFaultsSo", "(II)Z"⟩, 22) := ⟨⟨by decide +kernel, by decide +kernel⟩, List.mem_of_getElem? (i := 758) (by decide +kernel), List.mem_of_getElem? (i := 1105) (by decide +kernel), List.mem_of_getElem? (i := 1106) (by decide +kernel)⟩
theorem lw_p37 : lw_okq (⟨"BoothFlashModel", "wasTakenSo", "(II)Z"⟩, 22) := ⟨⟨by decide +kernel, by decide +kernel⟩, List.mem_of_getElem? (i := 758) (by decide +kernel), List.mem_of_getElem? (i := 1117) (by decide +kernel), List.mem_of_getElem? (i := 1118) (by decide +kernel)⟩
theorem lw_p38 : lw_okq (⟨"BoothFlashModel", "drawn", "()I"⟩, 22) := ⟨⟨by decide +kernel, by decide +kernel⟩, List.mem_of_getElem? (i := 758) (by decide +kernel), List.mem_of_getElem? (i := 1125) (by decide +kernel), List.mem_of_getElem? (i := 1126) (by decide +kernel)⟩
theorem lw_p39 : lw_okq (⟨"BoothFlashModel", "token", "()V"⟩, 22) := ⟨⟨by decide +kernel, by decide +kernel⟩, List.mem_of_getElem? (i := 758) (by decide +kernel), List.mem_of_getElem? (i := 1150) (by decide +kernel), List.mem_of_getElem? (i := 1151) (by decide +kernel)⟩
theorem lw_p40 : lw_okq (⟨"BoothFlashModel", "byteAt", "(I)I"⟩, 22) := ⟨⟨by decide +kernel, by decide +kernel⟩, List.mem_of_getElem? (i := 758) (by decide +kernel), List.mem_of_getElem? (i := 1154) (by decide +kernel), List.mem_of_getElem? (i := 1155) (by decide +kernel)⟩
theorem lw_p41 : lw_okq (⟨"BoothFlashModel", "readItem", "()V"⟩, 22) := ⟨⟨by decide +kernel, by decide +kernel⟩, List.mem_of_getElem? (i := 758) (by decide +kernel), List.mem_of_getElem? (i := 1158) (by decide +kernel), List.mem_of_getElem? (i := 1159) (by decide +kernel)⟩
theorem lw_p42 : lw_okq (⟨"BoothFlashModel", "kindTold", "()I"⟩, 22) := ⟨⟨by decide +kernel, by decide +kernel⟩, List.mem_of_getElem? (i := 758) (by decide +kernel), List.mem_of_getElem? (i := 1162) (by decide +kernel), List.mem_of_getElem? (i := 1163) (by decide +kernel)⟩
theorem lw_p43 : lw_okq (⟨"BoothFlashModel", "isWord", "(Ljava/lang/String;)Z"⟩, 22) := ⟨⟨by decide +kernel, by decide +kernel⟩, List.mem_of_getElem? (i := 758) (by decide +kernel), List.mem_of_getElem? (i := 1166) (by decide +kernel), List.mem_of_getElem? (i := 1167) (by decide +kernel)⟩
theorem lw_p44 : lw_okq (⟨"BoothFlashModel", "readSitter", "(I)V"⟩, 22) := ⟨⟨by decide +kernel, by decide +kernel⟩, List.mem_of_getElem? (i := 758) (by decide +kernel), List.mem_of_getElem? (i := 1172) (by decide +kernel), List.mem_of_getElem? (i := 1173) (by decide +kernel)⟩
theorem lw_p45 : lw_okq (⟨"BoothFlashModel", "must", "(Z)V"⟩, 22) := ⟨⟨by decide +kernel, by decide +kernel⟩, List.mem_of_getElem? (i := 758) (by decide +kernel), List.mem_of_getElem? (i := 1176) (by decide +kernel), List.mem_of_getElem? (i := 1177) (by decide +kernel)⟩
theorem lw_p46 : lw_okq (⟨"BoothFlashModel", "perhaps", "(Ljava/lang/String;II)I"⟩, 22) := ⟨⟨by decide +kernel, by decide +kernel⟩, List.mem_of_getElem? (i := 758) (by decide +kernel), List.mem_of_getElem? (i := 1181) (by decide +kernel), List.mem_of_getElem? (i := 1182) (by decide +kernel)⟩
theorem lw_p47 : lw_okq (⟨"BoothFlashModel", "number", "(II)I"⟩, 22) := ⟨⟨by decide +kernel, by decide +kernel⟩, List.mem_of_getElem? (i := 758) (by decide +kernel), List.mem_of_getElem? (i := 1185) (by decide +kernel), List.mem_of_getElem? (i := 1186) (by decide +kernel)⟩
def lw_privs_3 : List (MethodName × Nat) := [(⟨"BoothFlashModel", "takenWith", "(IIII)I"⟩, 22), (⟨"BoothFlashModel", "takenWithout", "(III)I"⟩, 22), (⟨"BoothFlashModel", "lacks", "(IZ)I"⟩, 22), (⟨"BoothFlashModel", "fitTall", "(II)V"⟩, 22), (⟨"BoothFlashModel", "areFaultsSo", "(II)Z"⟩, 22), (⟨"BoothFlashModel", "wasTakenSo", "(II)Z"⟩, 22), (⟨"BoothFlashModel", "drawn", "()I"⟩, 22), (⟨"BoothFlashModel", "token", "()V"⟩, 22), (⟨"BoothFlashModel", "byteAt", "(I)I"⟩, 22), (⟨"BoothFlashModel", "readItem", "()V"⟩, 22), (⟨"BoothFlashModel", "kindTold", "()I"⟩, 22), (⟨"BoothFlashModel", "isWord", "(Ljava/lang/String;)Z"⟩, 22), (⟨"BoothFlashModel", "readSitter", "(I)V"⟩, 22), (⟨"BoothFlashModel", "must", "(Z)V"⟩, 22), (⟨"BoothFlashModel", "perhaps", "(Ljava/lang/String;II)I"⟩, 22), (⟨"BoothFlashModel", "number", "(II)I"⟩, 22)]
theorem lw_r3 : ∀ q ∈ lw_privs_3, lw_okq q := List.forall_mem_cons.mpr ⟨lw_p32, List.forall_mem_cons.mpr ⟨lw_p33, List.forall_mem_cons.mpr ⟨lw_p34, List.forall_mem_cons.mpr ⟨lw_p35, List.forall_mem_cons.mpr ⟨lw_p36, List.forall_mem_cons.mpr ⟨lw_p37, List.forall_mem_cons.mpr ⟨lw_p38, List.forall_mem_cons.mpr ⟨lw_p39, List.forall_mem_cons.mpr ⟨lw_p40, List.forall_mem_cons.mpr ⟨lw_p41, List.forall_mem_cons.mpr ⟨lw_p42, List.forall_mem_cons.mpr ⟨lw_p43, List.forall_mem_cons.mpr ⟨lw_p44, List.forall_mem_cons.mpr ⟨lw_p45, List.forall_mem_cons.mpr ⟨lw_p46, List.forall_mem_cons.mpr ⟨lw_p47, fun _ h => absurd h List.not_mem_nil⟩⟩⟩⟩⟩⟩⟩⟩⟩⟩⟩⟩⟩⟩⟩⟩
theorem lw_p48 : lw_okq (⟨"BoothFlashModel", "addItem", "(II)V"⟩, 22) := ⟨⟨by decide +kernel, by decide +kernel⟩, List.mem_of_getElem? (i := 758) (by decide +kernel), List.mem_of_getElem? (i := 1189) (by decide +kernel), List.mem_of_getElem? (i := 1190) (by decide +kernel)⟩
theorem lw_p49 : lw_okq (⟨"BoothFlashModel", "readQueue", "()V"⟩, 22) := ⟨⟨by decide +kernel, by decide +kernel⟩, List.mem_of_getElem? (i := 758) (by decide +kernel), List.mem_of_getElem? (i := 1197) (by decide +kernel), List.mem_of_getElem? (i := 1198) (by decide +kernel)⟩
theorem lw_p50 : lw_okq (⟨"BoothFlashModel", "readNumber", "(II)V"⟩, 22) := ⟨⟨by decide +kernel, by decide +kernel⟩, List.mem_of_getElem? (i := 758) (by decide +kernel), List.mem_of_getElem? (i := 1202) (by decide +kernel), List.mem_of_getElem? (i := 1203) (by decide +kernel)⟩
theorem lw_p51 : lw_okq (⟨"BoothFlashModel", "isToldSo", "(I)V"⟩, 22) := ⟨⟨by decide +kernel, by decide +kernel⟩, List.mem_of_getElem? (i := 758) (by decide +kernel), List.mem_of_getElem? (i := 1208) (by decide +kernel), List.mem_of_getElem? (i := 1209) (by decide +kernel)⟩
def lw_privs_4 : List (MethodName × Nat) := [(⟨"BoothFlashModel", "addItem", "(II)V"⟩, 22), (⟨"BoothFlashModel", "readQueue", "()V"⟩, 22), (⟨"BoothFlashModel", "readNumber", "(II)V"⟩, 22), (⟨"BoothFlashModel", "isToldSo", "(I)V"⟩, 22)]
theorem lw_r4 : ∀ q ∈ lw_privs_4, lw_okq q := List.forall_mem_cons.mpr ⟨lw_p48, List.forall_mem_cons.mpr ⟨lw_p49, List.forall_mem_cons.mpr ⟨lw_p50, List.forall_mem_cons.mpr ⟨lw_p51, fun _ h => absurd h List.not_mem_nil⟩⟩⟩⟩
def lw_privs : List (MethodName × Nat) := lw_privs_1 ++ (lw_privs_2 ++ (lw_privs_3 ++ (lw_privs_4)))
def lw_tbl : List Cond := k2_sels lw_privs ++ tables_1
theorem lw_privs_ok : ∀ q ∈ lw_privs, lw_okq q := by
  show ∀ q ∈ lw_privs_1 ++ (lw_privs_2 ++ (lw_privs_3 ++ (lw_privs_4))), lw_okq q
  exact List.forall_mem_append.mpr ⟨lw_r1, List.forall_mem_append.mpr ⟨lw_r2, List.forall_mem_append.mpr ⟨lw_r3, lw_r4⟩⟩⟩
end
section
/-! names, decode rows: begun as claim/NAMES.whole.lean.txt (a starting text); the words of the tables by their places -/
/-- the tables' words that every method may carry along -/
def TT : List Cond := lw_tbl.filter goodWord
theorem tt_in {w : Cond} (h : w ∈ tables_1) (g : goodWord w = true) : w ∈ TT := List.mem_filter.mpr ⟨List.mem_append_right _ h, g⟩
theorem tt_0 {w : Cond} (i : Nat) (h : (k2_sels lw_privs)[i]? = some w) (g : goodWord w = true) : w ∈ TT := List.mem_filter.mpr ⟨List.mem_append_left _ (List.mem_of_getElem? h), g⟩
theorem tt_1 {w : Cond} (i : Nat) (h : tables_1_1[i]? = some w) (g : goodWord w = true) : w ∈ TT := tt_in (List.mem_append_left _ (List.mem_of_getElem? h)) g
theorem tt_2 {w : Cond} (i : Nat) (h : tables_1_2[i]? = some w) (g : goodWord w = true) : w ∈ TT := tt_in (List.mem_append_right _ (List.mem_append_left _ (List.mem_of_getElem? h))) g
theorem tt_3 {w : Cond} (i : Nat) (h : tables_1_3[i]? = some w) (g : goodWord w = true) : w ∈ TT := tt_in (List.mem_append_right _ (List.mem_append_right _ (List.mem_append_left _ (List.mem_of_getElem? h)))) g
theorem tt_4 {w : Cond} (i : Nat) (h : tables_1_4[i]? = some w) (g : goodWord w = true) : w ∈ TT := tt_in (List.mem_append_right _ (List.mem_append_right _ (List.mem_append_right _ (List.mem_append_left _ (List.mem_of_getElem? h))))) g
theorem tt_5 {w : Cond} (i : Nat) (h : tables_1_5[i]? = some w) (g : goodWord w = true) : w ∈ TT := tt_in (List.mem_append_right _ (List.mem_append_right _ (List.mem_append_right _ (List.mem_append_right _ (List.mem_append_left _ (List.mem_of_getElem? h)))))) g
theorem tt_6 {w : Cond} (i : Nat) (h : tables_1_6[i]? = some w) (g : goodWord w = true) : w ∈ TT := tt_in (List.mem_append_right _ (List.mem_append_right _ (List.mem_append_right _ (List.mem_append_right _ (List.mem_append_right _ (List.mem_of_getElem? h)))))) g
theorem tt_good : ∀ w ∈ TT, goodWord w = true := fun w h => (List.mem_filter.mp h).2
theorem tt_tbl : ∀ w ∈ TT, w ∈ lw_tbl := fun w h => (List.mem_filter.mp h).1
def RX0 : String := "BoothFlash$Booth"
def TX0 : u_T := fun k => match k with
  | 0 => ("BoothFlash$Booth", "stool", "I", false)
  | 1 => ("BoothFlash$Booth", "light", "I", false)
  | 2 => ("BoothFlash$Booth", "price", "I", false)
  | 3 => ("BoothFlash$Booth", "till", "I", false)
  | 4 => ("BoothFlash$Booth", "minute", "I", false)
  | 5 => ("BoothFlash$Booth", "z", "I", false)
  | 6 => ("BoothFlash$Booth", "sitterCount", "I", false)
  | 7 => ("BoothFlash$Booth", "sitters", "[LBoothFlash$Sitter;", true)
  | 8 => ("BoothFlash$Booth", "places", "[I", true)
  | _ => ("BoothFlash$Booth", "spots", "[I", true)
def tyX0 : Nat → FieldType := fun k => match k with
  | 0 => .int
  | 1 => .int
  | 2 => .int
  | 3 => .int
  | 4 => .int
  | 5 => .int
  | 6 => .int
  | 7 => .array (.object "BoothFlash$Sitter")
  | 8 => .array .int
  | _ => .array .int
abbrev wsX00 : List Cond := u_ws RX0 TX0 10
theorem nmX0 : ∀ a, a < 10 → ∀ b, b < 10 → a ≠ b → (TX0 a).2.1 ≠ (TX0 b).2.1 := by decide +kernel
theorem tyX0_ok : ∀ k, k < 10 → parseFieldDescriptor (TX0 k).2.2.1 = some (tyX0 k) := by decide +kernel
abbrev cX0_init : ByteArray := prog_2_method_1_code
def yX0_init : MethodName := ⟨RX0, "<init>", "()V"⟩
abbrev cX0_become : ByteArray := prog_2_method_2_code
def yX0_become : MethodName := ⟨RX0, "become", "(LBoothFlash$Booth;)V"⟩
abbrev cX0_isPart : ByteArray := prog_2_method_3_code
def yX0_isPart : MethodName := ⟨RX0, "isPart", "(I)Z"⟩
abbrev cX0_mostOf : ByteArray := prog_2_method_4_code
def yX0_mostOf : MethodName := ⟨RX0, "mostOf", "(I)I"⟩
abbrev cX0_part : ByteArray := prog_2_method_5_code
def yX0_part : MethodName := ⟨RX0, "part", "(I)I"⟩
abbrev cX0_putPart : ByteArray := prog_2_method_6_code
def yX0_putPart : MethodName := ⟨RX0, "putPart", "(II)V"⟩
abbrev cX0_isPlace : ByteArray := prog_2_method_7_code
def yX0_isPlace : MethodName := ⟨RX0, "isPlace", "(I)Z"⟩
abbrev cX0_nextPlace : ByteArray := prog_2_method_8_code
def yX0_nextPlace : MethodName := ⟨RX0, "nextPlace", "()I"⟩
abbrev cX0_whoIsIn : ByteArray := prog_2_method_9_code
def yX0_whoIsIn : MethodName := ⟨RX0, "whoIsIn", "(I)I"⟩
abbrev cX0_seat : ByteArray := prog_2_method_10_code
def yX0_seat : MethodName := ⟨RX0, "seat", "(II)V"⟩
abbrev cX0_emptyPlacesOf : ByteArray := prog_2_method_11_code
def yX0_emptyPlacesOf : MethodName := ⟨RX0, "emptyPlacesOf", "(I)V"⟩
abbrev cX0_isSitter : ByteArray := prog_2_method_12_code
def yX0_isSitter : MethodName := ⟨RX0, "isSitter", "(I)Z"⟩
abbrev cX0_isSomebodyOrNobody : ByteArray := prog_2_method_13_code
def yX0_isSomebodyOrNobody : MethodName := ⟨RX0, "isSomebodyOrNobody", "(I)Z"⟩
abbrev cX0_who : ByteArray := prog_2_method_14_code
def yX0_who : MethodName := ⟨RX0, "who", "(I)LBoothFlash$Sitter;"⟩
abbrev cX0_addSitter : ByteArray := prog_2_method_15_code
def yX0_addSitter : MethodName := ⟨RX0, "addSitter", "(I)I"⟩
abbrev cX0_partOf : ByteArray := prog_2_method_16_code
def yX0_partOf : MethodName := ⟨RX0, "partOf", "(II)I"⟩
abbrev cX0_give : ByteArray := prog_2_method_17_code
def yX0_give : MethodName := ⟨RX0, "give", "(III)V"⟩
abbrev cX0_sumOf : ByteArray := prog_2_method_18_code
def yX0_sumOf : MethodName := ⟨RX0, "sumOf", "(I)I"⟩
abbrev cX0_sitterSet : ByteArray := prog_2_method_19_code
def yX0_sitterSet : MethodName := ⟨RX0, "sitterSet", "()I"⟩
abbrev cX0_isEachTaken : ByteArray := prog_2_method_20_code
def yX0_isEachTaken : MethodName := ⟨RX0, "isEachTaken", "()Z"⟩
abbrev cX0_spotsInUse : ByteArray := prog_2_method_21_code
def yX0_spotsInUse : MethodName := ⟨RX0, "spotsInUse", "()I"⟩
abbrev cX0_faultsOf : ByteArray := prog_2_method_22_code
def yX0_faultsOf : MethodName := ⟨RX0, "faultsOf", "(LBoothFlash$Sitter;I)I"⟩
abbrev cX0_hasClearFlash : ByteArray := prog_2_method_23_code
def yX0_hasClearFlash : MethodName := ⟨RX0, "hasClearFlash", "(LBoothFlash$Sitter;)Z"⟩
abbrev cX0_sittersWithClearFlash : ByteArray := prog_2_method_24_code
def yX0_sittersWithClearFlash : MethodName := ⟨RX0, "sittersWithClearFlash", "()I"⟩
abbrev cX0_commonFaults : ByteArray := prog_2_method_25_code
def yX0_commonFaults : MethodName := ⟨RX0, "commonFaults", "()I"⟩
abbrev cX0_faultsTogether : ByteArray := prog_2_method_26_code
def yX0_faultsTogether : MethodName := ⟨RX0, "faultsTogether", "(I)I"⟩
abbrev cX0_passMinutes : ByteArray := prog_2_method_27_code
def yX0_passMinutes : MethodName := ⟨RX0, "passMinutes", "(I)V"⟩
abbrev cX0_passMinute : ByteArray := prog_2_method_28_code
def yX0_passMinute : MethodName := ⟨RX0, "passMinute", "()V"⟩
abbrev cX0_takePictures : ByteArray := prog_2_method_29_code
def yX0_takePictures : MethodName := ⟨RX0, "takePictures", "(LBoothFlash$Sitter;)V"⟩
abbrev cX0_turnStool : ByteArray := prog_2_method_30_code
def yX0_turnStool : MethodName := ⟨RX0, "turnStool", "(LBoothFlash$Sitter;)V"⟩
abbrev cX0_payOut : ByteArray := prog_2_method_31_code
def yX0_payOut : MethodName := ⟨RX0, "payOut", "()V"⟩
abbrev cX0_draw : ByteArray := prog_2_method_32_code
def yX0_draw : MethodName := ⟨RX0, "draw", "()I"⟩
def RX1 : String := "BoothFlash$Sheet"
def TX1 : u_T := fun k => match k with
  | 0 => ("BoothFlash$Sheet", "bits", "I", false)
  | 1 => ("BoothFlash$Sheet", "size", "I", false)
  | _ => ("BoothFlash$Sheet", "numbers", "[I", true)
def tyX1 : Nat → FieldType := fun k => match k with
  | 0 => .int
  | 1 => .int
  | _ => .array .int
abbrev wsX10 : List Cond := u_ws RX1 TX1 3
theorem nmX1 : ∀ a, a < 3 → ∀ b, b < 3 → a ≠ b → (TX1 a).2.1 ≠ (TX1 b).2.1 := by decide +kernel
theorem tyX1_ok : ∀ k, k < 3 → parseFieldDescriptor (TX1 k).2.2.1 = some (tyX1 k) := by decide +kernel
abbrev cX1_init : ByteArray := prog_3_method_1_code
def yX1_init : MethodName := ⟨RX1, "<init>", "()V"⟩
abbrev cX1_isWidth : ByteArray := prog_3_method_2_code
def yX1_isWidth : MethodName := ⟨RX1, "isWidth", "(I)Z"⟩
abbrev cX1_isMissing : ByteArray := prog_3_method_3_code
def yX1_isMissing : MethodName := ⟨RX1, "isMissing", "()Z"⟩
abbrev cX1_begin : ByteArray := prog_3_method_4_code
def yX1_begin : MethodName := ⟨RX1, "begin", "(II)V"⟩
abbrev cX1_hasNumber : ByteArray := prog_3_method_5_code
def yX1_hasNumber : MethodName := ⟨RX1, "hasNumber", "(I)Z"⟩
abbrev cX1_hasRange : ByteArray := prog_3_method_6_code
def yX1_hasRange : MethodName := ⟨RX1, "hasRange", "(II)Z"⟩
abbrev cX1_number : ByteArray := prog_3_method_7_code
def yX1_number : MethodName := ⟨RX1, "number", "(I)I"⟩
abbrev cX1_putNumber : ByteArray := prog_3_method_8_code
def yX1_putNumber : MethodName := ⟨RX1, "putNumber", "(II)Z"⟩
abbrev cX1_allows : ByteArray := prog_3_method_9_code
def yX1_allows : MethodName := ⟨RX1, "allows", "(II)Z"⟩
def RX2 : String := "BoothFlash$Sitter"
def TX2 : u_T := fun k => match k with
  | 0 => ("BoothFlash$Sitter", "kind", "I", false)
  | 1 => ("BoothFlash$Sitter", "tall", "I", false)
  | 2 => ("BoothFlash$Sitter", "still", "I", false)
  | 3 => ("BoothFlash$Sitter", "merry", "I", false)
  | 4 => ("BoothFlash$Sitter", "coins", "I", false)
  | 5 => ("BoothFlash$Sitter", "taken", "I", false)
  | _ => ("BoothFlash$Sitter", "tried", "I", false)
def tyX2 : Nat → FieldType := fun k => match k with
  | 0 => .int
  | 1 => .int
  | 2 => .int
  | 3 => .int
  | 4 => .int
  | 5 => .int
  | _ => .int
abbrev wsX20 : List Cond := u_ws RX2 TX2 7
theorem nmX2 : ∀ a, a < 7 → ∀ b, b < 7 → a ≠ b → (TX2 a).2.1 ≠ (TX2 b).2.1 := by decide +kernel
theorem tyX2_ok : ∀ k, k < 7 → parseFieldDescriptor (TX2 k).2.2.1 = some (tyX2 k) := by decide +kernel
abbrev cX2_init : ByteArray := prog_4_method_1_code
def yX2_init : MethodName := ⟨RX2, "<init>", "()V"⟩
abbrev cX2_begin : ByteArray := prog_4_method_2_code
def yX2_begin : MethodName := ⟨RX2, "begin", "(I)V"⟩
abbrev cX2_become : ByteArray := prog_4_method_3_code
def yX2_become : MethodName := ⟨RX2, "become", "(LBoothFlash$Sitter;)V"⟩
abbrev cX2_mostOf : ByteArray := prog_4_method_4_code
def yX2_mostOf : MethodName := ⟨RX2, "mostOf", "(I)I"⟩
abbrev cX2_part : ByteArray := prog_4_method_5_code
def yX2_part : MethodName := ⟨RX2, "part", "(I)I"⟩
abbrev cX2_putPart : ByteArray := prog_4_method_6_code
def yX2_putPart : MethodName := ⟨RX2, "putPart", "(II)V"⟩
abbrev cX2_kindAbove : ByteArray := prog_4_method_7_code
def yX2_kindAbove : MethodName := ⟨RX2, "kindAbove", "(I)I"⟩
abbrev cX2_isOfOrUnder : ByteArray := prog_4_method_8_code
def yX2_isOfOrUnder : MethodName := ⟨RX2, "isOfOrUnder", "(II)Z"⟩
abbrev cX2_off : ByteArray := prog_4_method_9_code
def yX2_off : MethodName := ⟨RX2, "off", "(I)I"⟩
abbrev cX2_mayBeOff : ByteArray := prog_4_method_10_code
def yX2_mayBeOff : MethodName := ⟨RX2, "mayBeOff", "()I"⟩
abbrev cX2_isShut : ByteArray := prog_4_method_11_code
def yX2_isShut : MethodName := ⟨RX2, "isShut", "(III)Z"⟩
abbrev cX2_isSmiling : ByteArray := prog_4_method_12_code
def yX2_isSmiling : MethodName := ⟨RX2, "isSmiling", "(I)Z"⟩
abbrev cX2_isShining : ByteArray := prog_4_method_13_code
def yX2_isShining : MethodName := ⟨RX2, "isShining", "(I)Z"⟩
def RX3 : String := "BoothFlash$Tape"
def TX3 : u_T := fun k => match k with
  | 0 => ("BoothFlash$Tape", "bytes", "[I", true)
  | 1 => ("BoothFlash$Tape", "size", "I", false)
  | 2 => ("BoothFlash$Tape", "begin", "I", false)
  | 3 => ("BoothFlash$Tape", "behind", "I", false)
  | 4 => ("BoothFlash$Tape", "type", "I", false)
  | _ => ("BoothFlash$Tape", "value", "I", false)
def tyX3 : Nat → FieldType := fun k => match k with
  | 0 => .array .int
  | 1 => .int
  | 2 => .int
  | 3 => .int
  | 4 => .int
  | _ => .int
abbrev wsX30 : List Cond := u_ws RX3 TX3 6
theorem nmX3 : ∀ a, a < 6 → ∀ b, b < 6 → a ≠ b → (TX3 a).2.1 ≠ (TX3 b).2.1 := by decide +kernel
theorem tyX3_ok : ∀ k, k < 6 → parseFieldDescriptor (TX3 k).2.2.1 = some (tyX3 k) := by decide +kernel
abbrev cX3_init : ByteArray := prog_5_method_1_code
def yX3_init : MethodName := ⟨RX3, "<init>", "()V"⟩
abbrev cX3_hasRoomFor : ByteArray := prog_5_method_2_code
def yX3_hasRoomFor : MethodName := ⟨RX3, "hasRoomFor", "(I)Z"⟩
abbrev cX3_append : ByteArray := prog_5_method_3_code
def yX3_append : MethodName := ⟨RX3, "append", "(I)V"⟩
abbrev cX3_readInto : ByteArray := prog_5_method_4_code
def yX3_readInto : MethodName := ⟨RX3, "readInto", "(LBoothFlash$Booth;)I"⟩
abbrev cX3_readItem : ByteArray := prog_5_method_5_code
def yX3_readItem : MethodName := ⟨RX3, "readItem", "(LBoothFlash$Booth;)Z"⟩
abbrev cX3_readSitter : ByteArray := prog_5_method_6_code
def yX3_readSitter : MethodName := ⟨RX3, "readSitter", "(LBoothFlash$Booth;I)Z"⟩
abbrev cX3_readQueue : ByteArray := prog_5_method_7_code
def yX3_readQueue : MethodName := ⟨RX3, "readQueue", "(LBoothFlash$Booth;)Z"⟩
abbrev cX3_readPart : ByteArray := prog_5_method_8_code
def yX3_readPart : MethodName := ⟨RX3, "readPart", "(LBoothFlash$Booth;I)Z"⟩
abbrev cX3_nextToken : ByteArray := prog_5_method_9_code
def yX3_nextToken : MethodName := ⟨RX3, "nextToken", "()V"⟩
abbrev cX3_readDigits : ByteArray := prog_5_method_10_code
def yX3_readDigits : MethodName := ⟨RX3, "readDigits", "()V"⟩
abbrev cX3_byteAt : ByteArray := prog_5_method_11_code
def yX3_byteAt : MethodName := ⟨RX3, "byteAt", "(I)I"⟩
abbrev cX3_isLetter : ByteArray := prog_5_method_12_code
def yX3_isLetter : MethodName := ⟨RX3, "isLetter", "(I)Z"⟩
abbrev cX3_isDigit : ByteArray := prog_5_method_13_code
def yX3_isDigit : MethodName := ⟨RX3, "isDigit", "(I)Z"⟩
abbrev cX3_isNumber : ByteArray := prog_5_method_14_code
def yX3_isNumber : MethodName := ⟨RX3, "isNumber", "(I)Z"⟩
abbrev cX3_isWord : ByteArray := prog_5_method_15_code
def yX3_isWord : MethodName := ⟨RX3, "isWord", "(Ljava/lang/String;)Z"⟩
abbrev cX3_wordOfKind : ByteArray := prog_5_method_16_code
def yX3_wordOfKind : MethodName := ⟨RX3, "wordOfKind", "(I)Ljava/lang/String;"⟩
abbrev cX3_wordOfPart : ByteArray := prog_5_method_17_code
def yX3_wordOfPart : MethodName := ⟨RX3, "wordOfPart", "(I)Ljava/lang/String;"⟩
abbrev cX3_wordOfTrait : ByteArray := prog_5_method_18_code
def yX3_wordOfTrait : MethodName := ⟨RX3, "wordOfTrait", "(I)Ljava/lang/String;"⟩
def RX4 : String := "BoothFlash"
def TX4 : u_T := fun k => match k with
  | 0 => ("BoothFlash", "real", "LBoothFlash$Booth;", true)
  | 1 => ("BoothFlash", "trial", "LBoothFlash$Booth;", true)
  | 2 => ("BoothFlash", "kept", "LBoothFlash$Booth;", true)
  | 3 => ("BoothFlash", "isKept", "Z", false)
  | 4 => ("BoothFlash", "tape", "LBoothFlash$Tape;", true)
  | 5 => ("BoothFlash", "sheets", "[LBoothFlash$Sheet;", true)
  | _ => ("BoothFlash", "found", "[I", true)
def tyX4 : Nat → FieldType := fun k => match k with
  | 0 => .object "BoothFlash$Booth"
  | 1 => .object "BoothFlash$Booth"
  | 2 => .object "BoothFlash$Booth"
  | 3 => .boolean
  | 4 => .object "BoothFlash$Tape"
  | 5 => .array (.object "BoothFlash$Sheet")
  | _ => .array .int
abbrev wsX40 : List Cond := u_ws RX4 TX4 7
theorem nmX4 : ∀ a, a < 7 → ∀ b, b < 7 → a ≠ b → (TX4 a).2.1 ≠ (TX4 b).2.1 := by decide +kernel
theorem tyX4_ok : ∀ k, k < 7 → parseFieldDescriptor (TX4 k).2.2.1 = some (tyX4 k) := by decide +kernel
abbrev cX4_init : ByteArray := prog_1_method_1_code
def yX4_init : MethodName := ⟨RX4, "<init>", "()V"⟩
abbrev cX4_set : ByteArray := prog_1_method_2_code
def yX4_set : MethodName := ⟨RX4, "set", "(II)I"⟩
abbrev cX4_booth : ByteArray := prog_1_method_3_code
def yX4_booth : MethodName := ⟨RX4, "booth", "(I)I"⟩
abbrev cX4_queue : ByteArray := prog_1_method_4_code
def yX4_queue : MethodName := ⟨RX4, "queue", "(II)I"⟩
abbrev cX4_place : ByteArray := prog_1_method_5_code
def yX4_place : MethodName := ⟨RX4, "place", "(I)I"⟩
abbrev cX4_sitter : ByteArray := prog_1_method_6_code
def yX4_sitter : MethodName := ⟨RX4, "sitter", "(II)I"⟩
abbrev cX4_of : ByteArray := prog_1_method_7_code
def yX4_of : MethodName := ⟨RX4, "of", "(II)I"⟩
abbrev cX4_change : ByteArray := prog_1_method_8_code
def yX4_change : MethodName := ⟨RX4, "change", "(III)I"⟩
abbrev cX4_faults : ByteArray := prog_1_method_9_code
def yX4_faults : MethodName := ⟨RX4, "faults", "(II)I"⟩
abbrev cX4_best : ByteArray := prog_1_method_10_code
def yX4_best : MethodName := ⟨RX4, "best", "(I)I"⟩
abbrev cX4_go : ByteArray := prog_1_method_11_code
def yX4_go : MethodName := ⟨RX4, "go", "(I)I"⟩
abbrev cX4_now : ByteArray := prog_1_method_12_code
def yX4_now : MethodName := ⟨RX4, "now", "(I)I"⟩
abbrev cX4_ahead : ByteArray := prog_1_method_13_code
def yX4_ahead : MethodName := ⟨RX4, "ahead", "(III)I"⟩
abbrev cX4_later : ByteArray := prog_1_method_14_code
def yX4_later : MethodName := ⟨RX4, "later", "(II)I"⟩
abbrev cX4_when : ByteArray := prog_1_method_15_code
def yX4_when : MethodName := ⟨RX4, "when", "(II)I"⟩
abbrev cX4_broke : ByteArray := prog_1_method_16_code
def yX4_broke : MethodName := ⟨RX4, "broke", "(I)I"⟩
abbrev cX4_all : ByteArray := prog_1_method_17_code
def yX4_all : MethodName := ⟨RX4, "all", "()I"⟩
abbrev cX4_stoolFor : ByteArray := prog_1_method_18_code
def yX4_stoolFor : MethodName := ⟨RX4, "stoolFor", "(I)I"⟩
abbrev cX4_lightFor : ByteArray := prog_1_method_19_code
def yX4_lightFor : MethodName := ⟨RX4, "lightFor", "(II)I"⟩
abbrev cX4_turnFor : ByteArray := prog_1_method_20_code
def yX4_turnFor : MethodName := ⟨RX4, "turnFor", "(II)I"⟩
abbrev cX4_kindFor : ByteArray := prog_1_method_21_code
def yX4_kindFor : MethodName := ⟨RX4, "kindFor", "(II)I"⟩
abbrev cX4_merryFor : ByteArray := prog_1_method_22_code
def yX4_merryFor : MethodName := ⟨RX4, "merryFor", "(II)I"⟩
abbrev cX4_priceFor : ByteArray := prog_1_method_23_code
def yX4_priceFor : MethodName := ⟨RX4, "priceFor", "(I)I"⟩
abbrev cX4_away : ByteArray := prog_1_method_24_code
def yX4_away : MethodName := ⟨RX4, "away", "(III)I"⟩
abbrev cX4_fits : ByteArray := prog_1_method_25_code
def yX4_fits : MethodName := ⟨RX4, "fits", "(II)I"⟩
abbrev cX4_tall : ByteArray := prog_1_method_26_code
def yX4_tall : MethodName := ⟨RX4, "tall", "(II)I"⟩
abbrev cX4_kinds : ByteArray := prog_1_method_27_code
def yX4_kinds : MethodName := ⟨RX4, "kinds", "(II)I"⟩
abbrev cX4_lamps : ByteArray := prog_1_method_28_code
def yX4_lamps : MethodName := ⟨RX4, "lamps", "(I)I"⟩
abbrev cX4_odds : ByteArray := prog_1_method_29_code
def yX4_odds : MethodName := ⟨RX4, "odds", "(IIII)J"⟩
abbrev cX4_seed : ByteArray := prog_1_method_30_code
def yX4_seed : MethodName := ⟨RX4, "seed", "(I)I"⟩
abbrev cX4_feed : ByteArray := prog_1_method_31_code
def yX4_feed : MethodName := ⟨RX4, "feed", "(II)I"⟩
abbrev cX4_wipe : ByteArray := prog_1_method_32_code
def yX4_wipe : MethodName := ⟨RX4, "wipe", "()I"⟩
abbrev cX4_text : ByteArray := prog_1_method_33_code
def yX4_text : MethodName := ⟨RX4, "text", "()I"⟩
abbrev cX4_hold : ByteArray := prog_1_method_34_code
def yX4_hold : MethodName := ⟨RX4, "hold", "(II)I"⟩
abbrev cX4_as : ByteArray := prog_1_method_35_code
def yX4_as : MethodName := ⟨RX4, "as", "(II)I"⟩
abbrev cX4_sheet : ByteArray := prog_1_method_36_code
def yX4_sheet : MethodName := ⟨RX4, "sheet", "(III)I"⟩
abbrev cX4_write : ByteArray := prog_1_method_37_code
def yX4_write : MethodName := ⟨RX4, "write", "(III)I"⟩
abbrev cX4_copy : ByteArray := prog_1_method_38_code
def yX4_copy : MethodName := ⟨RX4, "copy", "(IIIII)I"⟩
abbrev cX4_load : ByteArray := prog_1_method_39_code
def yX4_load : MethodName := ⟨RX4, "load", "(I)I"⟩
abbrev cX4_judge : ByteArray := prog_1_method_40_code
def yX4_judge : MethodName := ⟨RX4, "judge", "(I)I"⟩
abbrev cX4_image : ByteArray := prog_1_method_41_code
def yX4_image : MethodName := ⟨RX4, "image", "()I"⟩
abbrev cX4_undo : ByteArray := prog_1_method_42_code
def yX4_undo : MethodName := ⟨RX4, "undo", "()I"⟩
abbrev cX4_tear : ByteArray := prog_1_method_43_code
def yX4_tear : MethodName := ⟨RX4, "tear", "()I"⟩
abbrev cX4_count : ByteArray := prog_1_method_44_code
def yX4_count : MethodName := ⟨RX4, "count", "(I)I"⟩
abbrev cX4_status : ByteArray := prog_1_method_45_code
def yX4_status : MethodName := ⟨RX4, "status", "(I)I"⟩
abbrev cX4_finding : ByteArray := prog_1_method_46_code
def yX4_finding : MethodName := ⟨RX4, "finding", "(I)I"⟩
abbrev cX4_isWithin : ByteArray := prog_1_method_47_code
def yX4_isWithin : MethodName := ⟨RX4, "isWithin", "(II)Z"⟩
abbrev cX4_sheetAt : ByteArray := prog_1_method_48_code
def yX4_sheetAt : MethodName := ⟨RX4, "sheetAt", "(I)LBoothFlash$Sheet;"⟩
abbrev cX4_refusalFor : ByteArray := prog_1_method_49_code
def yX4_refusalFor : MethodName := ⟨RX4, "refusalFor", "(LBoothFlash$Sheet;)I"⟩
abbrev cX4_isTallAsTold : ByteArray := prog_1_method_50_code
def yX4_isTallAsTold : MethodName := ⟨RX4, "isTallAsTold", "(LBoothFlash$Sheet;II)Z"⟩
abbrev cX4_isKindAsTold : ByteArray := prog_1_method_51_code
def yX4_isKindAsTold : MethodName := ⟨RX4, "isKindAsTold", "(LBoothFlash$Sheet;II)Z"⟩
abbrev cX4_lightsWithoutFaults : ByteArray := prog_1_method_52_code
def yX4_lightsWithoutFaults : MethodName := ⟨RX4, "lightsWithoutFaults", "(II)I"⟩
abbrev cX4_power : ByteArray := prog_1_method_53_code
def yX4_power : MethodName := ⟨RX4, "power", "(II)J"⟩
def RX5 : String := "BoothFlashModel"
def TX5 : u_T := fun k => match k with
  | 0 => ("BoothFlashModel", "now", "[I", true)
  | 1 => ("BoothFlashModel", "kept", "[I", true)
  | 2 => ("BoothFlashModel", "aside", "[I", true)
  | 3 => ("BoothFlashModel", "isKept", "Z", false)
  | 4 => ("BoothFlashModel", "found", "[I", true)
  | 5 => ("BoothFlashModel", "tallMany", "I", false)
  | 6 => ("BoothFlashModel", "tallLeast", "I", false)
  | 7 => ("BoothFlashModel", "tape", "[I", true)
  | 8 => ("BoothFlashModel", "taped", "I", false)
  | 9 => ("BoothFlashModel", "begins", "I", false)
  | 10 => ("BoothFlashModel", "ends", "I", false)
  | 11 => ("BoothFlashModel", "sort", "I", false)
  | 12 => ("BoothFlashModel", "value", "I", false)
  | 13 => ("BoothFlashModel", "isWrong", "Z", false)
  | 14 => ("BoothFlashModel", "kindNames", "[Ljava/lang/String;", true)
  | 15 => ("BoothFlashModel", "items", "[I", true)
  | 16 => ("BoothFlashModel", "itemMany", "I", false)
  | 17 => ("BoothFlashModel", "sittersThen", "I", false)
  | 18 => ("BoothFlashModel", "widths", "[I", true)
  | 19 => ("BoothFlashModel", "sizes", "[I", true)
  | 20 => ("BoothFlashModel", "numbers", "[I", true)
  | _ => ("BoothFlashModel", "moved", "[I", true)
def tyX5 : Nat → FieldType := fun k => match k with
  | 0 => .array .int
  | 1 => .array .int
  | 2 => .array .int
  | 3 => .boolean
  | 4 => .array .int
  | 5 => .int
  | 6 => .int
  | 7 => .array .int
  | 8 => .int
  | 9 => .int
  | 10 => .int
  | 11 => .int
  | 12 => .int
  | 13 => .boolean
  | 14 => .array (.object "java/lang/String")
  | 15 => .array .int
  | 16 => .int
  | 17 => .int
  | 18 => .array .int
  | 19 => .array .int
  | 20 => .array .int
  | _ => .array .int
abbrev wsX50 : List Cond := u_ws RX5 TX5 22
theorem nmX5 : ∀ a, a < 22 → ∀ b, b < 22 → a ≠ b → (TX5 a).2.1 ≠ (TX5 b).2.1 := by decide +kernel
theorem tyX5_ok : ∀ k, k < 22 → parseFieldDescriptor (TX5 k).2.2.1 = some (tyX5 k) := by decide +kernel
abbrev cX5_init : ByteArray := prog_7_method_1_code
def yX5_init : MethodName := ⟨RX5, "<init>", "()V"⟩
abbrev cX5_finding : ByteArray := prog_7_method_2_code
def yX5_finding : MethodName := ⟨RX5, "finding", "(I)I"⟩
abbrev cX5_within : ByteArray := prog_7_method_3_code
def yX5_within : MethodName := ⟨RX5, "within", "(III)Z"⟩
abbrev cX5_become : ByteArray := prog_7_method_4_code
def yX5_become : MethodName := ⟨RX5, "become", "(II)I"⟩
abbrev cX5_copyRow : ByteArray := prog_7_method_5_code
def yX5_copyRow : MethodName := ⟨RX5, "copyRow", "([I[I)V"⟩
abbrev cX5_putBack : ByteArray := prog_7_method_6_code
def yX5_putBack : MethodName := ⟨RX5, "putBack", "(I)I"⟩
abbrev cX5_orNone : ByteArray := prog_7_method_7_code
def yX5_orNone : MethodName := ⟨RX5, "orNone", "(I)I"⟩
abbrev cX5_bits : ByteArray := prog_7_method_8_code
def yX5_bits : MethodName := ⟨RX5, "bits", "(I)I"⟩
abbrev cX5_hasBit : ByteArray := prog_7_method_9_code
def yX5_hasBit : MethodName := ⟨RX5, "hasBit", "(II)Z"⟩
abbrev cX5_isSet : ByteArray := prog_7_method_10_code
def yX5_isSet : MethodName := ⟨RX5, "isSet", "(II)Z"⟩
abbrev cX5_set : ByteArray := prog_7_method_11_code
def yX5_set : MethodName := ⟨RX5, "set", "(II)I"⟩
abbrev cX5_booth : ByteArray := prog_7_method_12_code
def yX5_booth : MethodName := ⟨RX5, "booth", "(I)I"⟩
abbrev cX5_isPlace : ByteArray := prog_7_method_13_code
def yX5_isPlace : MethodName := ⟨RX5, "isPlace", "(I)Z"⟩
abbrev cX5_isSitter : ByteArray := prog_7_method_14_code
def yX5_isSitter : MethodName := ⟨RX5, "isSitter", "(I)Z"⟩
abbrev cX5_isInQueue : ByteArray := prog_7_method_15_code
def yX5_isInQueue : MethodName := ⟨RX5, "isInQueue", "(I)Z"⟩
abbrev cX5_queue : ByteArray := prog_7_method_16_code
def yX5_queue : MethodName := ⟨RX5, "queue", "(II)I"⟩
abbrev cX5_place : ByteArray := prog_7_method_17_code
def yX5_place : MethodName := ⟨RX5, "place", "(I)I"⟩
abbrev cX5_isKind : ByteArray := prog_7_method_18_code
def yX5_isKind : MethodName := ⟨RX5, "isKind", "(I)Z"⟩
abbrev cX5_sitterAt : ByteArray := prog_7_method_19_code
def yX5_sitterAt : MethodName := ⟨RX5, "sitterAt", "(II)I"⟩
abbrev cX5_sitterIs : ByteArray := prog_7_method_20_code
def yX5_sitterIs : MethodName := ⟨RX5, "sitterIs", "(II)I"⟩
abbrev cX5_comes : ByteArray := prog_7_method_21_code
def yX5_comes : MethodName := ⟨RX5, "comes", "(IIIII)I"⟩
abbrev cX5_sitter : ByteArray := prog_7_method_22_code
def yX5_sitter : MethodName := ⟨RX5, "sitter", "(II)I"⟩
abbrev cX5_off : ByteArray := prog_7_method_23_code
def yX5_off : MethodName := ⟨RX5, "off", "(I)I"⟩
abbrev cX5_may : ByteArray := prog_7_method_24_code
def yX5_may : MethodName := ⟨RX5, "may", "(I)I"⟩
abbrev cX5_isShut : ByteArray := prog_7_method_25_code
def yX5_isShut : MethodName := ⟨RX5, "isShut", "(II)Z"⟩
abbrev cX5_isSmiling : ByteArray := prog_7_method_26_code
def yX5_isSmiling : MethodName := ⟨RX5, "isSmiling", "(II)Z"⟩
abbrev cX5_isShining : ByteArray := prog_7_method_27_code
def yX5_isShining : MethodName := ⟨RX5, "isShining", "(I)Z"⟩
abbrev cX5_faultsNow : ByteArray := prog_7_method_28_code
def yX5_faultsNow : MethodName := ⟨RX5, "faultsNow", "(II)I"⟩
abbrev cX5_of : ByteArray := prog_7_method_29_code
def yX5_of : MethodName := ⟨RX5, "of", "(II)I"⟩
abbrev cX5_isField : ByteArray := prog_7_method_30_code
def yX5_isField : MethodName := ⟨RX5, "isField", "(II)Z"⟩
abbrev cX5_change : ByteArray := prog_7_method_31_code
def yX5_change : MethodName := ⟨RX5, "change", "(III)I"⟩
abbrev cX5_isFlash : ByteArray := prog_7_method_32_code
def yX5_isFlash : MethodName := ⟨RX5, "isFlash", "(I)Z"⟩
abbrev cX5_faults : ByteArray := prog_7_method_33_code
def yX5_faults : MethodName := ⟨RX5, "faults", "(II)I"⟩
abbrev cX5_best : ByteArray := prog_7_method_34_code
def yX5_best : MethodName := ⟨RX5, "best", "(I)I"⟩
abbrev cX5_isGood : ByteArray := prog_7_method_35_code
def yX5_isGood : MethodName := ⟨RX5, "isGood", "(I)Z"⟩
abbrev cX5_turnsStool : ByteArray := prog_7_method_36_code
def yX5_turnsStool : MethodName := ⟨RX5, "turnsStool", "(I)V"⟩
abbrev cX5_sits : ByteArray := prog_7_method_37_code
def yX5_sits : MethodName := ⟨RX5, "sits", "(I)V"⟩
abbrev cX5_next : ByteArray := prog_7_method_38_code
def yX5_next : MethodName := ⟨RX5, "next", "()I"⟩
abbrev cX5_minute : ByteArray := prog_7_method_39_code
def yX5_minute : MethodName := ⟨RX5, "minute", "()V"⟩
abbrev cX5_minutes : ByteArray := prog_7_method_40_code
def yX5_minutes : MethodName := ⟨RX5, "minutes", "(I)V"⟩
abbrev cX5_sumOf : ByteArray := prog_7_method_41_code
def yX5_sumOf : MethodName := ⟨RX5, "sumOf", "(I)I"⟩
abbrev cX5_go : ByteArray := prog_7_method_42_code
def yX5_go : MethodName := ⟨RX5, "go", "(I)I"⟩
abbrev cX5_goodOnes : ByteArray := prog_7_method_43_code
def yX5_goodOnes : MethodName := ⟨RX5, "goodOnes", "()I"⟩
abbrev cX5_commonFaults : ByteArray := prog_7_method_44_code
def yX5_commonFaults : MethodName := ⟨RX5, "commonFaults", "()I"⟩
abbrev cX5_now : ByteArray := prog_7_method_45_code
def yX5_now : MethodName := ⟨RX5, "now", "(I)I"⟩
abbrev cX5_behind : ByteArray := prog_7_method_46_code
def yX5_behind : MethodName := ⟨RX5, "behind", "(II)I"⟩
abbrev cX5_ahead : ByteArray := prog_7_method_47_code
def yX5_ahead : MethodName := ⟨RX5, "ahead", "(III)I"⟩
abbrev cX5_later : ByteArray := prog_7_method_48_code
def yX5_later : MethodName := ⟨RX5, "later", "(II)I"⟩
abbrev cX5_when : ByteArray := prog_7_method_49_code
def yX5_when : MethodName := ⟨RX5, "when", "(II)I"⟩
abbrev cX5_broke : ByteArray := prog_7_method_50_code
def yX5_broke : MethodName := ⟨RX5, "broke", "(I)I"⟩
abbrev cX5_areAllTaken : ByteArray := prog_7_method_51_code
def yX5_areAllTaken : MethodName := ⟨RX5, "areAllTaken", "()Z"⟩
abbrev cX5_all : ByteArray := prog_7_method_52_code
def yX5_all : MethodName := ⟨RX5, "all", "()I"⟩
abbrev cX5_faultsTogether : ByteArray := prog_7_method_53_code
def yX5_faultsTogether : MethodName := ⟨RX5, "faultsTogether", "(I)I"⟩
abbrev cX5_stoolFor : ByteArray := prog_7_method_54_code
def yX5_stoolFor : MethodName := ⟨RX5, "stoolFor", "(I)I"⟩
abbrev cX5_isThought : ByteArray := prog_7_method_55_code
def yX5_isThought : MethodName := ⟨RX5, "isThought", "(I)Z"⟩
abbrev cX5_isTakenWith : ByteArray := prog_7_method_56_code
def yX5_isTakenWith : MethodName := ⟨RX5, "isTakenWith", "(IIII)Z"⟩
abbrev cX5_lightFor : ByteArray := prog_7_method_57_code
def yX5_lightFor : MethodName := ⟨RX5, "lightFor", "(II)I"⟩
abbrev cX5_merryFor : ByteArray := prog_7_method_58_code
def yX5_merryFor : MethodName := ⟨RX5, "merryFor", "(II)I"⟩
abbrev cX5_takenWith : ByteArray := prog_7_method_59_code
def yX5_takenWith : MethodName := ⟨RX5, "takenWith", "(IIII)I"⟩
abbrev cX5_turnFor : ByteArray := prog_7_method_60_code
def yX5_turnFor : MethodName := ⟨RX5, "turnFor", "(II)I"⟩
abbrev cX5_kindFor : ByteArray := prog_7_method_61_code
def yX5_kindFor : MethodName := ⟨RX5, "kindFor", "(II)I"⟩
abbrev cX5_priceFor : ByteArray := prog_7_method_62_code
def yX5_priceFor : MethodName := ⟨RX5, "priceFor", "(I)I"⟩
abbrev cX5_takenWithout : ByteArray := prog_7_method_63_code
def yX5_takenWithout : MethodName := ⟨RX5, "takenWithout", "(III)I"⟩
abbrev cX5_away : ByteArray := prog_7_method_64_code
def yX5_away : MethodName := ⟨RX5, "away", "(III)I"⟩
abbrev cX5_lacks : ByteArray := prog_7_method_65_code
def yX5_lacks : MethodName := ⟨RX5, "lacks", "(IZ)I"⟩
abbrev cX5_areFaultsSo : ByteArray := prog_7_method_66_code
def yX5_areFaultsSo : MethodName := ⟨RX5, "areFaultsSo", "(II)Z"⟩
abbrev cX5_fitTall : ByteArray := prog_7_method_67_code
def yX5_fitTall : MethodName := ⟨RX5, "fitTall", "(II)V"⟩
abbrev cX5_fits : ByteArray := prog_7_method_68_code
def yX5_fits : MethodName := ⟨RX5, "fits", "(II)I"⟩
abbrev cX5_tall : ByteArray := prog_7_method_69_code
def yX5_tall : MethodName := ⟨RX5, "tall", "(II)I"⟩
abbrev cX5_wasTakenSo : ByteArray := prog_7_method_70_code
def yX5_wasTakenSo : MethodName := ⟨RX5, "wasTakenSo", "(II)Z"⟩
abbrev cX5_kinds : ByteArray := prog_7_method_71_code
def yX5_kinds : MethodName := ⟨RX5, "kinds", "(II)I"⟩
abbrev cX5_drawn : ByteArray := prog_7_method_72_code
def yX5_drawn : MethodName := ⟨RX5, "drawn", "()I"⟩
abbrev cX5_lamps : ByteArray := prog_7_method_73_code
def yX5_lamps : MethodName := ⟨RX5, "lamps", "(I)I"⟩
abbrev cX5_odds : ByteArray := prog_7_method_74_code
def yX5_odds : MethodName := ⟨RX5, "odds", "(IIII)J"⟩
abbrev cX5_seed : ByteArray := prog_7_method_75_code
def yX5_seed : MethodName := ⟨RX5, "seed", "(I)I"⟩
abbrev cX5_feed : ByteArray := prog_7_method_76_code
def yX5_feed : MethodName := ⟨RX5, "feed", "(II)I"⟩
abbrev cX5_wipe : ByteArray := prog_7_method_77_code
def yX5_wipe : MethodName := ⟨RX5, "wipe", "()I"⟩
abbrev cX5_byteAt : ByteArray := prog_7_method_78_code
def yX5_byteAt : MethodName := ⟨RX5, "byteAt", "(I)I"⟩
abbrev cX5_token : ByteArray := prog_7_method_79_code
def yX5_token : MethodName := ⟨RX5, "token", "()V"⟩
abbrev cX5_isWord : ByteArray := prog_7_method_80_code
def yX5_isWord : MethodName := ⟨RX5, "isWord", "(Ljava/lang/String;)Z"⟩
abbrev cX5_must : ByteArray := prog_7_method_81_code
def yX5_must : MethodName := ⟨RX5, "must", "(Z)V"⟩
abbrev cX5_number : ByteArray := prog_7_method_82_code
def yX5_number : MethodName := ⟨RX5, "number", "(II)I"⟩
abbrev cX5_addItem : ByteArray := prog_7_method_83_code
def yX5_addItem : MethodName := ⟨RX5, "addItem", "(II)V"⟩
abbrev cX5_kindTold : ByteArray := prog_7_method_84_code
def yX5_kindTold : MethodName := ⟨RX5, "kindTold", "()I"⟩
abbrev cX5_perhaps : ByteArray := prog_7_method_85_code
def yX5_perhaps : MethodName := ⟨RX5, "perhaps", "(Ljava/lang/String;II)I"⟩
abbrev cX5_readSitter : ByteArray := prog_7_method_86_code
def yX5_readSitter : MethodName := ⟨RX5, "readSitter", "(I)V"⟩
abbrev cX5_readQueue : ByteArray := prog_7_method_87_code
def yX5_readQueue : MethodName := ⟨RX5, "readQueue", "()V"⟩
abbrev cX5_readNumber : ByteArray := prog_7_method_88_code
def yX5_readNumber : MethodName := ⟨RX5, "readNumber", "(II)V"⟩
abbrev cX5_readItem : ByteArray := prog_7_method_89_code
def yX5_readItem : MethodName := ⟨RX5, "readItem", "()V"⟩
abbrev cX5_isToldSo : ByteArray := prog_7_method_90_code
def yX5_isToldSo : MethodName := ⟨RX5, "isToldSo", "(I)V"⟩
abbrev cX5_text : ByteArray := prog_7_method_91_code
def yX5_text : MethodName := ⟨RX5, "text", "()I"⟩
abbrev cX5_isSpot : ByteArray := prog_7_method_92_code
def yX5_isSpot : MethodName := ⟨RX5, "isSpot", "(I)Z"⟩
abbrev cX5_hold : ByteArray := prog_7_method_93_code
def yX5_hold : MethodName := ⟨RX5, "hold", "(II)I"⟩
abbrev cX5_as : ByteArray := prog_7_method_94_code
def yX5_as : MethodName := ⟨RX5, "as", "(II)I"⟩
abbrev cX5_isSheet : ByteArray := prog_7_method_95_code
def yX5_isSheet : MethodName := ⟨RX5, "isSheet", "(I)Z"⟩
abbrev cX5_cutTo : ByteArray := prog_7_method_96_code
def yX5_cutTo : MethodName := ⟨RX5, "cutTo", "(II)I"⟩
abbrev cX5_sheet : ByteArray := prog_7_method_97_code
def yX5_sheet : MethodName := ⟨RX5, "sheet", "(III)I"⟩
abbrev cX5_write : ByteArray := prog_7_method_98_code
def yX5_write : MethodName := ⟨RX5, "write", "(III)I"⟩
abbrev cX5_copy : ByteArray := prog_7_method_99_code
def yX5_copy : MethodName := ⟨RX5, "copy", "(IIIII)I"⟩
abbrev cX5_above : ByteArray := prog_7_method_100_code
def yX5_above : MethodName := ⟨RX5, "above", "(I)I"⟩
abbrev cX5_isUnder : ByteArray := prog_7_method_101_code
def yX5_isUnder : MethodName := ⟨RX5, "isUnder", "(II)Z"⟩
abbrev cX5_load : ByteArray := prog_7_method_102_code
def yX5_load : MethodName := ⟨RX5, "load", "(I)I"⟩
abbrev cX5_judge : ByteArray := prog_7_method_103_code
def yX5_judge : MethodName := ⟨RX5, "judge", "(I)I"⟩
abbrev cX5_image : ByteArray := prog_7_method_104_code
def yX5_image : MethodName := ⟨RX5, "image", "()I"⟩
abbrev cX5_undo : ByteArray := prog_7_method_105_code
def yX5_undo : MethodName := ⟨RX5, "undo", "()I"⟩
abbrev cX5_tear : ByteArray := prog_7_method_106_code
def yX5_tear : MethodName := ⟨RX5, "tear", "()I"⟩
abbrev cX5_count : ByteArray := prog_7_method_107_code
def yX5_count : MethodName := ⟨RX5, "count", "(I)I"⟩
abbrev cX5_status : ByteArray := prog_7_method_108_code
def yX5_status : MethodName := ⟨RX5, "status", "(I)I"⟩
def RJ6 : String := "java/lang/Integer"
abbrev cJ6_bitCount_0f7a4 : ByteArray := prog_8_method_49_code
def yJ6_bitCount_0f7a4 : MethodName := ⟨RJ6, "bitCount", "(I)I"⟩
def RJ9 : String := "java/lang/Math"
abbrev cJ9_abs_0f7a4 : ByteArray := prog_9_method_59_code
def yJ9_abs_0f7a4 : MethodName := ⟨RJ9, "abs", "(I)I"⟩
abbrev cJ9_max_7cf53 : ByteArray := prog_9_method_65_code
def yJ9_max_7cf53 : MethodName := ⟨RJ9, "max", "(II)I"⟩
abbrev cJ9_min_7cf53 : ByteArray := prog_9_method_69_code
def yJ9_min_7cf53 : MethodName := ⟨RJ9, "min", "(II)I"⟩
def RJ0 : String := "java/lang/String"
abbrev cJ0_length_8abf5 : ByteArray := prog_10_method_54_code
def yJ0_length_8abf5 : MethodName := ⟨RJ0, "length", "()I"⟩
abbrev cJ0_charAt_5068e : ByteArray := prog_10_method_56_code
def yJ0_charAt_5068e : MethodName := ⟨RJ0, "charAt", "(I)C"⟩
abbrev cJ0_coder_7d493 : ByteArray := prog_10_method_152_code
def yJ0_coder_7d493 : MethodName := ⟨RJ0, "coder", "()B"⟩
abbrev cJ0_isLatin1_aae02 : ByteArray := prog_10_method_154_code
def yJ0_isLatin1_aae02 : MethodName := ⟨RJ0, "isLatin1", "()Z"⟩
abbrev cJ0_checkIndex_df160 : ByteArray := prog_10_method_155_code
def yJ0_checkIndex_df160 : MethodName := ⟨RJ0, "checkIndex", "(II)V"⟩
def RJ1 : String := "java/lang/StringLatin1"
abbrev cJ1_charAt_3b067 : ByteArray := prog_11_method_2_code
def yJ1_charAt_3b067 : MethodName := ⟨RJ1, "charAt", "([BI)C"⟩
def RJ2 : String := "java/lang/StringUTF16"
abbrev cJ2_getChar_3b067 : ByteArray := prog_12_method_5_code
def yJ2_getChar_3b067 : MethodName := ⟨RJ2, "getChar", "([BI)C"⟩
abbrev cJ2_length_9d52b : ByteArray := prog_12_method_6_code
def yJ2_length_9d52b : MethodName := ⟨RJ2, "length", "([B)I"⟩
abbrev cJ2_charAt_3b067 : ByteArray := prog_12_method_83_code
def yJ2_charAt_3b067 : MethodName := ⟨RJ2, "charAt", "([BI)C"⟩
abbrev cJ2_checkIndex_2214a : ByteArray := prog_12_method_91_code
def yJ2_checkIndex_2214a : MethodName := ⟨RJ2, "checkIndex", "(I[B)V"⟩
def RJ10 : String := "java/lang/System"
def RJ3 : String := "jdk/internal/util/Preconditions"
abbrev cJ3_checkIndex_8e157 : ByteArray := prog_14_method_11_code
def yJ3_checkIndex_8e157 : MethodName := ⟨RJ3, "checkIndex", "(IILjava/util/function/BiFunction;)I"⟩
def RL : String := "BoothFlashLaw"
abbrev cL_law : ByteArray := code
def yL_law : MethodName := ⟨RL, "law", "([I)Z"⟩
set_option maxRecDepth 20000 in
theorem wv_X4_finding : Cond.selects RX4 yX4_finding yX4_finding ∈ TT := tt_0 0 (by decide +kernel) (by decide +kernel)
set_option maxRecDepth 20000 in
theorem wv_X4_sheetAt : Cond.selects RX4 yX4_sheetAt yX4_sheetAt ∈ TT := tt_0 1 (by decide +kernel) (by decide +kernel)
set_option maxRecDepth 20000 in
theorem wv_X4_isTallAsTold : Cond.selects RX4 yX4_isTallAsTold yX4_isTallAsTold ∈ TT := tt_0 2 (by decide +kernel) (by decide +kernel)
set_option maxRecDepth 20000 in
theorem wv_X4_isKindAsTold : Cond.selects RX4 yX4_isKindAsTold yX4_isKindAsTold ∈ TT := tt_0 3 (by decide +kernel) (by decide +kernel)
set_option maxRecDepth 20000 in
theorem wv_X4_lightsWithoutFaults : Cond.selects RX4 yX4_lightsWithoutFaults yX4_lightsWithoutFaults ∈ TT := tt_0 4 (by decide +kernel) (by decide +kernel)
set_option maxRecDepth 20000 in
theorem wv_X5_become : Cond.selects RX5 yX5_become yX5_become ∈ TT := tt_0 5 (by decide +kernel) (by decide +kernel)
set_option maxRecDepth 20000 in
theorem wv_X5_finding : Cond.selects RX5 yX5_finding yX5_finding ∈ TT := tt_0 6 (by decide +kernel) (by decide +kernel)
set_option maxRecDepth 20000 in
theorem wv_X5_isInQueue : Cond.selects RX5 yX5_isInQueue yX5_isInQueue ∈ TT := tt_0 7 (by decide +kernel) (by decide +kernel)
set_option maxRecDepth 20000 in
theorem wv_X5_isSitter : Cond.selects RX5 yX5_isSitter yX5_isSitter ∈ TT := tt_0 8 (by decide +kernel) (by decide +kernel)
set_option maxRecDepth 20000 in
theorem wv_X5_comes : Cond.selects RX5 yX5_comes yX5_comes ∈ TT := tt_0 9 (by decide +kernel) (by decide +kernel)
set_option maxRecDepth 20000 in
theorem wv_X5_sitterIs : Cond.selects RX5 yX5_sitterIs yX5_sitterIs ∈ TT := tt_0 10 (by decide +kernel) (by decide +kernel)
set_option maxRecDepth 20000 in
theorem wv_X5_off : Cond.selects RX5 yX5_off yX5_off ∈ TT := tt_0 11 (by decide +kernel) (by decide +kernel)
set_option maxRecDepth 20000 in
theorem wv_X5_may : Cond.selects RX5 yX5_may yX5_may ∈ TT := tt_0 12 (by decide +kernel) (by decide +kernel)
set_option maxRecDepth 20000 in
theorem wv_X5_faultsNow : Cond.selects RX5 yX5_faultsNow yX5_faultsNow ∈ TT := tt_0 13 (by decide +kernel) (by decide +kernel)
set_option maxRecDepth 20000 in
theorem wv_X5_isShut : Cond.selects RX5 yX5_isShut yX5_isShut ∈ TT := tt_0 14 (by decide +kernel) (by decide +kernel)
set_option maxRecDepth 20000 in
theorem wv_X5_isSmiling : Cond.selects RX5 yX5_isSmiling yX5_isSmiling ∈ TT := tt_0 15 (by decide +kernel) (by decide +kernel)
set_option maxRecDepth 20000 in
theorem wv_X5_isShining : Cond.selects RX5 yX5_isShining yX5_isShining ∈ TT := tt_0 16 (by decide +kernel) (by decide +kernel)
set_option maxRecDepth 20000 in
theorem wv_X5_minutes : Cond.selects RX5 yX5_minutes yX5_minutes ∈ TT := tt_0 17 (by decide +kernel) (by decide +kernel)
set_option maxRecDepth 20000 in
theorem wv_X5_minute : Cond.selects RX5 yX5_minute yX5_minute ∈ TT := tt_0 18 (by decide +kernel) (by decide +kernel)
set_option maxRecDepth 20000 in
theorem wv_X5_next : Cond.selects RX5 yX5_next yX5_next ∈ TT := tt_0 19 (by decide +kernel) (by decide +kernel)
set_option maxRecDepth 20000 in
theorem wv_X5_sits : Cond.selects RX5 yX5_sits yX5_sits ∈ TT := tt_0 20 (by decide +kernel) (by decide +kernel)
set_option maxRecDepth 20000 in
theorem wv_X5_turnsStool : Cond.selects RX5 yX5_turnsStool yX5_turnsStool ∈ TT := tt_0 21 (by decide +kernel) (by decide +kernel)
set_option maxRecDepth 20000 in
theorem wv_X5_isGood : Cond.selects RX5 yX5_isGood yX5_isGood ∈ TT := tt_0 22 (by decide +kernel) (by decide +kernel)
set_option maxRecDepth 20000 in
theorem wv_X5_sumOf : Cond.selects RX5 yX5_sumOf yX5_sumOf ∈ TT := tt_0 23 (by decide +kernel) (by decide +kernel)
set_option maxRecDepth 20000 in
theorem wv_X5_goodOnes : Cond.selects RX5 yX5_goodOnes yX5_goodOnes ∈ TT := tt_0 24 (by decide +kernel) (by decide +kernel)
set_option maxRecDepth 20000 in
theorem wv_X5_commonFaults : Cond.selects RX5 yX5_commonFaults yX5_commonFaults ∈ TT := tt_0 25 (by decide +kernel) (by decide +kernel)
set_option maxRecDepth 20000 in
theorem wv_X5_behind : Cond.selects RX5 yX5_behind yX5_behind ∈ TT := tt_0 26 (by decide +kernel) (by decide +kernel)
set_option maxRecDepth 20000 in
theorem wv_X5_putBack : Cond.selects RX5 yX5_putBack yX5_putBack ∈ TT := tt_0 27 (by decide +kernel) (by decide +kernel)
set_option maxRecDepth 20000 in
theorem wv_X5_orNone : Cond.selects RX5 yX5_orNone yX5_orNone ∈ TT := tt_0 28 (by decide +kernel) (by decide +kernel)
set_option maxRecDepth 20000 in
theorem wv_X5_areAllTaken : Cond.selects RX5 yX5_areAllTaken yX5_areAllTaken ∈ TT := tt_0 29 (by decide +kernel) (by decide +kernel)
set_option maxRecDepth 20000 in
theorem wv_X5_faultsTogether : Cond.selects RX5 yX5_faultsTogether yX5_faultsTogether ∈ TT := tt_0 30 (by decide +kernel) (by decide +kernel)
set_option maxRecDepth 20000 in
theorem wv_X5_isTakenWith : Cond.selects RX5 yX5_isTakenWith yX5_isTakenWith ∈ TT := tt_0 31 (by decide +kernel) (by decide +kernel)
set_option maxRecDepth 20000 in
theorem wv_X5_takenWith : Cond.selects RX5 yX5_takenWith yX5_takenWith ∈ TT := tt_0 32 (by decide +kernel) (by decide +kernel)
set_option maxRecDepth 20000 in
theorem wv_X5_takenWithout : Cond.selects RX5 yX5_takenWithout yX5_takenWithout ∈ TT := tt_0 33 (by decide +kernel) (by decide +kernel)
set_option maxRecDepth 20000 in
theorem wv_X5_lacks : Cond.selects RX5 yX5_lacks yX5_lacks ∈ TT := tt_0 34 (by decide +kernel) (by decide +kernel)
set_option maxRecDepth 20000 in
theorem wv_X5_fitTall : Cond.selects RX5 yX5_fitTall yX5_fitTall ∈ TT := tt_0 35 (by decide +kernel) (by decide +kernel)
set_option maxRecDepth 20000 in
theorem wv_X5_areFaultsSo : Cond.selects RX5 yX5_areFaultsSo yX5_areFaultsSo ∈ TT := tt_0 36 (by decide +kernel) (by decide +kernel)
set_option maxRecDepth 20000 in
theorem wv_X5_wasTakenSo : Cond.selects RX5 yX5_wasTakenSo yX5_wasTakenSo ∈ TT := tt_0 37 (by decide +kernel) (by decide +kernel)
set_option maxRecDepth 20000 in
theorem wv_X5_drawn : Cond.selects RX5 yX5_drawn yX5_drawn ∈ TT := tt_0 38 (by decide +kernel) (by decide +kernel)
set_option maxRecDepth 20000 in
theorem wv_X5_token : Cond.selects RX5 yX5_token yX5_token ∈ TT := tt_0 39 (by decide +kernel) (by decide +kernel)
set_option maxRecDepth 20000 in
theorem wv_X5_byteAt : Cond.selects RX5 yX5_byteAt yX5_byteAt ∈ TT := tt_0 40 (by decide +kernel) (by decide +kernel)
set_option maxRecDepth 20000 in
theorem wv_X5_readItem : Cond.selects RX5 yX5_readItem yX5_readItem ∈ TT := tt_0 41 (by decide +kernel) (by decide +kernel)
set_option maxRecDepth 20000 in
theorem wv_X5_kindTold : Cond.selects RX5 yX5_kindTold yX5_kindTold ∈ TT := tt_0 42 (by decide +kernel) (by decide +kernel)
set_option maxRecDepth 20000 in
theorem wv_X5_isWord : Cond.selects RX5 yX5_isWord yX5_isWord ∈ TT := tt_0 43 (by decide +kernel) (by decide +kernel)
set_option maxRecDepth 20000 in
theorem wv_X5_readSitter : Cond.selects RX5 yX5_readSitter yX5_readSitter ∈ TT := tt_0 44 (by decide +kernel) (by decide +kernel)
set_option maxRecDepth 20000 in
theorem wv_X5_must : Cond.selects RX5 yX5_must yX5_must ∈ TT := tt_0 45 (by decide +kernel) (by decide +kernel)
set_option maxRecDepth 20000 in
theorem wv_X5_perhaps : Cond.selects RX5 yX5_perhaps yX5_perhaps ∈ TT := tt_0 46 (by decide +kernel) (by decide +kernel)
set_option maxRecDepth 20000 in
theorem wv_X5_number : Cond.selects RX5 yX5_number yX5_number ∈ TT := tt_0 47 (by decide +kernel) (by decide +kernel)
set_option maxRecDepth 20000 in
theorem wv_X5_addItem : Cond.selects RX5 yX5_addItem yX5_addItem ∈ TT := tt_0 48 (by decide +kernel) (by decide +kernel)
set_option maxRecDepth 20000 in
theorem wv_X5_readQueue : Cond.selects RX5 yX5_readQueue yX5_readQueue ∈ TT := tt_0 49 (by decide +kernel) (by decide +kernel)
set_option maxRecDepth 20000 in
theorem wv_X5_readNumber : Cond.selects RX5 yX5_readNumber yX5_readNumber ∈ TT := tt_0 50 (by decide +kernel) (by decide +kernel)
set_option maxRecDepth 20000 in
theorem wv_X5_isToldSo : Cond.selects RX5 yX5_isToldSo yX5_isToldSo ∈ TT := tt_0 51 (by decide +kernel) (by decide +kernel)
set_option maxRecDepth 20000 in
theorem wn_L : Cond.initialized RL ∈ TT := tt_1 0 (by decide +kernel) (by decide +kernel)
set_option maxRecDepth 20000 in
theorem wn_X4 : Cond.initialized RX4 ∈ TT := tt_1 1 (by decide +kernel) (by decide +kernel)
set_option maxRecDepth 20000 in
theorem wn_X0 : Cond.initialized RX0 ∈ TT := tt_1 2 (by decide +kernel) (by decide +kernel)
set_option maxRecDepth 20000 in
theorem wn_X2 : Cond.initialized RX2 ∈ TT := tt_1 3 (by decide +kernel) (by decide +kernel)
set_option maxRecDepth 20000 in
theorem wn_X3 : Cond.initialized RX3 ∈ TT := tt_1 4 (by decide +kernel) (by decide +kernel)
set_option maxRecDepth 20000 in
theorem wn_X1 : Cond.initialized RX1 ∈ TT := tt_1 5 (by decide +kernel) (by decide +kernel)
set_option maxRecDepth 20000 in
theorem wn_X5 : Cond.initialized RX5 ∈ TT := tt_1 6 (by decide +kernel) (by decide +kernel)
set_option maxRecDepth 20000 in
theorem wn_J9 : Cond.initialized RJ9 ∈ TT := tt_1 7 (by decide +kernel) (by decide +kernel)
set_option maxRecDepth 20000 in
theorem wn_J6 : Cond.initialized RJ6 ∈ TT := tt_1 8 (by decide +kernel) (by decide +kernel)
set_option maxRecDepth 20000 in
theorem wn_J10 : Cond.initialized RJ10 ∈ TT := tt_1 9 (by decide +kernel) (by decide +kernel)
set_option maxRecDepth 20000 in
theorem wn_J0 : Cond.initialized RJ0 ∈ TT := tt_1 10 (by decide +kernel) (by decide +kernel)
set_option maxRecDepth 20000 in
theorem wn_J1 : Cond.initialized RJ1 ∈ TT := tt_1 11 (by decide +kernel) (by decide +kernel)
set_option maxRecDepth 20000 in
theorem wn_J3 : Cond.initialized RJ3 ∈ TT := tt_1 12 (by decide +kernel) (by decide +kernel)
set_option maxRecDepth 20000 in
theorem wn_J2 : Cond.initialized RJ2 ∈ TT := tt_1 13 (by decide +kernel) (by decide +kernel)
set_option maxRecDepth 20000 in
theorem wl_L_7 : Cond.classLink RL 7 RX4 ∈ TT := tt_1 14 (by decide +kernel) (by decide +kernel)
set_option maxRecDepth 20000 in
theorem wa_X4 : Cond.instantiable RX4 7 ∈ TT := tt_1 15 (by decide +kernel) (by decide +kernel)
set_option maxRecDepth 20000 in
theorem wm_L_9 : Cond.methodLink RL 9 yX4_init ∈ TT := tt_1 16 (by decide +kernel) (by decide +kernel)
set_option maxRecDepth 20000 in
theorem wi_X4_init : Cond.instanceMethod yX4_init ∈ TT := tt_1 17 (by decide +kernel) (by decide +kernel)
set_option maxRecDepth 20000 in
theorem wc_X4_init : Cond.code yX4_init cX4_init 2 none ∈ TT := tt_1 18 (by decide +kernel) (by decide +kernel)
set_option maxRecDepth 20000 in
theorem wm_X4_1 : Cond.methodLink RX4 1 objectInit ∈ TT := tt_1 19 (by decide +kernel) (by decide +kernel)
set_option maxRecDepth 20000 in
theorem wi_objectInit : Cond.instanceMethod objectInit ∈ TT := tt_1 20 (by decide +kernel) (by decide +kernel)
set_option maxRecDepth 20000 in
theorem wc_objectInit : Cond.code objectInit ⟨#[0xb1]⟩ 1 none ∈ TT := tt_1 21 (by decide +kernel) (by decide +kernel)
set_option maxRecDepth 20000 in
theorem wl_X4_7 : Cond.classLink RX4 7 RX0 ∈ TT := tt_1 22 (by decide +kernel) (by decide +kernel)
set_option maxRecDepth 20000 in
theorem wa_X0 : Cond.instantiable RX0 10 ∈ TT := tt_1 23 (by decide +kernel) (by decide +kernel)
set_option maxRecDepth 20000 in
theorem wm_X4_9 : Cond.methodLink RX4 9 yX0_init ∈ TT := tt_1 24 (by decide +kernel) (by decide +kernel)
set_option maxRecDepth 20000 in
theorem wi_X0_init : Cond.instanceMethod yX0_init ∈ TT := tt_1 25 (by decide +kernel) (by decide +kernel)
set_option maxRecDepth 20000 in
theorem wc_X0_init : Cond.code yX0_init cX0_init 2 none ∈ TT := tt_1 26 (by decide +kernel) (by decide +kernel)
set_option maxRecDepth 20000 in
theorem wm_X0_3 : Cond.methodLink RX0 3 objectInit ∈ TT := tt_1 27 (by decide +kernel) (by decide +kernel)
set_option maxRecDepth 20000 in
theorem wl_X0_33 : Cond.classLink RX0 33 RX2 ∈ TT := tt_1 28 (by decide +kernel) (by decide +kernel)
set_option maxRecDepth 20000 in
theorem wa_X2 : Cond.instantiable RX2 7 ∈ TT := tt_1 30 (by decide +kernel) (by decide +kernel)
set_option maxRecDepth 20000 in
theorem wm_X0_39 : Cond.methodLink RX0 39 yX2_init ∈ TT := tt_1 31 (by decide +kernel) (by decide +kernel)
set_option maxRecDepth 20000 in
theorem wi_X2_init : Cond.instanceMethod yX2_init ∈ TT := tt_1 32 (by decide +kernel) (by decide +kernel)
set_option maxRecDepth 20000 in
theorem wc_X2_init : Cond.code yX2_init cX2_init 1 none ∈ TT := tt_1 33 (by decide +kernel) (by decide +kernel)
set_option maxRecDepth 20000 in
theorem wm_X2_3 : Cond.methodLink RX2 3 objectInit ∈ TT := tt_1 34 (by decide +kernel) (by decide +kernel)
set_option maxRecDepth 20000 in
theorem wm_X2_9 : Cond.methodLink RX2 9 yX2_begin ∈ TT := tt_1 35 (by decide +kernel) (by decide +kernel)
set_option maxRecDepth 20000 in
theorem wi_X2_begin : Cond.instanceMethod yX2_begin ∈ TT := tt_1 36 (by decide +kernel) (by decide +kernel)
set_option maxRecDepth 20000 in
theorem wv_X2_begin : Cond.selects RX2 yX2_begin yX2_begin ∈ TT := tt_1 37 (by decide +kernel) (by decide +kernel)
set_option maxRecDepth 20000 in
theorem wc_X2_begin : Cond.code yX2_begin cX2_begin 2 none ∈ TT := tt_1 38 (by decide +kernel) (by decide +kernel)
set_option maxRecDepth 20000 in
theorem wf_X2_15 : Cond.fieldLink RX2 15 "BoothFlash$Sitter" "kind" "I" ∈ TT := tt_1 39 (by decide +kernel) (by decide +kernel)
set_option maxRecDepth 20000 in
theorem wf_X4_225 : Cond.fieldLink RX4 225 "BoothFlash$Sitter" "kind" "I" ∈ TT := tt_1 40 (by decide +kernel) (by decide +kernel)
set_option maxRecDepth 20000 in
theorem wf_X2_19 : Cond.fieldLink RX2 19 "BoothFlash$Sitter" "tall" "I" ∈ TT := tt_1 41 (by decide +kernel) (by decide +kernel)
set_option maxRecDepth 20000 in
theorem wf_X0_160 : Cond.fieldLink RX0 160 "BoothFlash$Sitter" "tall" "I" ∈ TT := tt_1 42 (by decide +kernel) (by decide +kernel)
set_option maxRecDepth 20000 in
theorem wf_X4_267 : Cond.fieldLink RX4 267 "BoothFlash$Sitter" "tall" "I" ∈ TT := tt_1 43 (by decide +kernel) (by decide +kernel)
set_option maxRecDepth 20000 in
theorem wf_X2_22 : Cond.fieldLink RX2 22 "BoothFlash$Sitter" "still" "I" ∈ TT := tt_1 44 (by decide +kernel) (by decide +kernel)
set_option maxRecDepth 20000 in
theorem wf_X0_151 : Cond.fieldLink RX0 151 "BoothFlash$Sitter" "still" "I" ∈ TT := tt_1 45 (by decide +kernel) (by decide +kernel)
set_option maxRecDepth 20000 in
theorem wf_X2_25 : Cond.fieldLink RX2 25 "BoothFlash$Sitter" "merry" "I" ∈ TT := tt_1 46 (by decide +kernel) (by decide +kernel)
set_option maxRecDepth 20000 in
theorem wf_X0_154 : Cond.fieldLink RX0 154 "BoothFlash$Sitter" "merry" "I" ∈ TT := tt_1 47 (by decide +kernel) (by decide +kernel)
set_option maxRecDepth 20000 in
theorem wf_X2_28 : Cond.fieldLink RX2 28 "BoothFlash$Sitter" "coins" "I" ∈ TT := tt_1 48 (by decide +kernel) (by decide +kernel)
set_option maxRecDepth 20000 in
theorem wf_X0_124 : Cond.fieldLink RX0 124 "BoothFlash$Sitter" "coins" "I" ∈ TT := tt_1 49 (by decide +kernel) (by decide +kernel)
set_option maxRecDepth 20000 in
theorem wf_X2_31 : Cond.fieldLink RX2 31 "BoothFlash$Sitter" "taken" "I" ∈ TT := tt_1 50 (by decide +kernel) (by decide +kernel)
set_option maxRecDepth 20000 in
theorem wf_X0_148 : Cond.fieldLink RX0 148 "BoothFlash$Sitter" "taken" "I" ∈ TT := tt_1 51 (by decide +kernel) (by decide +kernel)
set_option maxRecDepth 20000 in
theorem wf_X4_261 : Cond.fieldLink RX4 261 "BoothFlash$Sitter" "taken" "I" ∈ TT := tt_1 52 (by decide +kernel) (by decide +kernel)
set_option maxRecDepth 20000 in
theorem wf_X2_34 : Cond.fieldLink RX2 34 "BoothFlash$Sitter" "tried" "I" ∈ TT := tt_1 53 (by decide +kernel) (by decide +kernel)
set_option maxRecDepth 20000 in
theorem wf_X0_141 : Cond.fieldLink RX0 141 "BoothFlash$Sitter" "tried" "I" ∈ TT := tt_1 54 (by decide +kernel) (by decide +kernel)
set_option maxRecDepth 20000 in
theorem wf_X0_9 : Cond.fieldLink RX0 9 "BoothFlash$Booth" "stool" "I" ∈ TT := tt_1 70 (by decide +kernel) (by decide +kernel)
set_option maxRecDepth 20000 in
theorem wf_X4_94 : Cond.fieldLink RX4 94 "BoothFlash$Booth" "stool" "I" ∈ TT := tt_1 71 (by decide +kernel) (by decide +kernel)
set_option maxRecDepth 20000 in
theorem wf_X0_15 : Cond.fieldLink RX0 15 "BoothFlash$Booth" "light" "I" ∈ TT := tt_1 72 (by decide +kernel) (by decide +kernel)
set_option maxRecDepth 20000 in
theorem wf_X4_165 : Cond.fieldLink RX4 165 "BoothFlash$Booth" "light" "I" ∈ TT := tt_1 73 (by decide +kernel) (by decide +kernel)
set_option maxRecDepth 20000 in
theorem wf_X0_18 : Cond.fieldLink RX0 18 "BoothFlash$Booth" "price" "I" ∈ TT := tt_1 74 (by decide +kernel) (by decide +kernel)
set_option maxRecDepth 20000 in
theorem wf_X4_152 : Cond.fieldLink RX4 152 "BoothFlash$Booth" "price" "I" ∈ TT := tt_1 75 (by decide +kernel) (by decide +kernel)
set_option maxRecDepth 20000 in
theorem wf_X0_21 : Cond.fieldLink RX0 21 "BoothFlash$Booth" "till" "I" ∈ TT := tt_1 76 (by decide +kernel) (by decide +kernel)
set_option maxRecDepth 20000 in
theorem wf_X4_168 : Cond.fieldLink RX4 168 "BoothFlash$Booth" "till" "I" ∈ TT := tt_1 77 (by decide +kernel) (by decide +kernel)
set_option maxRecDepth 20000 in
theorem wf_X0_24 : Cond.fieldLink RX0 24 "BoothFlash$Booth" "minute" "I" ∈ TT := tt_1 78 (by decide +kernel) (by decide +kernel)
set_option maxRecDepth 20000 in
theorem wf_X4_116 : Cond.fieldLink RX4 116 "BoothFlash$Booth" "minute" "I" ∈ TT := tt_1 79 (by decide +kernel) (by decide +kernel)
set_option maxRecDepth 20000 in
theorem wf_X0_27 : Cond.fieldLink RX0 27 "BoothFlash$Booth" "z" "I" ∈ TT := tt_1 80 (by decide +kernel) (by decide +kernel)
set_option maxRecDepth 20000 in
theorem wf_X4_205 : Cond.fieldLink RX4 205 "BoothFlash$Booth" "z" "I" ∈ TT := tt_1 81 (by decide +kernel) (by decide +kernel)
set_option maxRecDepth 20000 in
theorem wf_X0_30 : Cond.fieldLink RX0 30 "BoothFlash$Booth" "sitterCount" "I" ∈ TT := tt_1 82 (by decide +kernel) (by decide +kernel)
set_option maxRecDepth 20000 in
theorem wf_X3_83 : Cond.fieldLink RX3 83 "BoothFlash$Booth" "sitterCount" "I" ∈ TT := tt_1 83 (by decide +kernel) (by decide +kernel)
set_option maxRecDepth 20000 in
theorem wf_X4_155 : Cond.fieldLink RX4 155 "BoothFlash$Booth" "sitterCount" "I" ∈ TT := tt_1 84 (by decide +kernel) (by decide +kernel)
set_option maxRecDepth 20000 in
theorem wf_X0_35 : Cond.fieldLink RX0 35 "BoothFlash$Booth" "sitters" "[LBoothFlash$Sitter;" ∈ TT := tt_1 85 (by decide +kernel) (by decide +kernel)
set_option maxRecDepth 20000 in
theorem wf_X0_40 : Cond.fieldLink RX0 40 "BoothFlash$Booth" "places" "[I" ∈ TT := tt_1 86 (by decide +kernel) (by decide +kernel)
set_option maxRecDepth 20000 in
theorem wf_X0_44 : Cond.fieldLink RX0 44 "BoothFlash$Booth" "spots" "[I" ∈ TT := tt_1 87 (by decide +kernel) (by decide +kernel)
set_option maxRecDepth 20000 in
theorem wf_X4_221 : Cond.fieldLink RX4 221 "BoothFlash$Booth" "spots" "[I" ∈ TT := tt_1 88 (by decide +kernel) (by decide +kernel)
set_option maxRecDepth 20000 in
theorem wac_int : Cond.arrayClass .int ∈ TT := tt_1 110 (by decide +kernel) (by decide +kernel)
set_option maxRecDepth 20000 in
theorem wl_X4_26 : Cond.classLink RX4 26 RX3 ∈ TT := tt_1 111 (by decide +kernel) (by decide +kernel)
set_option maxRecDepth 20000 in
theorem wa_X3 : Cond.instantiable RX3 6 ∈ TT := tt_1 112 (by decide +kernel) (by decide +kernel)
set_option maxRecDepth 20000 in
theorem wm_X4_28 : Cond.methodLink RX4 28 yX3_init ∈ TT := tt_1 113 (by decide +kernel) (by decide +kernel)
set_option maxRecDepth 20000 in
theorem wi_X3_init : Cond.instanceMethod yX3_init ∈ TT := tt_1 114 (by decide +kernel) (by decide +kernel)
set_option maxRecDepth 20000 in
theorem wc_X3_init : Cond.code yX3_init cX3_init 1 none ∈ TT := tt_1 115 (by decide +kernel) (by decide +kernel)
set_option maxRecDepth 20000 in
theorem wm_X3_3 : Cond.methodLink RX3 3 objectInit ∈ TT := tt_1 116 (by decide +kernel) (by decide +kernel)
set_option maxRecDepth 20000 in
theorem wf_X3_11 : Cond.fieldLink RX3 11 "BoothFlash$Tape" "bytes" "[I" ∈ TT := tt_1 117 (by decide +kernel) (by decide +kernel)
set_option maxRecDepth 20000 in
theorem wf_X3_15 : Cond.fieldLink RX3 15 "BoothFlash$Tape" "size" "I" ∈ TT := tt_1 118 (by decide +kernel) (by decide +kernel)
set_option maxRecDepth 20000 in
theorem wf_X4_214 : Cond.fieldLink RX4 214 "BoothFlash$Tape" "size" "I" ∈ TT := tt_1 119 (by decide +kernel) (by decide +kernel)
set_option maxRecDepth 20000 in
theorem wf_X3_19 : Cond.fieldLink RX3 19 "BoothFlash$Tape" "begin" "I" ∈ TT := tt_1 120 (by decide +kernel) (by decide +kernel)
set_option maxRecDepth 20000 in
theorem wf_X3_22 : Cond.fieldLink RX3 22 "BoothFlash$Tape" "behind" "I" ∈ TT := tt_1 121 (by decide +kernel) (by decide +kernel)
set_option maxRecDepth 20000 in
theorem wf_X3_25 : Cond.fieldLink RX3 25 "BoothFlash$Tape" "type" "I" ∈ TT := tt_1 122 (by decide +kernel) (by decide +kernel)
set_option maxRecDepth 20000 in
theorem wf_X3_28 : Cond.fieldLink RX3 28 "BoothFlash$Tape" "value" "I" ∈ TT := tt_1 123 (by decide +kernel) (by decide +kernel)
set_option maxRecDepth 20000 in
theorem wl_X4_33 : Cond.classLink RX4 33 RX1 ∈ TT := tt_1 137 (by decide +kernel) (by decide +kernel)
set_option maxRecDepth 20000 in
theorem wa_X1 : Cond.instantiable RX1 3 ∈ TT := tt_1 139 (by decide +kernel) (by decide +kernel)
set_option maxRecDepth 20000 in
theorem wm_X4_39 : Cond.methodLink RX4 39 yX1_init ∈ TT := tt_1 140 (by decide +kernel) (by decide +kernel)
set_option maxRecDepth 20000 in
theorem wi_X1_init : Cond.instanceMethod yX1_init ∈ TT := tt_1 141 (by decide +kernel) (by decide +kernel)
set_option maxRecDepth 20000 in
theorem wc_X1_init : Cond.code yX1_init cX1_init 1 none ∈ TT := tt_1 142 (by decide +kernel) (by decide +kernel)
set_option maxRecDepth 20000 in
theorem wm_X1_1 : Cond.methodLink RX1 1 objectInit ∈ TT := tt_1 143 (by decide +kernel) (by decide +kernel)
set_option maxRecDepth 20000 in
theorem wf_X1_7 : Cond.fieldLink RX1 7 "BoothFlash$Sheet" "bits" "I" ∈ TT := tt_1 144 (by decide +kernel) (by decide +kernel)
set_option maxRecDepth 20000 in
theorem wf_X4_243 : Cond.fieldLink RX4 243 "BoothFlash$Sheet" "bits" "I" ∈ TT := tt_1 145 (by decide +kernel) (by decide +kernel)
set_option maxRecDepth 20000 in
theorem wf_X1_13 : Cond.fieldLink RX1 13 "BoothFlash$Sheet" "size" "I" ∈ TT := tt_1 146 (by decide +kernel) (by decide +kernel)
set_option maxRecDepth 20000 in
theorem wf_X4_239 : Cond.fieldLink RX4 239 "BoothFlash$Sheet" "size" "I" ∈ TT := tt_1 147 (by decide +kernel) (by decide +kernel)
set_option maxRecDepth 20000 in
theorem wf_X1_16 : Cond.fieldLink RX1 16 "BoothFlash$Sheet" "numbers" "[I" ∈ TT := tt_1 148 (by decide +kernel) (by decide +kernel)
set_option maxRecDepth 20000 in
theorem wf_X4_249 : Cond.fieldLink RX4 249 "BoothFlash$Sheet" "numbers" "[I" ∈ TT := tt_1 149 (by decide +kernel) (by decide +kernel)
set_option maxRecDepth 20000 in
theorem wf_X4_10 : Cond.fieldLink RX4 10 "BoothFlash" "real" "LBoothFlash$Booth;" ∈ TT := tt_1 157 (by decide +kernel) (by decide +kernel)
set_option maxRecDepth 20000 in
theorem wf_X4_16 : Cond.fieldLink RX4 16 "BoothFlash" "trial" "LBoothFlash$Booth;" ∈ TT := tt_1 158 (by decide +kernel) (by decide +kernel)
set_option maxRecDepth 20000 in
theorem wf_X4_19 : Cond.fieldLink RX4 19 "BoothFlash" "kept" "LBoothFlash$Booth;" ∈ TT := tt_1 159 (by decide +kernel) (by decide +kernel)
set_option maxRecDepth 20000 in
theorem wf_X4_22 : Cond.fieldLink RX4 22 "BoothFlash" "isKept" "Z" ∈ TT := tt_1 160 (by decide +kernel) (by decide +kernel)
set_option maxRecDepth 20000 in
theorem wf_X4_29 : Cond.fieldLink RX4 29 "BoothFlash" "tape" "LBoothFlash$Tape;" ∈ TT := tt_1 161 (by decide +kernel) (by decide +kernel)
set_option maxRecDepth 20000 in
theorem wf_X4_35 : Cond.fieldLink RX4 35 "BoothFlash" "sheets" "[LBoothFlash$Sheet;" ∈ TT := tt_1 162 (by decide +kernel) (by decide +kernel)
set_option maxRecDepth 20000 in
theorem wf_X4_40 : Cond.fieldLink RX4 40 "BoothFlash" "found" "[I" ∈ TT := tt_1 163 (by decide +kernel) (by decide +kernel)
set_option maxRecDepth 20000 in
theorem wm_L_13 : Cond.methodLink RL 13 yX4_set ∈ TT := tt_1 179 (by decide +kernel) (by decide +kernel)
set_option maxRecDepth 20000 in
theorem wi_X4_set : Cond.instanceMethod yX4_set ∈ TT := tt_1 180 (by decide +kernel) (by decide +kernel)
set_option maxRecDepth 20000 in
theorem wv_X4_set : Cond.selects RX4 yX4_set yX4_set ∈ TT := tt_1 181 (by decide +kernel) (by decide +kernel)
set_option maxRecDepth 20000 in
theorem wc_X4_set : Cond.code yX4_set cX4_set 4 (some .int) ∈ TT := tt_1 182 (by decide +kernel) (by decide +kernel)
set_option maxRecDepth 20000 in
theorem wm_X4_44 : Cond.methodLink RX4 44 yX0_isPart ∈ TT := tt_1 183 (by decide +kernel) (by decide +kernel)
set_option maxRecDepth 20000 in
theorem wt_X0_isPart : Cond.static yX0_isPart ∈ TT := tt_1 184 (by decide +kernel) (by decide +kernel)
set_option maxRecDepth 20000 in
theorem wc_X0_isPart : Cond.code yX0_isPart cX0_isPart 1 (some .boolean) ∈ TT := tt_1 185 (by decide +kernel) (by decide +kernel)
set_option maxRecDepth 20000 in
theorem wm_X4_48 : Cond.methodLink RX4 48 yX0_mostOf ∈ TT := tt_1 186 (by decide +kernel) (by decide +kernel)
set_option maxRecDepth 20000 in
theorem wt_X0_mostOf : Cond.static yX0_mostOf ∈ TT := tt_1 187 (by decide +kernel) (by decide +kernel)
set_option maxRecDepth 20000 in
theorem wc_X0_mostOf : Cond.code yX0_mostOf cX0_mostOf 1 (some .int) ∈ TT := tt_1 188 (by decide +kernel) (by decide +kernel)
set_option maxRecDepth 20000 in
theorem wk_X0_57 : Cond.constant RX0 57 (99999) ∈ TT := tt_1 189 (by decide +kernel) (by decide +kernel)
set_option maxRecDepth 20000 in
theorem wm_X4_52 : Cond.methodLink RX4 52 yX4_isWithin ∈ TT := tt_1 190 (by decide +kernel) (by decide +kernel)
set_option maxRecDepth 20000 in
theorem wt_X4_isWithin : Cond.static yX4_isWithin ∈ TT := tt_1 191 (by decide +kernel) (by decide +kernel)
set_option maxRecDepth 20000 in
theorem wc_X4_isWithin : Cond.code yX4_isWithin cX4_isWithin 2 (some .boolean) ∈ TT := tt_1 192 (by decide +kernel) (by decide +kernel)
set_option maxRecDepth 20000 in
theorem wk_X4_56 : Cond.constant RX4 56 (-1000001) ∈ TT := tt_1 193 (by decide +kernel) (by decide +kernel)
set_option maxRecDepth 20000 in
theorem wm_X4_57 : Cond.methodLink RX4 57 yX4_finding ∈ TT := tt_1 194 (by decide +kernel) (by decide +kernel)
set_option maxRecDepth 20000 in
theorem wi_X4_finding : Cond.instanceMethod yX4_finding ∈ TT := tt_1 196 (by decide +kernel) (by decide +kernel)
set_option maxRecDepth 20000 in
theorem wc_X4_finding : Cond.code yX4_finding cX4_finding 3 (some .int) ∈ TT := tt_1 197 (by decide +kernel) (by decide +kernel)
set_option maxRecDepth 20000 in
theorem wm_X4_60 : Cond.methodLink RX4 60 yX0_part ∈ TT := tt_1 198 (by decide +kernel) (by decide +kernel)
set_option maxRecDepth 20000 in
theorem wi_X0_part : Cond.instanceMethod yX0_part ∈ TT := tt_1 199 (by decide +kernel) (by decide +kernel)
set_option maxRecDepth 20000 in
theorem wv_X0_part : Cond.selects RX0 yX0_part yX0_part ∈ TT := tt_1 200 (by decide +kernel) (by decide +kernel)
set_option maxRecDepth 20000 in
theorem wc_X0_part : Cond.code yX0_part cX0_part 2 (some .int) ∈ TT := tt_1 201 (by decide +kernel) (by decide +kernel)
set_option maxRecDepth 20000 in
theorem wm_X4_63 : Cond.methodLink RX4 63 yX0_putPart ∈ TT := tt_1 202 (by decide +kernel) (by decide +kernel)
set_option maxRecDepth 20000 in
theorem wi_X0_putPart : Cond.instanceMethod yX0_putPart ∈ TT := tt_1 203 (by decide +kernel) (by decide +kernel)
set_option maxRecDepth 20000 in
theorem wv_X0_putPart : Cond.selects RX0 yX0_putPart yX0_putPart ∈ TT := tt_1 204 (by decide +kernel) (by decide +kernel)
set_option maxRecDepth 20000 in
theorem wc_X0_putPart : Cond.code yX0_putPart cX0_putPart 3 none ∈ TT := tt_1 205 (by decide +kernel) (by decide +kernel)
set_option maxRecDepth 20000 in
theorem wm_L_18 : Cond.methodLink RL 18 yX4_booth ∈ TT := tt_1 206 (by decide +kernel) (by decide +kernel)
set_option maxRecDepth 20000 in
theorem wi_X4_booth : Cond.instanceMethod yX4_booth ∈ TT := tt_1 207 (by decide +kernel) (by decide +kernel)
set_option maxRecDepth 20000 in
theorem wv_X4_booth : Cond.selects RX4 yX4_booth yX4_booth ∈ TT := tt_1 208 (by decide +kernel) (by decide +kernel)
set_option maxRecDepth 20000 in
theorem wc_X4_booth : Cond.code yX4_booth cX4_booth 2 (some .int) ∈ TT := tt_1 209 (by decide +kernel) (by decide +kernel)
set_option maxRecDepth 20000 in
theorem wm_L_23 : Cond.methodLink RL 23 yX4_queue ∈ TT := tt_1 210 (by decide +kernel) (by decide +kernel)
set_option maxRecDepth 20000 in
theorem wi_X4_queue : Cond.instanceMethod yX4_queue ∈ TT := tt_1 211 (by decide +kernel) (by decide +kernel)
set_option maxRecDepth 20000 in
theorem wv_X4_queue : Cond.selects RX4 yX4_queue yX4_queue ∈ TT := tt_1 212 (by decide +kernel) (by decide +kernel)
set_option maxRecDepth 20000 in
theorem wc_X4_queue : Cond.code yX4_queue cX4_queue 4 (some .int) ∈ TT := tt_1 213 (by decide +kernel) (by decide +kernel)
set_option maxRecDepth 20000 in
theorem wm_X4_67 : Cond.methodLink RX4 67 yX0_isPlace ∈ TT := tt_1 214 (by decide +kernel) (by decide +kernel)
set_option maxRecDepth 20000 in
theorem wt_X0_isPlace : Cond.static yX0_isPlace ∈ TT := tt_1 215 (by decide +kernel) (by decide +kernel)
set_option maxRecDepth 20000 in
theorem wc_X0_isPlace : Cond.code yX0_isPlace cX0_isPlace 1 (some .boolean) ∈ TT := tt_1 216 (by decide +kernel) (by decide +kernel)
set_option maxRecDepth 20000 in
theorem wm_X4_70 : Cond.methodLink RX4 70 yX0_isSomebodyOrNobody ∈ TT := tt_1 217 (by decide +kernel) (by decide +kernel)
set_option maxRecDepth 20000 in
theorem wi_X0_isSomebodyOrNobody : Cond.instanceMethod yX0_isSomebodyOrNobody ∈ TT := tt_1 218 (by decide +kernel) (by decide +kernel)
set_option maxRecDepth 20000 in
theorem wv_X0_isSomebodyOrNobody : Cond.selects RX0 yX0_isSomebodyOrNobody yX0_isSomebodyOrNobody ∈ TT := tt_1 219 (by decide +kernel) (by decide +kernel)
set_option maxRecDepth 20000 in
theorem wc_X0_isSomebodyOrNobody : Cond.code yX0_isSomebodyOrNobody cX0_isSomebodyOrNobody 2 (some .boolean) ∈ TT := tt_1 220 (by decide +kernel) (by decide +kernel)
set_option maxRecDepth 20000 in
theorem wm_X0_62 : Cond.methodLink RX0 62 yX0_isSitter ∈ TT := tt_1 221 (by decide +kernel) (by decide +kernel)
set_option maxRecDepth 20000 in
theorem wi_X0_isSitter : Cond.instanceMethod yX0_isSitter ∈ TT := tt_1 222 (by decide +kernel) (by decide +kernel)
set_option maxRecDepth 20000 in
theorem wv_X0_isSitter : Cond.selects RX0 yX0_isSitter yX0_isSitter ∈ TT := tt_1 223 (by decide +kernel) (by decide +kernel)
set_option maxRecDepth 20000 in
theorem wc_X0_isSitter : Cond.code yX0_isSitter cX0_isSitter 2 (some .boolean) ∈ TT := tt_1 224 (by decide +kernel) (by decide +kernel)
set_option maxRecDepth 20000 in
theorem wm_X4_73 : Cond.methodLink RX4 73 yX0_whoIsIn ∈ TT := tt_1 225 (by decide +kernel) (by decide +kernel)
set_option maxRecDepth 20000 in
theorem wi_X0_whoIsIn : Cond.instanceMethod yX0_whoIsIn ∈ TT := tt_1 226 (by decide +kernel) (by decide +kernel)
set_option maxRecDepth 20000 in
theorem wv_X0_whoIsIn : Cond.selects RX0 yX0_whoIsIn yX0_whoIsIn ∈ TT := tt_1 227 (by decide +kernel) (by decide +kernel)
set_option maxRecDepth 20000 in
theorem wc_X0_whoIsIn : Cond.code yX0_whoIsIn cX0_whoIsIn 2 (some .int) ∈ TT := tt_1 228 (by decide +kernel) (by decide +kernel)
set_option maxRecDepth 20000 in
theorem wm_X0_58 : Cond.methodLink RX0 58 yX0_isPlace ∈ TT := tt_1 229 (by decide +kernel) (by decide +kernel)
set_option maxRecDepth 20000 in
theorem wm_X4_76 : Cond.methodLink RX4 76 yX0_seat ∈ TT := tt_1 230 (by decide +kernel) (by decide +kernel)
set_option maxRecDepth 20000 in
theorem wi_X0_seat : Cond.instanceMethod yX0_seat ∈ TT := tt_1 231 (by decide +kernel) (by decide +kernel)
set_option maxRecDepth 20000 in
theorem wv_X0_seat : Cond.selects RX0 yX0_seat yX0_seat ∈ TT := tt_1 232 (by decide +kernel) (by decide +kernel)
set_option maxRecDepth 20000 in
theorem wc_X0_seat : Cond.code yX0_seat cX0_seat 3 none ∈ TT := tt_1 233 (by decide +kernel) (by decide +kernel)
set_option maxRecDepth 20000 in
theorem wm_L_27 : Cond.methodLink RL 27 yX4_place ∈ TT := tt_1 234 (by decide +kernel) (by decide +kernel)
set_option maxRecDepth 20000 in
theorem wi_X4_place : Cond.instanceMethod yX4_place ∈ TT := tt_1 235 (by decide +kernel) (by decide +kernel)
set_option maxRecDepth 20000 in
theorem wv_X4_place : Cond.selects RX4 yX4_place yX4_place ∈ TT := tt_1 236 (by decide +kernel) (by decide +kernel)
set_option maxRecDepth 20000 in
theorem wc_X4_place : Cond.code yX4_place cX4_place 2 (some .int) ∈ TT := tt_1 237 (by decide +kernel) (by decide +kernel)
set_option maxRecDepth 20000 in
theorem wm_L_31 : Cond.methodLink RL 31 yX4_sitter ∈ TT := tt_1 238 (by decide +kernel) (by decide +kernel)
set_option maxRecDepth 20000 in
theorem wi_X4_sitter : Cond.instanceMethod yX4_sitter ∈ TT := tt_1 239 (by decide +kernel) (by decide +kernel)
set_option maxRecDepth 20000 in
theorem wv_X4_sitter : Cond.selects RX4 yX4_sitter yX4_sitter ∈ TT := tt_2 0 (by decide +kernel) (by decide +kernel)
set_option maxRecDepth 20000 in
theorem wc_X4_sitter : Cond.code yX4_sitter cX4_sitter 4 (some .int) ∈ TT := tt_2 1 (by decide +kernel) (by decide +kernel)
set_option maxRecDepth 20000 in
theorem wm_X4_79 : Cond.methodLink RX4 79 yX2_mostOf ∈ TT := tt_2 2 (by decide +kernel) (by decide +kernel)
set_option maxRecDepth 20000 in
theorem wt_X2_mostOf : Cond.static yX2_mostOf ∈ TT := tt_2 3 (by decide +kernel) (by decide +kernel)
set_option maxRecDepth 20000 in
theorem wc_X2_mostOf : Cond.code yX2_mostOf cX2_mostOf 1 (some .int) ∈ TT := tt_2 4 (by decide +kernel) (by decide +kernel)
set_option maxRecDepth 20000 in
theorem wm_X4_82 : Cond.methodLink RX4 82 yX0_addSitter ∈ TT := tt_2 5 (by decide +kernel) (by decide +kernel)
set_option maxRecDepth 20000 in
theorem wi_X0_addSitter : Cond.instanceMethod yX0_addSitter ∈ TT := tt_2 6 (by decide +kernel) (by decide +kernel)
set_option maxRecDepth 20000 in
theorem wv_X0_addSitter : Cond.selects RX0 yX0_addSitter yX0_addSitter ∈ TT := tt_2 7 (by decide +kernel) (by decide +kernel)
set_option maxRecDepth 20000 in
theorem wc_X0_addSitter : Cond.code yX0_addSitter cX0_addSitter 2 (some .int) ∈ TT := tt_2 8 (by decide +kernel) (by decide +kernel)
set_option maxRecDepth 20000 in
theorem wm_X0_65 : Cond.methodLink RX0 65 yX2_begin ∈ TT := tt_2 9 (by decide +kernel) (by decide +kernel)
set_option maxRecDepth 20000 in
theorem wk_X4_85 : Cond.constant RX4 85 (-1000002) ∈ TT := tt_2 10 (by decide +kernel) (by decide +kernel)
set_option maxRecDepth 20000 in
theorem wm_X4_86 : Cond.methodLink RX4 86 yX0_give ∈ TT := tt_2 11 (by decide +kernel) (by decide +kernel)
set_option maxRecDepth 20000 in
theorem wi_X0_give : Cond.instanceMethod yX0_give ∈ TT := tt_2 12 (by decide +kernel) (by decide +kernel)
set_option maxRecDepth 20000 in
theorem wv_X0_give : Cond.selects RX0 yX0_give yX0_give ∈ TT := tt_2 13 (by decide +kernel) (by decide +kernel)
set_option maxRecDepth 20000 in
theorem wc_X0_give : Cond.code yX0_give cX0_give 5 none ∈ TT := tt_2 14 (by decide +kernel) (by decide +kernel)
set_option maxRecDepth 20000 in
theorem wm_X0_69 : Cond.methodLink RX0 69 yX0_who ∈ TT := tt_2 15 (by decide +kernel) (by decide +kernel)
set_option maxRecDepth 20000 in
theorem wi_X0_who : Cond.instanceMethod yX0_who ∈ TT := tt_2 16 (by decide +kernel) (by decide +kernel)
set_option maxRecDepth 20000 in
theorem wv_X0_who : Cond.selects RX0 yX0_who yX0_who ∈ TT := tt_2 17 (by decide +kernel) (by decide +kernel)
set_option maxRecDepth 20000 in
theorem wc_X0_who : Cond.code yX0_who cX0_who 2 (some (.object "BoothFlash$Sitter")) ∈ TT := tt_2 18 (by decide +kernel) (by decide +kernel)
set_option maxRecDepth 20000 in
theorem wm_X0_77 : Cond.methodLink RX0 77 yX2_putPart ∈ TT := tt_2 19 (by decide +kernel) (by decide +kernel)
set_option maxRecDepth 20000 in
theorem wi_X2_putPart : Cond.instanceMethod yX2_putPart ∈ TT := tt_2 20 (by decide +kernel) (by decide +kernel)
set_option maxRecDepth 20000 in
theorem wv_X2_putPart : Cond.selects RX2 yX2_putPart yX2_putPart ∈ TT := tt_2 21 (by decide +kernel) (by decide +kernel)
set_option maxRecDepth 20000 in
theorem wc_X2_putPart : Cond.code yX2_putPart cX2_putPart 3 none ∈ TT := tt_2 22 (by decide +kernel) (by decide +kernel)
set_option maxRecDepth 20000 in
theorem wm_L_35 : Cond.methodLink RL 35 yX4_of ∈ TT := tt_2 23 (by decide +kernel) (by decide +kernel)
set_option maxRecDepth 20000 in
theorem wi_X4_of : Cond.instanceMethod yX4_of ∈ TT := tt_2 24 (by decide +kernel) (by decide +kernel)
set_option maxRecDepth 20000 in
theorem wv_X4_of : Cond.selects RX4 yX4_of yX4_of ∈ TT := tt_2 25 (by decide +kernel) (by decide +kernel)
set_option maxRecDepth 20000 in
theorem wc_X4_of : Cond.code yX4_of cX4_of 4 (some .int) ∈ TT := tt_2 26 (by decide +kernel) (by decide +kernel)
set_option maxRecDepth 20000 in
theorem wm_X4_90 : Cond.methodLink RX4 90 yX0_who ∈ TT := tt_2 27 (by decide +kernel) (by decide +kernel)
set_option maxRecDepth 20000 in
theorem wm_X4_98 : Cond.methodLink RX4 98 yX2_off ∈ TT := tt_2 28 (by decide +kernel) (by decide +kernel)
set_option maxRecDepth 20000 in
theorem wi_X2_off : Cond.instanceMethod yX2_off ∈ TT := tt_2 29 (by decide +kernel) (by decide +kernel)
set_option maxRecDepth 20000 in
theorem wv_X2_off : Cond.selects RX2 yX2_off yX2_off ∈ TT := tt_2 30 (by decide +kernel) (by decide +kernel)
set_option maxRecDepth 20000 in
theorem wc_X2_off : Cond.code yX2_off cX2_off 2 (some .int) ∈ TT := tt_2 31 (by decide +kernel) (by decide +kernel)
set_option maxRecDepth 20000 in
theorem wm_X2_41 : Cond.methodLink RX2 41 yJ9_abs_0f7a4 ∈ TT := tt_2 32 (by decide +kernel) (by decide +kernel)
set_option maxRecDepth 20000 in
theorem wt_J9_abs_0f7a4 : Cond.static yJ9_abs_0f7a4 ∈ TT := tt_2 33 (by decide +kernel) (by decide +kernel)
set_option maxRecDepth 20000 in
theorem wc_J9_abs_0f7a4 : Cond.code yJ9_abs_0f7a4 cJ9_abs_0f7a4 1 (some .int) ∈ TT := tt_2 34 (by decide +kernel) (by decide +kernel)
set_option maxRecDepth 20000 in
theorem wm_X4_101 : Cond.methodLink RX4 101 yX2_mayBeOff ∈ TT := tt_2 35 (by decide +kernel) (by decide +kernel)
set_option maxRecDepth 20000 in
theorem wi_X2_mayBeOff : Cond.instanceMethod yX2_mayBeOff ∈ TT := tt_2 36 (by decide +kernel) (by decide +kernel)
set_option maxRecDepth 20000 in
theorem wv_X2_mayBeOff : Cond.selects RX2 yX2_mayBeOff yX2_mayBeOff ∈ TT := tt_2 37 (by decide +kernel) (by decide +kernel)
set_option maxRecDepth 20000 in
theorem wc_X2_mayBeOff : Cond.code yX2_mayBeOff cX2_mayBeOff 1 (some .int) ∈ TT := tt_2 38 (by decide +kernel) (by decide +kernel)
set_option maxRecDepth 20000 in
theorem wm_X4_105 : Cond.methodLink RX4 105 yX2_part ∈ TT := tt_2 39 (by decide +kernel) (by decide +kernel)
set_option maxRecDepth 20000 in
theorem wi_X2_part : Cond.instanceMethod yX2_part ∈ TT := tt_2 40 (by decide +kernel) (by decide +kernel)
set_option maxRecDepth 20000 in
theorem wv_X2_part : Cond.selects RX2 yX2_part yX2_part ∈ TT := tt_2 41 (by decide +kernel) (by decide +kernel)
set_option maxRecDepth 20000 in
theorem wc_X2_part : Cond.code yX2_part cX2_part 2 (some .int) ∈ TT := tt_2 42 (by decide +kernel) (by decide +kernel)
set_option maxRecDepth 20000 in
theorem wm_L_39 : Cond.methodLink RL 39 yX4_change ∈ TT := tt_2 43 (by decide +kernel) (by decide +kernel)
set_option maxRecDepth 20000 in
theorem wi_X4_change : Cond.instanceMethod yX4_change ∈ TT := tt_2 44 (by decide +kernel) (by decide +kernel)
set_option maxRecDepth 20000 in
theorem wv_X4_change : Cond.selects RX4 yX4_change yX4_change ∈ TT := tt_2 45 (by decide +kernel) (by decide +kernel)
set_option maxRecDepth 20000 in
theorem wc_X4_change : Cond.code yX4_change cX4_change 6 (some .int) ∈ TT := tt_2 46 (by decide +kernel) (by decide +kernel)
set_option maxRecDepth 20000 in
theorem wm_X4_106 : Cond.methodLink RX4 106 yX2_putPart ∈ TT := tt_2 47 (by decide +kernel) (by decide +kernel)
set_option maxRecDepth 20000 in
theorem wm_L_44 : Cond.methodLink RL 44 yX4_faults ∈ TT := tt_2 48 (by decide +kernel) (by decide +kernel)
set_option maxRecDepth 20000 in
theorem wi_X4_faults : Cond.instanceMethod yX4_faults ∈ TT := tt_2 49 (by decide +kernel) (by decide +kernel)
set_option maxRecDepth 20000 in
theorem wv_X4_faults : Cond.selects RX4 yX4_faults yX4_faults ∈ TT := tt_2 50 (by decide +kernel) (by decide +kernel)
set_option maxRecDepth 20000 in
theorem wc_X4_faults : Cond.code yX4_faults cX4_faults 4 (some .int) ∈ TT := tt_2 51 (by decide +kernel) (by decide +kernel)
set_option maxRecDepth 20000 in
theorem wm_X4_107 : Cond.methodLink RX4 107 yX0_faultsOf ∈ TT := tt_2 52 (by decide +kernel) (by decide +kernel)
set_option maxRecDepth 20000 in
theorem wi_X0_faultsOf : Cond.instanceMethod yX0_faultsOf ∈ TT := tt_2 53 (by decide +kernel) (by decide +kernel)
set_option maxRecDepth 20000 in
theorem wv_X0_faultsOf : Cond.selects RX0 yX0_faultsOf yX0_faultsOf ∈ TT := tt_2 54 (by decide +kernel) (by decide +kernel)
set_option maxRecDepth 20000 in
theorem wc_X0_faultsOf : Cond.code yX0_faultsOf cX0_faultsOf 4 (some .int) ∈ TT := tt_2 55 (by decide +kernel) (by decide +kernel)
set_option maxRecDepth 20000 in
theorem wm_X0_85 : Cond.methodLink RX0 85 yX2_off ∈ TT := tt_2 56 (by decide +kernel) (by decide +kernel)
set_option maxRecDepth 20000 in
theorem wm_X0_88 : Cond.methodLink RX0 88 yX2_mayBeOff ∈ TT := tt_2 57 (by decide +kernel) (by decide +kernel)
set_option maxRecDepth 20000 in
theorem wm_X0_92 : Cond.methodLink RX0 92 yX2_isShut ∈ TT := tt_2 58 (by decide +kernel) (by decide +kernel)
set_option maxRecDepth 20000 in
theorem wi_X2_isShut : Cond.instanceMethod yX2_isShut ∈ TT := tt_2 59 (by decide +kernel) (by decide +kernel)
set_option maxRecDepth 20000 in
theorem wv_X2_isShut : Cond.selects RX2 yX2_isShut yX2_isShut ∈ TT := tt_2 60 (by decide +kernel) (by decide +kernel)
set_option maxRecDepth 20000 in
theorem wc_X2_isShut : Cond.code yX2_isShut cX2_isShut 6 (some .boolean) ∈ TT := tt_2 61 (by decide +kernel) (by decide +kernel)
set_option maxRecDepth 20000 in
theorem wm_X0_96 : Cond.methodLink RX0 96 yX2_isSmiling ∈ TT := tt_2 62 (by decide +kernel) (by decide +kernel)
set_option maxRecDepth 20000 in
theorem wi_X2_isSmiling : Cond.instanceMethod yX2_isSmiling ∈ TT := tt_2 63 (by decide +kernel) (by decide +kernel)
set_option maxRecDepth 20000 in
theorem wv_X2_isSmiling : Cond.selects RX2 yX2_isSmiling yX2_isSmiling ∈ TT := tt_2 64 (by decide +kernel) (by decide +kernel)
set_option maxRecDepth 20000 in
theorem wc_X2_isSmiling : Cond.code yX2_isSmiling cX2_isSmiling 3 (some .boolean) ∈ TT := tt_2 65 (by decide +kernel) (by decide +kernel)
set_option maxRecDepth 20000 in
theorem wm_X0_99 : Cond.methodLink RX0 99 yX2_isShining ∈ TT := tt_2 66 (by decide +kernel) (by decide +kernel)
set_option maxRecDepth 20000 in
theorem wi_X2_isShining : Cond.instanceMethod yX2_isShining ∈ TT := tt_2 67 (by decide +kernel) (by decide +kernel)
set_option maxRecDepth 20000 in
theorem wv_X2_isShining : Cond.selects RX2 yX2_isShining yX2_isShining ∈ TT := tt_2 68 (by decide +kernel) (by decide +kernel)
set_option maxRecDepth 20000 in
theorem wc_X2_isShining : Cond.code yX2_isShining cX2_isShining 2 (some .boolean) ∈ TT := tt_2 69 (by decide +kernel) (by decide +kernel)
set_option maxRecDepth 20000 in
theorem wm_L_48 : Cond.methodLink RL 48 yX4_best ∈ TT := tt_2 70 (by decide +kernel) (by decide +kernel)
set_option maxRecDepth 20000 in
theorem wi_X4_best : Cond.instanceMethod yX4_best ∈ TT := tt_2 71 (by decide +kernel) (by decide +kernel)
set_option maxRecDepth 20000 in
theorem wv_X4_best : Cond.selects RX4 yX4_best yX4_best ∈ TT := tt_2 72 (by decide +kernel) (by decide +kernel)
set_option maxRecDepth 20000 in
theorem wc_X4_best : Cond.code yX4_best cX4_best 5 (some .int) ∈ TT := tt_2 73 (by decide +kernel) (by decide +kernel)
set_option maxRecDepth 20000 in
theorem wm_X4_111 : Cond.methodLink RX4 111 yJ6_bitCount_0f7a4 ∈ TT := tt_2 74 (by decide +kernel) (by decide +kernel)
set_option maxRecDepth 20000 in
theorem wt_J6_bitCount_0f7a4 : Cond.static yJ6_bitCount_0f7a4 ∈ TT := tt_2 75 (by decide +kernel) (by decide +kernel)
set_option maxRecDepth 20000 in
theorem wc_J6_bitCount_0f7a4 : Cond.code yJ6_bitCount_0f7a4 cJ6_bitCount_0f7a4 1 (some .int) ∈ TT := tt_2 76 (by decide +kernel) (by decide +kernel)
set_option maxRecDepth 20000 in
theorem wk_J6_265 : Cond.constant RJ6 265 (1431655765) ∈ TT := tt_2 77 (by decide +kernel) (by decide +kernel)
set_option maxRecDepth 20000 in
theorem wk_J6_266 : Cond.constant RJ6 266 (858993459) ∈ TT := tt_2 78 (by decide +kernel) (by decide +kernel)
set_option maxRecDepth 20000 in
theorem wk_J6_267 : Cond.constant RJ6 267 (252645135) ∈ TT := tt_2 79 (by decide +kernel) (by decide +kernel)
set_option maxRecDepth 20000 in
theorem wm_L_52 : Cond.methodLink RL 52 yX4_go ∈ TT := tt_2 80 (by decide +kernel) (by decide +kernel)
set_option maxRecDepth 20000 in
theorem wi_X4_go : Cond.instanceMethod yX4_go ∈ TT := tt_2 81 (by decide +kernel) (by decide +kernel)
set_option maxRecDepth 20000 in
theorem wv_X4_go : Cond.selects RX4 yX4_go yX4_go ∈ TT := tt_2 82 (by decide +kernel) (by decide +kernel)
set_option maxRecDepth 20000 in
theorem wc_X4_go : Cond.code yX4_go cX4_go 2 (some .int) ∈ TT := tt_2 83 (by decide +kernel) (by decide +kernel)
set_option maxRecDepth 20000 in
theorem wk_X4_119 : Cond.constant RX4 119 (99999) ∈ TT := tt_2 84 (by decide +kernel) (by decide +kernel)
set_option maxRecDepth 20000 in
theorem wk_X4_120 : Cond.constant RX4 120 (-1000005) ∈ TT := tt_2 85 (by decide +kernel) (by decide +kernel)
set_option maxRecDepth 20000 in
theorem wm_X4_121 : Cond.methodLink RX4 121 yX0_passMinutes ∈ TT := tt_2 86 (by decide +kernel) (by decide +kernel)
set_option maxRecDepth 20000 in
theorem wi_X0_passMinutes : Cond.instanceMethod yX0_passMinutes ∈ TT := tt_2 87 (by decide +kernel) (by decide +kernel)
set_option maxRecDepth 20000 in
theorem wv_X0_passMinutes : Cond.selects RX0 yX0_passMinutes yX0_passMinutes ∈ TT := tt_2 88 (by decide +kernel) (by decide +kernel)
set_option maxRecDepth 20000 in
theorem wc_X0_passMinutes : Cond.code yX0_passMinutes cX0_passMinutes 3 none ∈ TT := tt_2 89 (by decide +kernel) (by decide +kernel)
set_option maxRecDepth 20000 in
theorem wm_X0_115 : Cond.methodLink RX0 115 yX0_passMinute ∈ TT := tt_2 90 (by decide +kernel) (by decide +kernel)
set_option maxRecDepth 20000 in
theorem wi_X0_passMinute : Cond.instanceMethod yX0_passMinute ∈ TT := tt_2 91 (by decide +kernel) (by decide +kernel)
set_option maxRecDepth 20000 in
theorem wv_X0_passMinute : Cond.selects RX0 yX0_passMinute yX0_passMinute ∈ TT := tt_2 92 (by decide +kernel) (by decide +kernel)
set_option maxRecDepth 20000 in
theorem wc_X0_passMinute : Cond.code yX0_passMinute cX0_passMinute 2 none ∈ TT := tt_2 93 (by decide +kernel) (by decide +kernel)
set_option maxRecDepth 20000 in
theorem wm_X0_118 : Cond.methodLink RX0 118 yX0_nextPlace ∈ TT := tt_2 94 (by decide +kernel) (by decide +kernel)
set_option maxRecDepth 20000 in
theorem wi_X0_nextPlace : Cond.instanceMethod yX0_nextPlace ∈ TT := tt_2 95 (by decide +kernel) (by decide +kernel)
set_option maxRecDepth 20000 in
theorem wv_X0_nextPlace : Cond.selects RX0 yX0_nextPlace yX0_nextPlace ∈ TT := tt_2 96 (by decide +kernel) (by decide +kernel)
set_option maxRecDepth 20000 in
theorem wc_X0_nextPlace : Cond.code yX0_nextPlace cX0_nextPlace 1 (some .int) ∈ TT := tt_2 97 (by decide +kernel) (by decide +kernel)
set_option maxRecDepth 20000 in
theorem wm_X0_121 : Cond.methodLink RX0 121 yX0_whoIsIn ∈ TT := tt_2 98 (by decide +kernel) (by decide +kernel)
set_option maxRecDepth 20000 in
theorem wm_X0_127 : Cond.methodLink RX0 127 yX0_takePictures ∈ TT := tt_2 99 (by decide +kernel) (by decide +kernel)
set_option maxRecDepth 20000 in
theorem wi_X0_takePictures : Cond.instanceMethod yX0_takePictures ∈ TT := tt_2 100 (by decide +kernel) (by decide +kernel)
set_option maxRecDepth 20000 in
theorem wv_X0_takePictures : Cond.selects RX0 yX0_takePictures yX0_takePictures ∈ TT := tt_2 101 (by decide +kernel) (by decide +kernel)
set_option maxRecDepth 20000 in
theorem wc_X0_takePictures : Cond.code yX0_takePictures cX0_takePictures 2 none ∈ TT := tt_2 102 (by decide +kernel) (by decide +kernel)
set_option maxRecDepth 20000 in
theorem wm_X0_138 : Cond.methodLink RX0 138 yX0_mostOf ∈ TT := tt_2 103 (by decide +kernel) (by decide +kernel)
set_option maxRecDepth 20000 in
theorem wm_X0_130 : Cond.methodLink RX0 130 yJ9_min_7cf53 ∈ TT := tt_2 104 (by decide +kernel) (by decide +kernel)
set_option maxRecDepth 20000 in
theorem wt_J9_min_7cf53 : Cond.static yJ9_min_7cf53 ∈ TT := tt_2 105 (by decide +kernel) (by decide +kernel)
set_option maxRecDepth 20000 in
theorem wc_J9_min_7cf53 : Cond.code yJ9_min_7cf53 cJ9_min_7cf53 2 (some .int) ∈ TT := tt_2 106 (by decide +kernel) (by decide +kernel)
set_option maxRecDepth 20000 in
theorem wm_X0_144 : Cond.methodLink RX0 144 yX2_mostOf ∈ TT := tt_2 107 (by decide +kernel) (by decide +kernel)
set_option maxRecDepth 20000 in
theorem wm_X0_145 : Cond.methodLink RX0 145 yX0_turnStool ∈ TT := tt_2 108 (by decide +kernel) (by decide +kernel)
set_option maxRecDepth 20000 in
theorem wi_X0_turnStool : Cond.instanceMethod yX0_turnStool ∈ TT := tt_2 109 (by decide +kernel) (by decide +kernel)
set_option maxRecDepth 20000 in
theorem wv_X0_turnStool : Cond.selects RX0 yX0_turnStool yX0_turnStool ∈ TT := tt_2 110 (by decide +kernel) (by decide +kernel)
set_option maxRecDepth 20000 in
theorem wc_X0_turnStool : Cond.code yX0_turnStool cX0_turnStool 3 none ∈ TT := tt_2 111 (by decide +kernel) (by decide +kernel)
set_option maxRecDepth 20000 in
theorem wm_X0_157 : Cond.methodLink RX0 157 yJ9_max_7cf53 ∈ TT := tt_2 112 (by decide +kernel) (by decide +kernel)
set_option maxRecDepth 20000 in
theorem wt_J9_max_7cf53 : Cond.static yJ9_max_7cf53 ∈ TT := tt_2 113 (by decide +kernel) (by decide +kernel)
set_option maxRecDepth 20000 in
theorem wc_J9_max_7cf53 : Cond.code yJ9_max_7cf53 cJ9_max_7cf53 2 (some .int) ∈ TT := tt_2 114 (by decide +kernel) (by decide +kernel)
set_option maxRecDepth 20000 in
theorem wm_X0_106 : Cond.methodLink RX0 106 yX0_hasClearFlash ∈ TT := tt_2 115 (by decide +kernel) (by decide +kernel)
set_option maxRecDepth 20000 in
theorem wi_X0_hasClearFlash : Cond.instanceMethod yX0_hasClearFlash ∈ TT := tt_2 116 (by decide +kernel) (by decide +kernel)
set_option maxRecDepth 20000 in
theorem wv_X0_hasClearFlash : Cond.selects RX0 yX0_hasClearFlash yX0_hasClearFlash ∈ TT := tt_2 117 (by decide +kernel) (by decide +kernel)
set_option maxRecDepth 20000 in
theorem wc_X0_hasClearFlash : Cond.code yX0_hasClearFlash cX0_hasClearFlash 3 (some .boolean) ∈ TT := tt_2 118 (by decide +kernel) (by decide +kernel)
set_option maxRecDepth 20000 in
theorem wm_X0_102 : Cond.methodLink RX0 102 yX0_faultsOf ∈ TT := tt_2 119 (by decide +kernel) (by decide +kernel)
set_option maxRecDepth 20000 in
theorem wm_X0_135 : Cond.methodLink RX0 135 yX0_payOut ∈ TT := tt_2 120 (by decide +kernel) (by decide +kernel)
set_option maxRecDepth 20000 in
theorem wi_X0_payOut : Cond.instanceMethod yX0_payOut ∈ TT := tt_2 121 (by decide +kernel) (by decide +kernel)
set_option maxRecDepth 20000 in
theorem wv_X0_payOut : Cond.selects RX0 yX0_payOut yX0_payOut ∈ TT := tt_2 122 (by decide +kernel) (by decide +kernel)
set_option maxRecDepth 20000 in
theorem wc_X0_payOut : Cond.code yX0_payOut cX0_payOut 3 none ∈ TT := tt_2 123 (by decide +kernel) (by decide +kernel)
set_option maxRecDepth 20000 in
theorem wm_X4_125 : Cond.methodLink RX4 125 yX0_sumOf ∈ TT := tt_2 124 (by decide +kernel) (by decide +kernel)
set_option maxRecDepth 20000 in
theorem wi_X0_sumOf : Cond.instanceMethod yX0_sumOf ∈ TT := tt_2 125 (by decide +kernel) (by decide +kernel)
set_option maxRecDepth 20000 in
theorem wv_X0_sumOf : Cond.selects RX0 yX0_sumOf yX0_sumOf ∈ TT := tt_2 126 (by decide +kernel) (by decide +kernel)
set_option maxRecDepth 20000 in
theorem wc_X0_sumOf : Cond.code yX0_sumOf cX0_sumOf 4 (some .int) ∈ TT := tt_2 127 (by decide +kernel) (by decide +kernel)
set_option maxRecDepth 20000 in
theorem wm_X0_81 : Cond.methodLink RX0 81 yX0_partOf ∈ TT := tt_2 128 (by decide +kernel) (by decide +kernel)
set_option maxRecDepth 20000 in
theorem wi_X0_partOf : Cond.instanceMethod yX0_partOf ∈ TT := tt_2 129 (by decide +kernel) (by decide +kernel)
set_option maxRecDepth 20000 in
theorem wv_X0_partOf : Cond.selects RX0 yX0_partOf yX0_partOf ∈ TT := tt_2 130 (by decide +kernel) (by decide +kernel)
set_option maxRecDepth 20000 in
theorem wc_X0_partOf : Cond.code yX0_partOf cX0_partOf 4 (some .int) ∈ TT := tt_2 131 (by decide +kernel) (by decide +kernel)
set_option maxRecDepth 20000 in
theorem wm_X0_73 : Cond.methodLink RX0 73 yX2_part ∈ TT := tt_2 132 (by decide +kernel) (by decide +kernel)
set_option maxRecDepth 20000 in
theorem wm_L_56 : Cond.methodLink RL 56 yX4_now ∈ TT := tt_2 133 (by decide +kernel) (by decide +kernel)
set_option maxRecDepth 20000 in
theorem wi_X4_now : Cond.instanceMethod yX4_now ∈ TT := tt_2 134 (by decide +kernel) (by decide +kernel)
set_option maxRecDepth 20000 in
theorem wv_X4_now : Cond.selects RX4 yX4_now yX4_now ∈ TT := tt_2 135 (by decide +kernel) (by decide +kernel)
set_option maxRecDepth 20000 in
theorem wc_X4_now : Cond.code yX4_now cX4_now 2 (some .int) ∈ TT := tt_2 136 (by decide +kernel) (by decide +kernel)
set_option maxRecDepth 20000 in
theorem wm_X4_128 : Cond.methodLink RX4 128 yX0_nextPlace ∈ TT := tt_2 137 (by decide +kernel) (by decide +kernel)
set_option maxRecDepth 20000 in
theorem wm_X4_131 : Cond.methodLink RX4 131 yX0_sittersWithClearFlash ∈ TT := tt_2 138 (by decide +kernel) (by decide +kernel)
set_option maxRecDepth 20000 in
theorem wi_X0_sittersWithClearFlash : Cond.instanceMethod yX0_sittersWithClearFlash ∈ TT := tt_2 139 (by decide +kernel) (by decide +kernel)
set_option maxRecDepth 20000 in
theorem wv_X0_sittersWithClearFlash : Cond.selects RX0 yX0_sittersWithClearFlash yX0_sittersWithClearFlash ∈ TT := tt_2 140 (by decide +kernel) (by decide +kernel)
set_option maxRecDepth 20000 in
theorem wc_X0_sittersWithClearFlash : Cond.code yX0_sittersWithClearFlash cX0_sittersWithClearFlash 4 (some .int) ∈ TT := tt_2 141 (by decide +kernel) (by decide +kernel)
set_option maxRecDepth 20000 in
theorem wm_X4_134 : Cond.methodLink RX4 134 yX0_commonFaults ∈ TT := tt_2 142 (by decide +kernel) (by decide +kernel)
set_option maxRecDepth 20000 in
theorem wi_X0_commonFaults : Cond.instanceMethod yX0_commonFaults ∈ TT := tt_2 143 (by decide +kernel) (by decide +kernel)
set_option maxRecDepth 20000 in
theorem wv_X0_commonFaults : Cond.selects RX0 yX0_commonFaults yX0_commonFaults ∈ TT := tt_2 144 (by decide +kernel) (by decide +kernel)
set_option maxRecDepth 20000 in
theorem wc_X0_commonFaults : Cond.code yX0_commonFaults cX0_commonFaults 5 (some .int) ∈ TT := tt_2 145 (by decide +kernel) (by decide +kernel)
set_option maxRecDepth 20000 in
theorem wm_L_60 : Cond.methodLink RL 60 yX4_ahead ∈ TT := tt_2 146 (by decide +kernel) (by decide +kernel)
set_option maxRecDepth 20000 in
theorem wi_X4_ahead : Cond.instanceMethod yX4_ahead ∈ TT := tt_2 147 (by decide +kernel) (by decide +kernel)
set_option maxRecDepth 20000 in
theorem wv_X4_ahead : Cond.selects RX4 yX4_ahead yX4_ahead ∈ TT := tt_2 148 (by decide +kernel) (by decide +kernel)
set_option maxRecDepth 20000 in
theorem wc_X4_ahead : Cond.code yX4_ahead cX4_ahead 4 (some .int) ∈ TT := tt_2 149 (by decide +kernel) (by decide +kernel)
set_option maxRecDepth 20000 in
theorem wm_X4_137 : Cond.methodLink RX4 137 yX0_isSitter ∈ TT := tt_2 150 (by decide +kernel) (by decide +kernel)
set_option maxRecDepth 20000 in
theorem wm_X4_140 : Cond.methodLink RX4 140 yX0_become ∈ TT := tt_2 151 (by decide +kernel) (by decide +kernel)
set_option maxRecDepth 20000 in
theorem wi_X0_become : Cond.instanceMethod yX0_become ∈ TT := tt_2 152 (by decide +kernel) (by decide +kernel)
set_option maxRecDepth 20000 in
theorem wv_X0_become : Cond.selects RX0 yX0_become yX0_become ∈ TT := tt_2 153 (by decide +kernel) (by decide +kernel)
set_option maxRecDepth 20000 in
theorem wc_X0_become : Cond.code yX0_become cX0_become 3 none ∈ TT := tt_2 154 (by decide +kernel) (by decide +kernel)
set_option maxRecDepth 20000 in
theorem wm_X0_47 : Cond.methodLink RX0 47 yX2_become ∈ TT := tt_2 155 (by decide +kernel) (by decide +kernel)
set_option maxRecDepth 20000 in
theorem wi_X2_become : Cond.instanceMethod yX2_become ∈ TT := tt_2 156 (by decide +kernel) (by decide +kernel)
set_option maxRecDepth 20000 in
theorem wv_X2_become : Cond.selects RX2 yX2_become yX2_become ∈ TT := tt_2 157 (by decide +kernel) (by decide +kernel)
set_option maxRecDepth 20000 in
theorem wc_X2_become : Cond.code yX2_become cX2_become 2 none ∈ TT := tt_2 158 (by decide +kernel) (by decide +kernel)
set_option maxRecDepth 20000 in
theorem wm_X0_51 : Cond.methodLink RX0 51 (⟨"java/lang/System", "arraycopy", "(Ljava/lang/Object;ILjava/lang/Object;II)V"⟩ : MethodName) ∈ TT := tt_2 159 (by decide +kernel) (by decide +kernel)
set_option maxRecDepth 20000 in
theorem wt_arraycopy : Cond.static (⟨"java/lang/System", "arraycopy", "(Ljava/lang/Object;ILjava/lang/Object;II)V"⟩ : MethodName) ∈ TT := tt_2 160 (by decide +kernel) (by decide +kernel)
set_option maxRecDepth 20000 in
theorem wnative_arraycopy : Cond.native (⟨"java/lang/System", "arraycopy", "(Ljava/lang/Object;ILjava/lang/Object;II)V"⟩ : MethodName) ∈ TT := tt_2 161 (by decide +kernel) (by decide +kernel)
set_option maxRecDepth 20000 in
theorem wm_X4_144 : Cond.methodLink RX4 144 yX0_partOf ∈ TT := tt_2 162 (by decide +kernel) (by decide +kernel)
set_option maxRecDepth 20000 in
theorem wm_L_64 : Cond.methodLink RL 64 yX4_later ∈ TT := tt_2 163 (by decide +kernel) (by decide +kernel)
set_option maxRecDepth 20000 in
theorem wi_X4_later : Cond.instanceMethod yX4_later ∈ TT := tt_2 164 (by decide +kernel) (by decide +kernel)
set_option maxRecDepth 20000 in
theorem wv_X4_later : Cond.selects RX4 yX4_later yX4_later ∈ TT := tt_2 165 (by decide +kernel) (by decide +kernel)
set_option maxRecDepth 20000 in
theorem wc_X4_later : Cond.code yX4_later cX4_later 3 (some .int) ∈ TT := tt_2 166 (by decide +kernel) (by decide +kernel)
set_option maxRecDepth 20000 in
theorem wm_L_68 : Cond.methodLink RL 68 yX4_when ∈ TT := tt_2 167 (by decide +kernel) (by decide +kernel)
set_option maxRecDepth 20000 in
theorem wi_X4_when : Cond.instanceMethod yX4_when ∈ TT := tt_2 168 (by decide +kernel) (by decide +kernel)
set_option maxRecDepth 20000 in
theorem wv_X4_when : Cond.selects RX4 yX4_when yX4_when ∈ TT := tt_2 169 (by decide +kernel) (by decide +kernel)
set_option maxRecDepth 20000 in
theorem wc_X4_when : Cond.code yX4_when cX4_when 4 (some .int) ∈ TT := tt_2 170 (by decide +kernel) (by decide +kernel)
set_option maxRecDepth 20000 in
theorem wm_X4_148 : Cond.methodLink RX4 148 yX0_passMinute ∈ TT := tt_2 171 (by decide +kernel) (by decide +kernel)
set_option maxRecDepth 20000 in
theorem wk_X4_151 : Cond.constant RX4 151 (-1000004) ∈ TT := tt_2 172 (by decide +kernel) (by decide +kernel)
set_option maxRecDepth 20000 in
theorem wm_L_72 : Cond.methodLink RL 72 yX4_broke ∈ TT := tt_2 173 (by decide +kernel) (by decide +kernel)
set_option maxRecDepth 20000 in
theorem wi_X4_broke : Cond.instanceMethod yX4_broke ∈ TT := tt_2 174 (by decide +kernel) (by decide +kernel)
set_option maxRecDepth 20000 in
theorem wv_X4_broke : Cond.selects RX4 yX4_broke yX4_broke ∈ TT := tt_2 175 (by decide +kernel) (by decide +kernel)
set_option maxRecDepth 20000 in
theorem wc_X4_broke : Cond.code yX4_broke cX4_broke 3 (some .int) ∈ TT := tt_2 176 (by decide +kernel) (by decide +kernel)
set_option maxRecDepth 20000 in
theorem wm_L_76 : Cond.methodLink RL 76 yX4_all ∈ TT := tt_2 177 (by decide +kernel) (by decide +kernel)
set_option maxRecDepth 20000 in
theorem wi_X4_all : Cond.instanceMethod yX4_all ∈ TT := tt_2 178 (by decide +kernel) (by decide +kernel)
set_option maxRecDepth 20000 in
theorem wv_X4_all : Cond.selects RX4 yX4_all yX4_all ∈ TT := tt_2 179 (by decide +kernel) (by decide +kernel)
set_option maxRecDepth 20000 in
theorem wc_X4_all : Cond.code yX4_all cX4_all 2 (some .int) ∈ TT := tt_2 180 (by decide +kernel) (by decide +kernel)
set_option maxRecDepth 20000 in
theorem wm_X4_158 : Cond.methodLink RX4 158 yX0_isEachTaken ∈ TT := tt_2 181 (by decide +kernel) (by decide +kernel)
set_option maxRecDepth 20000 in
theorem wi_X0_isEachTaken : Cond.instanceMethod yX0_isEachTaken ∈ TT := tt_2 182 (by decide +kernel) (by decide +kernel)
set_option maxRecDepth 20000 in
theorem wv_X0_isEachTaken : Cond.selects RX0 yX0_isEachTaken yX0_isEachTaken ∈ TT := tt_2 183 (by decide +kernel) (by decide +kernel)
set_option maxRecDepth 20000 in
theorem wc_X0_isEachTaken : Cond.code yX0_isEachTaken cX0_isEachTaken 2 (some .boolean) ∈ TT := tt_2 184 (by decide +kernel) (by decide +kernel)
set_option maxRecDepth 20000 in
theorem wm_L_81 : Cond.methodLink RL 81 yX4_stoolFor ∈ TT := tt_2 185 (by decide +kernel) (by decide +kernel)
set_option maxRecDepth 20000 in
theorem wi_X4_stoolFor : Cond.instanceMethod yX4_stoolFor ∈ TT := tt_2 186 (by decide +kernel) (by decide +kernel)
set_option maxRecDepth 20000 in
theorem wv_X4_stoolFor : Cond.selects RX4 yX4_stoolFor yX4_stoolFor ∈ TT := tt_2 187 (by decide +kernel) (by decide +kernel)
set_option maxRecDepth 20000 in
theorem wc_X4_stoolFor : Cond.code yX4_stoolFor cX4_stoolFor 6 (some .int) ∈ TT := tt_2 188 (by decide +kernel) (by decide +kernel)
set_option maxRecDepth 20000 in
theorem wm_X4_162 : Cond.methodLink RX4 162 yX0_faultsTogether ∈ TT := tt_2 189 (by decide +kernel) (by decide +kernel)
set_option maxRecDepth 20000 in
theorem wi_X0_faultsTogether : Cond.instanceMethod yX0_faultsTogether ∈ TT := tt_2 190 (by decide +kernel) (by decide +kernel)
set_option maxRecDepth 20000 in
theorem wv_X0_faultsTogether : Cond.selects RX0 yX0_faultsTogether yX0_faultsTogether ∈ TT := tt_2 191 (by decide +kernel) (by decide +kernel)
set_option maxRecDepth 20000 in
theorem wc_X0_faultsTogether : Cond.code yX0_faultsTogether cX0_faultsTogether 5 (some .int) ∈ TT := tt_2 192 (by decide +kernel) (by decide +kernel)
set_option maxRecDepth 20000 in
theorem wm_X0_110 : Cond.methodLink RX0 110 yJ6_bitCount_0f7a4 ∈ TT := tt_2 193 (by decide +kernel) (by decide +kernel)
set_option maxRecDepth 20000 in
theorem wm_L_85 : Cond.methodLink RL 85 yX4_lightFor ∈ TT := tt_2 194 (by decide +kernel) (by decide +kernel)
set_option maxRecDepth 20000 in
theorem wi_X4_lightFor : Cond.instanceMethod yX4_lightFor ∈ TT := tt_2 195 (by decide +kernel) (by decide +kernel)
set_option maxRecDepth 20000 in
theorem wv_X4_lightFor : Cond.selects RX4 yX4_lightFor yX4_lightFor ∈ TT := tt_2 196 (by decide +kernel) (by decide +kernel)
set_option maxRecDepth 20000 in
theorem wc_X4_lightFor : Cond.code yX4_lightFor cX4_lightFor 5 (some .int) ∈ TT := tt_2 197 (by decide +kernel) (by decide +kernel)
set_option maxRecDepth 20000 in
theorem wm_L_89 : Cond.methodLink RL 89 yX4_turnFor ∈ TT := tt_2 198 (by decide +kernel) (by decide +kernel)
set_option maxRecDepth 20000 in
theorem wi_X4_turnFor : Cond.instanceMethod yX4_turnFor ∈ TT := tt_2 199 (by decide +kernel) (by decide +kernel)
set_option maxRecDepth 20000 in
theorem wv_X4_turnFor : Cond.selects RX4 yX4_turnFor yX4_turnFor ∈ TT := tt_2 200 (by decide +kernel) (by decide +kernel)
set_option maxRecDepth 20000 in
theorem wc_X4_turnFor : Cond.code yX4_turnFor cX4_turnFor 7 (some .int) ∈ TT := tt_2 201 (by decide +kernel) (by decide +kernel)
set_option maxRecDepth 20000 in
theorem wm_L_93 : Cond.methodLink RL 93 yX4_kindFor ∈ TT := tt_2 202 (by decide +kernel) (by decide +kernel)
set_option maxRecDepth 20000 in
theorem wi_X4_kindFor : Cond.instanceMethod yX4_kindFor ∈ TT := tt_2 203 (by decide +kernel) (by decide +kernel)
set_option maxRecDepth 20000 in
theorem wv_X4_kindFor : Cond.selects RX4 yX4_kindFor yX4_kindFor ∈ TT := tt_2 204 (by decide +kernel) (by decide +kernel)
set_option maxRecDepth 20000 in
theorem wc_X4_kindFor : Cond.code yX4_kindFor cX4_kindFor 7 (some .int) ∈ TT := tt_2 205 (by decide +kernel) (by decide +kernel)
set_option maxRecDepth 20000 in
theorem wm_L_97 : Cond.methodLink RL 97 yX4_merryFor ∈ TT := tt_2 206 (by decide +kernel) (by decide +kernel)
set_option maxRecDepth 20000 in
theorem wi_X4_merryFor : Cond.instanceMethod yX4_merryFor ∈ TT := tt_2 207 (by decide +kernel) (by decide +kernel)
set_option maxRecDepth 20000 in
theorem wv_X4_merryFor : Cond.selects RX4 yX4_merryFor yX4_merryFor ∈ TT := tt_2 208 (by decide +kernel) (by decide +kernel)
set_option maxRecDepth 20000 in
theorem wc_X4_merryFor : Cond.code yX4_merryFor cX4_merryFor 5 (some .int) ∈ TT := tt_2 209 (by decide +kernel) (by decide +kernel)
set_option maxRecDepth 20000 in
theorem wm_L_101 : Cond.methodLink RL 101 yX4_priceFor ∈ TT := tt_2 210 (by decide +kernel) (by decide +kernel)
set_option maxRecDepth 20000 in
theorem wi_X4_priceFor : Cond.instanceMethod yX4_priceFor ∈ TT := tt_2 211 (by decide +kernel) (by decide +kernel)
set_option maxRecDepth 20000 in
theorem wv_X4_priceFor : Cond.selects RX4 yX4_priceFor yX4_priceFor ∈ TT := tt_2 212 (by decide +kernel) (by decide +kernel)
set_option maxRecDepth 20000 in
theorem wc_X4_priceFor : Cond.code yX4_priceFor cX4_priceFor 5 (some .int) ∈ TT := tt_2 213 (by decide +kernel) (by decide +kernel)
set_option maxRecDepth 20000 in
theorem wm_L_105 : Cond.methodLink RL 105 yX4_away ∈ TT := tt_2 214 (by decide +kernel) (by decide +kernel)
set_option maxRecDepth 20000 in
theorem wi_X4_away : Cond.instanceMethod yX4_away ∈ TT := tt_2 215 (by decide +kernel) (by decide +kernel)
set_option maxRecDepth 20000 in
theorem wv_X4_away : Cond.selects RX4 yX4_away yX4_away ∈ TT := tt_2 216 (by decide +kernel) (by decide +kernel)
set_option maxRecDepth 20000 in
theorem wc_X4_away : Cond.code yX4_away cX4_away 9 (some .int) ∈ TT := tt_2 217 (by decide +kernel) (by decide +kernel)
set_option maxRecDepth 20000 in
theorem wm_X4_171 : Cond.methodLink RX4 171 yX0_sitterSet ∈ TT := tt_2 218 (by decide +kernel) (by decide +kernel)
set_option maxRecDepth 20000 in
theorem wi_X0_sitterSet : Cond.instanceMethod yX0_sitterSet ∈ TT := tt_2 219 (by decide +kernel) (by decide +kernel)
set_option maxRecDepth 20000 in
theorem wv_X0_sitterSet : Cond.selects RX0 yX0_sitterSet yX0_sitterSet ∈ TT := tt_2 220 (by decide +kernel) (by decide +kernel)
set_option maxRecDepth 20000 in
theorem wc_X0_sitterSet : Cond.code yX0_sitterSet cX0_sitterSet 1 (some .int) ∈ TT := tt_2 221 (by decide +kernel) (by decide +kernel)
set_option maxRecDepth 20000 in
theorem wm_X4_174 : Cond.methodLink RX4 174 yX0_emptyPlacesOf ∈ TT := tt_2 222 (by decide +kernel) (by decide +kernel)
set_option maxRecDepth 20000 in
theorem wi_X0_emptyPlacesOf : Cond.instanceMethod yX0_emptyPlacesOf ∈ TT := tt_2 223 (by decide +kernel) (by decide +kernel)
set_option maxRecDepth 20000 in
theorem wv_X0_emptyPlacesOf : Cond.selects RX0 yX0_emptyPlacesOf yX0_emptyPlacesOf ∈ TT := tt_2 224 (by decide +kernel) (by decide +kernel)
set_option maxRecDepth 20000 in
theorem wc_X0_emptyPlacesOf : Cond.code yX0_emptyPlacesOf cX0_emptyPlacesOf 3 none ∈ TT := tt_2 225 (by decide +kernel) (by decide +kernel)
set_option maxRecDepth 20000 in
theorem wm_L_109 : Cond.methodLink RL 109 yX4_fits ∈ TT := tt_2 226 (by decide +kernel) (by decide +kernel)
set_option maxRecDepth 20000 in
theorem wi_X4_fits : Cond.instanceMethod yX4_fits ∈ TT := tt_2 227 (by decide +kernel) (by decide +kernel)
set_option maxRecDepth 20000 in
theorem wv_X4_fits : Cond.selects RX4 yX4_fits yX4_fits ∈ TT := tt_2 228 (by decide +kernel) (by decide +kernel)
set_option maxRecDepth 20000 in
theorem wc_X4_fits : Cond.code yX4_fits cX4_fits 6 (some .int) ∈ TT := tt_2 229 (by decide +kernel) (by decide +kernel)
set_option maxRecDepth 20000 in
theorem wm_X4_177 : Cond.methodLink RX4 177 yX4_sheetAt ∈ TT := tt_2 230 (by decide +kernel) (by decide +kernel)
set_option maxRecDepth 20000 in
theorem wi_X4_sheetAt : Cond.instanceMethod yX4_sheetAt ∈ TT := tt_2 232 (by decide +kernel) (by decide +kernel)
set_option maxRecDepth 20000 in
theorem wc_X4_sheetAt : Cond.code yX4_sheetAt cX4_sheetAt 2 (some (.object "BoothFlash$Sheet")) ∈ TT := tt_2 233 (by decide +kernel) (by decide +kernel)
set_option maxRecDepth 20000 in
theorem wm_X4_181 : Cond.methodLink RX4 181 yX1_isMissing ∈ TT := tt_2 234 (by decide +kernel) (by decide +kernel)
set_option maxRecDepth 20000 in
theorem wi_X1_isMissing : Cond.instanceMethod yX1_isMissing ∈ TT := tt_2 235 (by decide +kernel) (by decide +kernel)
set_option maxRecDepth 20000 in
theorem wv_X1_isMissing : Cond.selects RX1 yX1_isMissing yX1_isMissing ∈ TT := tt_2 236 (by decide +kernel) (by decide +kernel)
set_option maxRecDepth 20000 in
theorem wc_X1_isMissing : Cond.code yX1_isMissing cX1_isMissing 1 (some .boolean) ∈ TT := tt_2 237 (by decide +kernel) (by decide +kernel)
set_option maxRecDepth 20000 in
theorem wm_X4_184 : Cond.methodLink RX4 184 yX4_refusalFor ∈ TT := tt_2 238 (by decide +kernel) (by decide +kernel)
set_option maxRecDepth 20000 in
theorem wt_X4_refusalFor : Cond.static yX4_refusalFor ∈ TT := tt_2 239 (by decide +kernel) (by decide +kernel)
set_option maxRecDepth 20000 in
theorem wc_X4_refusalFor : Cond.code yX4_refusalFor cX4_refusalFor 1 (some .int) ∈ TT := tt_3 0 (by decide +kernel) (by decide +kernel)
set_option maxRecDepth 20000 in
theorem wk_X4_224 : Cond.constant RX4 224 (-1000006) ∈ TT := tt_3 1 (by decide +kernel) (by decide +kernel)
set_option maxRecDepth 20000 in
theorem wm_X4_188 : Cond.methodLink RX4 188 yX4_isTallAsTold ∈ TT := tt_3 2 (by decide +kernel) (by decide +kernel)
set_option maxRecDepth 20000 in
theorem wi_X4_isTallAsTold : Cond.instanceMethod yX4_isTallAsTold ∈ TT := tt_3 4 (by decide +kernel) (by decide +kernel)
set_option maxRecDepth 20000 in
theorem wc_X4_isTallAsTold : Cond.code yX4_isTallAsTold cX4_isTallAsTold 6 (some .boolean) ∈ TT := tt_3 5 (by decide +kernel) (by decide +kernel)
set_option maxRecDepth 20000 in
theorem wm_X4_270 : Cond.methodLink RX4 270 yX1_allows ∈ TT := tt_3 6 (by decide +kernel) (by decide +kernel)
set_option maxRecDepth 20000 in
theorem wi_X1_allows : Cond.instanceMethod yX1_allows ∈ TT := tt_3 7 (by decide +kernel) (by decide +kernel)
set_option maxRecDepth 20000 in
theorem wv_X1_allows : Cond.selects RX1 yX1_allows yX1_allows ∈ TT := tt_3 8 (by decide +kernel) (by decide +kernel)
set_option maxRecDepth 20000 in
theorem wc_X1_allows : Cond.code yX1_allows cX1_allows 4 (some .boolean) ∈ TT := tt_3 9 (by decide +kernel) (by decide +kernel)
set_option maxRecDepth 20000 in
theorem wm_X1_24 : Cond.methodLink RX1 24 yX1_number ∈ TT := tt_3 10 (by decide +kernel) (by decide +kernel)
set_option maxRecDepth 20000 in
theorem wi_X1_number : Cond.instanceMethod yX1_number ∈ TT := tt_3 11 (by decide +kernel) (by decide +kernel)
set_option maxRecDepth 20000 in
theorem wv_X1_number : Cond.selects RX1 yX1_number yX1_number ∈ TT := tt_3 12 (by decide +kernel) (by decide +kernel)
set_option maxRecDepth 20000 in
theorem wc_X1_number : Cond.code yX1_number cX1_number 2 (some .int) ∈ TT := tt_3 13 (by decide +kernel) (by decide +kernel)
set_option maxRecDepth 20000 in
theorem wm_X1_20 : Cond.methodLink RX1 20 yX1_hasNumber ∈ TT := tt_3 14 (by decide +kernel) (by decide +kernel)
set_option maxRecDepth 20000 in
theorem wi_X1_hasNumber : Cond.instanceMethod yX1_hasNumber ∈ TT := tt_3 15 (by decide +kernel) (by decide +kernel)
set_option maxRecDepth 20000 in
theorem wv_X1_hasNumber : Cond.selects RX1 yX1_hasNumber yX1_hasNumber ∈ TT := tt_3 16 (by decide +kernel) (by decide +kernel)
set_option maxRecDepth 20000 in
theorem wc_X1_hasNumber : Cond.code yX1_hasNumber cX1_hasNumber 2 (some .boolean) ∈ TT := tt_3 17 (by decide +kernel) (by decide +kernel)
set_option maxRecDepth 20000 in
theorem wm_L_113 : Cond.methodLink RL 113 yX4_tall ∈ TT := tt_3 18 (by decide +kernel) (by decide +kernel)
set_option maxRecDepth 20000 in
theorem wi_X4_tall : Cond.instanceMethod yX4_tall ∈ TT := tt_3 19 (by decide +kernel) (by decide +kernel)
set_option maxRecDepth 20000 in
theorem wv_X4_tall : Cond.selects RX4 yX4_tall yX4_tall ∈ TT := tt_3 20 (by decide +kernel) (by decide +kernel)
set_option maxRecDepth 20000 in
theorem wc_X4_tall : Cond.code yX4_tall cX4_tall 5 (some .int) ∈ TT := tt_3 21 (by decide +kernel) (by decide +kernel)
set_option maxRecDepth 20000 in
theorem wm_L_117 : Cond.methodLink RL 117 yX4_kinds ∈ TT := tt_3 22 (by decide +kernel) (by decide +kernel)
set_option maxRecDepth 20000 in
theorem wi_X4_kinds : Cond.instanceMethod yX4_kinds ∈ TT := tt_3 23 (by decide +kernel) (by decide +kernel)
set_option maxRecDepth 20000 in
theorem wv_X4_kinds : Cond.selects RX4 yX4_kinds yX4_kinds ∈ TT := tt_3 24 (by decide +kernel) (by decide +kernel)
set_option maxRecDepth 20000 in
theorem wc_X4_kinds : Cond.code yX4_kinds cX4_kinds 6 (some .int) ∈ TT := tt_3 25 (by decide +kernel) (by decide +kernel)
set_option maxRecDepth 20000 in
theorem wm_X4_192 : Cond.methodLink RX4 192 yX4_isKindAsTold ∈ TT := tt_3 26 (by decide +kernel) (by decide +kernel)
set_option maxRecDepth 20000 in
theorem wi_X4_isKindAsTold : Cond.instanceMethod yX4_isKindAsTold ∈ TT := tt_3 28 (by decide +kernel) (by decide +kernel)
set_option maxRecDepth 20000 in
theorem wc_X4_isKindAsTold : Cond.code yX4_isKindAsTold cX4_isKindAsTold 5 (some .boolean) ∈ TT := tt_3 29 (by decide +kernel) (by decide +kernel)
set_option maxRecDepth 20000 in
theorem wm_L_121 : Cond.methodLink RL 121 yX4_lamps ∈ TT := tt_3 30 (by decide +kernel) (by decide +kernel)
set_option maxRecDepth 20000 in
theorem wi_X4_lamps : Cond.instanceMethod yX4_lamps ∈ TT := tt_3 31 (by decide +kernel) (by decide +kernel)
set_option maxRecDepth 20000 in
theorem wv_X4_lamps : Cond.selects RX4 yX4_lamps yX4_lamps ∈ TT := tt_3 32 (by decide +kernel) (by decide +kernel)
set_option maxRecDepth 20000 in
theorem wc_X4_lamps : Cond.code yX4_lamps cX4_lamps 4 (some .int) ∈ TT := tt_3 33 (by decide +kernel) (by decide +kernel)
set_option maxRecDepth 20000 in
theorem wm_X4_195 : Cond.methodLink RX4 195 yX0_draw ∈ TT := tt_3 34 (by decide +kernel) (by decide +kernel)
set_option maxRecDepth 20000 in
theorem wi_X0_draw : Cond.instanceMethod yX0_draw ∈ TT := tt_3 35 (by decide +kernel) (by decide +kernel)
set_option maxRecDepth 20000 in
theorem wv_X0_draw : Cond.selects RX0 yX0_draw yX0_draw ∈ TT := tt_3 36 (by decide +kernel) (by decide +kernel)
set_option maxRecDepth 20000 in
theorem wc_X0_draw : Cond.code yX0_draw cX0_draw 1 (some .int) ∈ TT := tt_3 37 (by decide +kernel) (by decide +kernel)
set_option maxRecDepth 20000 in
theorem wk_X0_163 : Cond.constant RX0 163 (1103515245) ∈ TT := tt_3 38 (by decide +kernel) (by decide +kernel)
set_option maxRecDepth 20000 in
theorem wm_L_125 : Cond.methodLink RL 125 yX4_odds ∈ TT := tt_3 39 (by decide +kernel) (by decide +kernel)
set_option maxRecDepth 20000 in
theorem wi_X4_odds : Cond.instanceMethod yX4_odds ∈ TT := tt_3 40 (by decide +kernel) (by decide +kernel)
set_option maxRecDepth 20000 in
theorem wv_X4_odds : Cond.selects RX4 yX4_odds yX4_odds ∈ TT := tt_3 41 (by decide +kernel) (by decide +kernel)
set_option maxRecDepth 20000 in
theorem wc_X4_odds : Cond.code yX4_odds cX4_odds 8 (some .long) ∈ TT := tt_3 42 (by decide +kernel) (by decide +kernel)
set_option maxRecDepth 20000 in
theorem wm_X4_198 : Cond.methodLink RX4 198 yX4_lightsWithoutFaults ∈ TT := tt_3 43 (by decide +kernel) (by decide +kernel)
set_option maxRecDepth 20000 in
theorem wi_X4_lightsWithoutFaults : Cond.instanceMethod yX4_lightsWithoutFaults ∈ TT := tt_3 45 (by decide +kernel) (by decide +kernel)
set_option maxRecDepth 20000 in
theorem wc_X4_lightsWithoutFaults : Cond.code yX4_lightsWithoutFaults cX4_lightsWithoutFaults 6 (some .int) ∈ TT := tt_3 46 (by decide +kernel) (by decide +kernel)
set_option maxRecDepth 20000 in
theorem wm_X4_201 : Cond.methodLink RX4 201 yX4_power ∈ TT := tt_3 47 (by decide +kernel) (by decide +kernel)
set_option maxRecDepth 20000 in
theorem wt_X4_power : Cond.static yX4_power ∈ TT := tt_3 48 (by decide +kernel) (by decide +kernel)
set_option maxRecDepth 20000 in
theorem wc_X4_power : Cond.code yX4_power cX4_power 5 (some .long) ∈ TT := tt_3 49 (by decide +kernel) (by decide +kernel)
set_option maxRecDepth 20000 in
theorem wm_L_130 : Cond.methodLink RL 130 yX4_seed ∈ TT := tt_3 50 (by decide +kernel) (by decide +kernel)
set_option maxRecDepth 20000 in
theorem wi_X4_seed : Cond.instanceMethod yX4_seed ∈ TT := tt_3 51 (by decide +kernel) (by decide +kernel)
set_option maxRecDepth 20000 in
theorem wv_X4_seed : Cond.selects RX4 yX4_seed yX4_seed ∈ TT := tt_3 52 (by decide +kernel) (by decide +kernel)
set_option maxRecDepth 20000 in
theorem wc_X4_seed : Cond.code yX4_seed cX4_seed 3 (some .int) ∈ TT := tt_3 53 (by decide +kernel) (by decide +kernel)
set_option maxRecDepth 20000 in
theorem wm_L_134 : Cond.methodLink RL 134 yX4_feed ∈ TT := tt_3 54 (by decide +kernel) (by decide +kernel)
set_option maxRecDepth 20000 in
theorem wi_X4_feed : Cond.instanceMethod yX4_feed ∈ TT := tt_3 55 (by decide +kernel) (by decide +kernel)
set_option maxRecDepth 20000 in
theorem wv_X4_feed : Cond.selects RX4 yX4_feed yX4_feed ∈ TT := tt_3 56 (by decide +kernel) (by decide +kernel)
set_option maxRecDepth 20000 in
theorem wc_X4_feed : Cond.code yX4_feed cX4_feed 4 (some .int) ∈ TT := tt_3 57 (by decide +kernel) (by decide +kernel)
set_option maxRecDepth 20000 in
theorem wm_X4_208 : Cond.methodLink RX4 208 yX3_hasRoomFor ∈ TT := tt_3 58 (by decide +kernel) (by decide +kernel)
set_option maxRecDepth 20000 in
theorem wi_X3_hasRoomFor : Cond.instanceMethod yX3_hasRoomFor ∈ TT := tt_3 59 (by decide +kernel) (by decide +kernel)
set_option maxRecDepth 20000 in
theorem wv_X3_hasRoomFor : Cond.selects RX3 yX3_hasRoomFor yX3_hasRoomFor ∈ TT := tt_3 60 (by decide +kernel) (by decide +kernel)
set_option maxRecDepth 20000 in
theorem wc_X3_hasRoomFor : Cond.code yX3_hasRoomFor cX3_hasRoomFor 2 (some .boolean) ∈ TT := tt_3 61 (by decide +kernel) (by decide +kernel)
set_option maxRecDepth 20000 in
theorem wm_X4_211 : Cond.methodLink RX4 211 yX3_append ∈ TT := tt_3 62 (by decide +kernel) (by decide +kernel)
set_option maxRecDepth 20000 in
theorem wi_X3_append : Cond.instanceMethod yX3_append ∈ TT := tt_3 63 (by decide +kernel) (by decide +kernel)
set_option maxRecDepth 20000 in
theorem wv_X3_append : Cond.selects RX3 yX3_append yX3_append ∈ TT := tt_3 64 (by decide +kernel) (by decide +kernel)
set_option maxRecDepth 20000 in
theorem wc_X3_append : Cond.code yX3_append cX3_append 2 none ∈ TT := tt_3 65 (by decide +kernel) (by decide +kernel)
set_option maxRecDepth 20000 in
theorem wm_L_138 : Cond.methodLink RL 138 yX4_wipe ∈ TT := tt_3 66 (by decide +kernel) (by decide +kernel)
set_option maxRecDepth 20000 in
theorem wi_X4_wipe : Cond.instanceMethod yX4_wipe ∈ TT := tt_3 67 (by decide +kernel) (by decide +kernel)
set_option maxRecDepth 20000 in
theorem wv_X4_wipe : Cond.selects RX4 yX4_wipe yX4_wipe ∈ TT := tt_3 68 (by decide +kernel) (by decide +kernel)
set_option maxRecDepth 20000 in
theorem wc_X4_wipe : Cond.code yX4_wipe cX4_wipe 2 (some .int) ∈ TT := tt_3 69 (by decide +kernel) (by decide +kernel)
set_option maxRecDepth 20000 in
theorem wm_L_142 : Cond.methodLink RL 142 yX4_text ∈ TT := tt_3 70 (by decide +kernel) (by decide +kernel)
set_option maxRecDepth 20000 in
theorem wi_X4_text : Cond.instanceMethod yX4_text ∈ TT := tt_3 71 (by decide +kernel) (by decide +kernel)
set_option maxRecDepth 20000 in
theorem wv_X4_text : Cond.selects RX4 yX4_text yX4_text ∈ TT := tt_3 72 (by decide +kernel) (by decide +kernel)
set_option maxRecDepth 20000 in
theorem wc_X4_text : Cond.code yX4_text cX4_text 2 (some .int) ∈ TT := tt_3 73 (by decide +kernel) (by decide +kernel)
set_option maxRecDepth 20000 in
theorem wm_X4_217 : Cond.methodLink RX4 217 yX3_readInto ∈ TT := tt_3 74 (by decide +kernel) (by decide +kernel)
set_option maxRecDepth 20000 in
theorem wi_X3_readInto : Cond.instanceMethod yX3_readInto ∈ TT := tt_3 75 (by decide +kernel) (by decide +kernel)
set_option maxRecDepth 20000 in
theorem wv_X3_readInto : Cond.selects RX3 yX3_readInto yX3_readInto ∈ TT := tt_3 76 (by decide +kernel) (by decide +kernel)
set_option maxRecDepth 20000 in
theorem wc_X3_readInto : Cond.code yX3_readInto cX3_readInto 3 (some .int) ∈ TT := tt_3 77 (by decide +kernel) (by decide +kernel)
set_option maxRecDepth 20000 in
theorem wm_X3_31 : Cond.methodLink RX3 31 yX3_nextToken ∈ TT := tt_3 78 (by decide +kernel) (by decide +kernel)
set_option maxRecDepth 20000 in
theorem wi_X3_nextToken : Cond.instanceMethod yX3_nextToken ∈ TT := tt_3 79 (by decide +kernel) (by decide +kernel)
set_option maxRecDepth 20000 in
theorem wv_X3_nextToken : Cond.selects RX3 yX3_nextToken yX3_nextToken ∈ TT := tt_3 80 (by decide +kernel) (by decide +kernel)
set_option maxRecDepth 20000 in
theorem wc_X3_nextToken : Cond.code yX3_nextToken cX3_nextToken 2 none ∈ TT := tt_3 81 (by decide +kernel) (by decide +kernel)
set_option maxRecDepth 20000 in
theorem wm_X3_94 : Cond.methodLink RX3 94 yX3_byteAt ∈ TT := tt_3 82 (by decide +kernel) (by decide +kernel)
set_option maxRecDepth 20000 in
theorem wi_X3_byteAt : Cond.instanceMethod yX3_byteAt ∈ TT := tt_3 83 (by decide +kernel) (by decide +kernel)
set_option maxRecDepth 20000 in
theorem wv_X3_byteAt : Cond.selects RX3 yX3_byteAt yX3_byteAt ∈ TT := tt_3 84 (by decide +kernel) (by decide +kernel)
set_option maxRecDepth 20000 in
theorem wc_X3_byteAt : Cond.code yX3_byteAt cX3_byteAt 2 (some .int) ∈ TT := tt_3 85 (by decide +kernel) (by decide +kernel)
set_option maxRecDepth 20000 in
theorem wm_X3_97 : Cond.methodLink RX3 97 yX3_isLetter ∈ TT := tt_3 86 (by decide +kernel) (by decide +kernel)
set_option maxRecDepth 20000 in
theorem wt_X3_isLetter : Cond.static yX3_isLetter ∈ TT := tt_3 87 (by decide +kernel) (by decide +kernel)
set_option maxRecDepth 20000 in
theorem wc_X3_isLetter : Cond.code yX3_isLetter cX3_isLetter 1 (some .boolean) ∈ TT := tt_3 88 (by decide +kernel) (by decide +kernel)
set_option maxRecDepth 20000 in
theorem wm_X3_100 : Cond.methodLink RX3 100 yX3_isDigit ∈ TT := tt_3 89 (by decide +kernel) (by decide +kernel)
set_option maxRecDepth 20000 in
theorem wt_X3_isDigit : Cond.static yX3_isDigit ∈ TT := tt_3 90 (by decide +kernel) (by decide +kernel)
set_option maxRecDepth 20000 in
theorem wc_X3_isDigit : Cond.code yX3_isDigit cX3_isDigit 1 (some .boolean) ∈ TT := tt_3 91 (by decide +kernel) (by decide +kernel)
set_option maxRecDepth 20000 in
theorem wm_X3_103 : Cond.methodLink RX3 103 yX3_readDigits ∈ TT := tt_3 92 (by decide +kernel) (by decide +kernel)
set_option maxRecDepth 20000 in
theorem wi_X3_readDigits : Cond.instanceMethod yX3_readDigits ∈ TT := tt_3 93 (by decide +kernel) (by decide +kernel)
set_option maxRecDepth 20000 in
theorem wv_X3_readDigits : Cond.selects RX3 yX3_readDigits yX3_readDigits ∈ TT := tt_3 94 (by decide +kernel) (by decide +kernel)
set_option maxRecDepth 20000 in
theorem wc_X3_readDigits : Cond.code yX3_readDigits cX3_readDigits 1 none ∈ TT := tt_3 95 (by decide +kernel) (by decide +kernel)
set_option maxRecDepth 20000 in
theorem wm_X3_106 : Cond.methodLink RX3 106 yJ9_min_7cf53 ∈ TT := tt_3 96 (by decide +kernel) (by decide +kernel)
set_option maxRecDepth 20000 in
theorem wm_X3_34 : Cond.methodLink RX3 34 yX3_readItem ∈ TT := tt_3 97 (by decide +kernel) (by decide +kernel)
set_option maxRecDepth 20000 in
theorem wi_X3_readItem : Cond.instanceMethod yX3_readItem ∈ TT := tt_3 98 (by decide +kernel) (by decide +kernel)
set_option maxRecDepth 20000 in
theorem wv_X3_readItem : Cond.selects RX3 yX3_readItem yX3_readItem ∈ TT := tt_3 99 (by decide +kernel) (by decide +kernel)
set_option maxRecDepth 20000 in
theorem wc_X3_readItem : Cond.code yX3_readItem cX3_readItem 3 (some .boolean) ∈ TT := tt_3 100 (by decide +kernel) (by decide +kernel)
set_option maxRecDepth 20000 in
theorem wm_X3_38 : Cond.methodLink RX3 38 yX3_wordOfKind ∈ TT := tt_3 101 (by decide +kernel) (by decide +kernel)
set_option maxRecDepth 20000 in
theorem wt_X3_wordOfKind : Cond.static yX3_wordOfKind ∈ TT := tt_3 102 (by decide +kernel) (by decide +kernel)
set_option maxRecDepth 20000 in
theorem wc_X3_wordOfKind : Cond.code yX3_wordOfKind cX3_wordOfKind 1 (some (.object "java/lang/String")) ∈ TT := tt_3 103 (by decide +kernel) (by decide +kernel)
set_option maxRecDepth 20000 in
theorem wm_X3_42 : Cond.methodLink RX3 42 yX3_isWord ∈ TT := tt_3 111 (by decide +kernel) (by decide +kernel)
set_option maxRecDepth 20000 in
theorem wi_X3_isWord : Cond.instanceMethod yX3_isWord ∈ TT := tt_3 112 (by decide +kernel) (by decide +kernel)
set_option maxRecDepth 20000 in
theorem wv_X3_isWord : Cond.selects RX3 yX3_isWord yX3_isWord ∈ TT := tt_3 113 (by decide +kernel) (by decide +kernel)
set_option maxRecDepth 20000 in
theorem wc_X3_isWord : Cond.code yX3_isWord cX3_isWord 3 (some .boolean) ∈ TT := tt_3 114 (by decide +kernel) (by decide +kernel)
set_option maxRecDepth 20000 in
theorem wm_X3_112 : Cond.methodLink RX3 112 yJ0_length_8abf5 ∈ TT := tt_3 115 (by decide +kernel) (by decide +kernel)
set_option maxRecDepth 20000 in
theorem wi_J0_length_8abf5 : Cond.instanceMethod yJ0_length_8abf5 ∈ TT := tt_3 116 (by decide +kernel) (by decide +kernel)
set_option maxRecDepth 20000 in
theorem wv_J0_length_8abf5 : Cond.selects RJ0 yJ0_length_8abf5 yJ0_length_8abf5 ∈ TT := tt_3 117 (by decide +kernel) (by decide +kernel)
set_option maxRecDepth 20000 in
theorem wc_J0_length_8abf5 : Cond.code yJ0_length_8abf5 cJ0_length_8abf5 1 (some .int) ∈ TT := tt_3 118 (by decide +kernel) (by decide +kernel)
set_option maxRecDepth 20000 in
theorem wm_J0_335 : Cond.methodLink RJ0 335 yJ0_coder_7d493 ∈ TT := tt_3 119 (by decide +kernel) (by decide +kernel)
set_option maxRecDepth 20000 in
theorem wi_J0_coder_7d493 : Cond.instanceMethod yJ0_coder_7d493 ∈ TT := tt_3 120 (by decide +kernel) (by decide +kernel)
set_option maxRecDepth 20000 in
theorem wv_J0_coder_7d493 : Cond.selects RJ0 yJ0_coder_7d493 yJ0_coder_7d493 ∈ TT := tt_3 121 (by decide +kernel) (by decide +kernel)
set_option maxRecDepth 20000 in
theorem wc_J0_coder_7d493 : Cond.code yJ0_coder_7d493 cJ0_coder_7d493 1 (some .byte) ∈ TT := tt_3 122 (by decide +kernel) (by decide +kernel)
set_option maxRecDepth 20000 in
theorem wf_J0_38 : Cond.fieldLink RJ0 38 "java/lang/String" "COMPACT_STRINGS" "Z" ∈ TT := tt_3 123 (by decide +kernel) (by decide +kernel)
set_option maxRecDepth 20000 in
theorem wm_X3_118 : Cond.methodLink RX3 118 yJ0_charAt_5068e ∈ TT := tt_3 125 (by decide +kernel) (by decide +kernel)
set_option maxRecDepth 20000 in
theorem wi_J0_charAt_5068e : Cond.instanceMethod yJ0_charAt_5068e ∈ TT := tt_3 126 (by decide +kernel) (by decide +kernel)
set_option maxRecDepth 20000 in
theorem wv_J0_charAt_5068e : Cond.selects RJ0 yJ0_charAt_5068e yJ0_charAt_5068e ∈ TT := tt_3 127 (by decide +kernel) (by decide +kernel)
set_option maxRecDepth 20000 in
theorem wc_J0_charAt_5068e : Cond.code yJ0_charAt_5068e cJ0_charAt_5068e 2 (some .char) ∈ TT := tt_3 128 (by decide +kernel) (by decide +kernel)
set_option maxRecDepth 20000 in
theorem wm_J0_492 : Cond.methodLink RJ0 492 yJ0_isLatin1_aae02 ∈ TT := tt_3 129 (by decide +kernel) (by decide +kernel)
set_option maxRecDepth 20000 in
theorem wi_J0_isLatin1_aae02 : Cond.instanceMethod yJ0_isLatin1_aae02 ∈ TT := tt_3 130 (by decide +kernel) (by decide +kernel)
set_option maxRecDepth 20000 in
theorem wv_J0_isLatin1_aae02 : Cond.selects RJ0 yJ0_isLatin1_aae02 yJ0_isLatin1_aae02 ∈ TT := tt_3 131 (by decide +kernel) (by decide +kernel)
set_option maxRecDepth 20000 in
theorem wc_J0_isLatin1_aae02 : Cond.code yJ0_isLatin1_aae02 cJ0_isLatin1_aae02 1 (some .boolean) ∈ TT := tt_3 132 (by decide +kernel) (by decide +kernel)
set_option maxRecDepth 20000 in
theorem wm_J0_495 : Cond.methodLink RJ0 495 yJ1_charAt_3b067 ∈ TT := tt_3 133 (by decide +kernel) (by decide +kernel)
set_option maxRecDepth 20000 in
theorem wt_J1_charAt_3b067 : Cond.static yJ1_charAt_3b067 ∈ TT := tt_3 134 (by decide +kernel) (by decide +kernel)
set_option maxRecDepth 20000 in
theorem wc_J1_charAt_3b067 : Cond.code yJ1_charAt_3b067 cJ1_charAt_3b067 2 (some .char) ∈ TT := tt_3 135 (by decide +kernel) (by decide +kernel)
set_option maxRecDepth 20000 in
theorem wm_J1_9 : Cond.methodLink RJ1 9 yJ0_checkIndex_df160 ∈ TT := tt_3 136 (by decide +kernel) (by decide +kernel)
set_option maxRecDepth 20000 in
theorem wt_J0_checkIndex_df160 : Cond.static yJ0_checkIndex_df160 ∈ TT := tt_3 137 (by decide +kernel) (by decide +kernel)
set_option maxRecDepth 20000 in
theorem wc_J0_checkIndex_df160 : Cond.code yJ0_checkIndex_df160 cJ0_checkIndex_df160 2 none ∈ TT := tt_3 138 (by decide +kernel) (by decide +kernel)
set_option maxRecDepth 20000 in
theorem wf_J0_1053 : Cond.fieldLink RJ0 1053 "jdk/internal/util/Preconditions" "SIOOBE_FORMATTER" "Ljava/util/function/BiFunction;" ∈ TT := tt_3 139 (by decide +kernel) (by decide +kernel)
set_option maxRecDepth 20000 in
theorem wm_J0_1059 : Cond.methodLink RJ0 1059 yJ3_checkIndex_8e157 ∈ TT := tt_3 141 (by decide +kernel) (by decide +kernel)
set_option maxRecDepth 20000 in
theorem wt_J3_checkIndex_8e157 : Cond.static yJ3_checkIndex_8e157 ∈ TT := tt_3 142 (by decide +kernel) (by decide +kernel)
set_option maxRecDepth 20000 in
theorem wc_J3_checkIndex_8e157 : Cond.code yJ3_checkIndex_8e157 cJ3_checkIndex_8e157 3 (some .int) ∈ TT := tt_3 143 (by decide +kernel) (by decide +kernel)
set_option maxRecDepth 20000 in
theorem wm_J0_498 : Cond.methodLink RJ0 498 yJ2_charAt_3b067 ∈ TT := tt_3 144 (by decide +kernel) (by decide +kernel)
set_option maxRecDepth 20000 in
theorem wt_J2_charAt_3b067 : Cond.static yJ2_charAt_3b067 ∈ TT := tt_3 145 (by decide +kernel) (by decide +kernel)
set_option maxRecDepth 20000 in
theorem wc_J2_charAt_3b067 : Cond.code yJ2_charAt_3b067 cJ2_charAt_3b067 2 (some .char) ∈ TT := tt_3 146 (by decide +kernel) (by decide +kernel)
set_option maxRecDepth 20000 in
theorem wm_J2_67 : Cond.methodLink RJ2 67 yJ2_checkIndex_2214a ∈ TT := tt_3 147 (by decide +kernel) (by decide +kernel)
set_option maxRecDepth 20000 in
theorem wt_J2_checkIndex_2214a : Cond.static yJ2_checkIndex_2214a ∈ TT := tt_3 148 (by decide +kernel) (by decide +kernel)
set_option maxRecDepth 20000 in
theorem wc_J2_checkIndex_2214a : Cond.code yJ2_checkIndex_2214a cJ2_checkIndex_2214a 2 none ∈ TT := tt_3 149 (by decide +kernel) (by decide +kernel)
set_option maxRecDepth 20000 in
theorem wm_J2_48 : Cond.methodLink RJ2 48 yJ2_length_9d52b ∈ TT := tt_3 150 (by decide +kernel) (by decide +kernel)
set_option maxRecDepth 20000 in
theorem wt_J2_length_9d52b : Cond.static yJ2_length_9d52b ∈ TT := tt_3 151 (by decide +kernel) (by decide +kernel)
set_option maxRecDepth 20000 in
theorem wc_J2_length_9d52b : Cond.code yJ2_length_9d52b cJ2_length_9d52b 1 (some .int) ∈ TT := tt_3 152 (by decide +kernel) (by decide +kernel)
set_option maxRecDepth 20000 in
theorem wm_J2_414 : Cond.methodLink RJ2 414 yJ0_checkIndex_df160 ∈ TT := tt_3 153 (by decide +kernel) (by decide +kernel)
set_option maxRecDepth 20000 in
theorem wm_J2_71 : Cond.methodLink RJ2 71 yJ2_getChar_3b067 ∈ TT := tt_3 154 (by decide +kernel) (by decide +kernel)
set_option maxRecDepth 20000 in
theorem wt_J2_getChar_3b067 : Cond.static yJ2_getChar_3b067 ∈ TT := tt_3 155 (by decide +kernel) (by decide +kernel)
set_option maxRecDepth 20000 in
theorem wc_J2_getChar_3b067 : Cond.code yJ2_getChar_3b067 cJ2_getChar_3b067 2 (some .char) ∈ TT := tt_3 156 (by decide +kernel) (by decide +kernel)
set_option maxRecDepth 20000 in
theorem wf_J2_44 : Cond.fieldLink RJ2 44 "java/lang/StringUTF16" "$assertionsDisabled" "Z" ∈ TT := tt_3 157 (by decide +kernel) (by decide +kernel)
set_option maxRecDepth 20000 in
theorem wf_J2_59 : Cond.fieldLink RJ2 59 "java/lang/StringUTF16" "HI_BYTE_SHIFT" "I" ∈ TT := tt_3 159 (by decide +kernel) (by decide +kernel)
set_option maxRecDepth 20000 in
theorem wf_J2_63 : Cond.fieldLink RJ2 63 "java/lang/StringUTF16" "LO_BYTE_SHIFT" "I" ∈ TT := tt_3 161 (by decide +kernel) (by decide +kernel)
set_option maxRecDepth 20000 in
theorem wm_X3_46 : Cond.methodLink RX3 46 yX3_readSitter ∈ TT := tt_3 163 (by decide +kernel) (by decide +kernel)
set_option maxRecDepth 20000 in
theorem wi_X3_readSitter : Cond.instanceMethod yX3_readSitter ∈ TT := tt_3 164 (by decide +kernel) (by decide +kernel)
set_option maxRecDepth 20000 in
theorem wv_X3_readSitter : Cond.selects RX3 yX3_readSitter yX3_readSitter ∈ TT := tt_3 165 (by decide +kernel) (by decide +kernel)
set_option maxRecDepth 20000 in
theorem wc_X3_readSitter : Cond.code yX3_readSitter cX3_readSitter 5 (some .boolean) ∈ TT := tt_3 166 (by decide +kernel) (by decide +kernel)
set_option maxRecDepth 20000 in
theorem wm_X3_61 : Cond.methodLink RX3 61 yX0_addSitter ∈ TT := tt_3 167 (by decide +kernel) (by decide +kernel)
set_option maxRecDepth 20000 in
theorem wm_X3_67 : Cond.methodLink RX3 67 yX3_wordOfTrait ∈ TT := tt_3 168 (by decide +kernel) (by decide +kernel)
set_option maxRecDepth 20000 in
theorem wt_X3_wordOfTrait : Cond.static yX3_wordOfTrait ∈ TT := tt_3 169 (by decide +kernel) (by decide +kernel)
set_option maxRecDepth 20000 in
theorem wc_X3_wordOfTrait : Cond.code yX3_wordOfTrait cX3_wordOfTrait 1 (some (.object "java/lang/String")) ∈ TT := tt_3 170 (by decide +kernel) (by decide +kernel)
set_option maxRecDepth 20000 in
theorem wm_X3_70 : Cond.methodLink RX3 70 yX2_mostOf ∈ TT := tt_3 175 (by decide +kernel) (by decide +kernel)
set_option maxRecDepth 20000 in
theorem wm_X3_75 : Cond.methodLink RX3 75 yX3_isNumber ∈ TT := tt_3 176 (by decide +kernel) (by decide +kernel)
set_option maxRecDepth 20000 in
theorem wi_X3_isNumber : Cond.instanceMethod yX3_isNumber ∈ TT := tt_3 177 (by decide +kernel) (by decide +kernel)
set_option maxRecDepth 20000 in
theorem wv_X3_isNumber : Cond.selects RX3 yX3_isNumber yX3_isNumber ∈ TT := tt_3 178 (by decide +kernel) (by decide +kernel)
set_option maxRecDepth 20000 in
theorem wc_X3_isNumber : Cond.code yX3_isNumber cX3_isNumber 2 (some .boolean) ∈ TT := tt_3 179 (by decide +kernel) (by decide +kernel)
set_option maxRecDepth 20000 in
theorem wm_X3_79 : Cond.methodLink RX3 79 yX0_give ∈ TT := tt_3 180 (by decide +kernel) (by decide +kernel)
set_option maxRecDepth 20000 in
theorem wm_X3_52 : Cond.methodLink RX3 52 yX3_readQueue ∈ TT := tt_3 182 (by decide +kernel) (by decide +kernel)
set_option maxRecDepth 20000 in
theorem wi_X3_readQueue : Cond.instanceMethod yX3_readQueue ∈ TT := tt_3 183 (by decide +kernel) (by decide +kernel)
set_option maxRecDepth 20000 in
theorem wv_X3_readQueue : Cond.selects RX3 yX3_readQueue yX3_readQueue ∈ TT := tt_3 184 (by decide +kernel) (by decide +kernel)
set_option maxRecDepth 20000 in
theorem wc_X3_readQueue : Cond.code yX3_readQueue cX3_readQueue 3 (some .boolean) ∈ TT := tt_3 185 (by decide +kernel) (by decide +kernel)
set_option maxRecDepth 20000 in
theorem wm_X3_86 : Cond.methodLink RX3 86 yX0_seat ∈ TT := tt_3 186 (by decide +kernel) (by decide +kernel)
set_option maxRecDepth 20000 in
theorem wm_X3_55 : Cond.methodLink RX3 55 yX3_wordOfPart ∈ TT := tt_3 187 (by decide +kernel) (by decide +kernel)
set_option maxRecDepth 20000 in
theorem wt_X3_wordOfPart : Cond.static yX3_wordOfPart ∈ TT := tt_3 188 (by decide +kernel) (by decide +kernel)
set_option maxRecDepth 20000 in
theorem wc_X3_wordOfPart : Cond.code yX3_wordOfPart cX3_wordOfPart 1 (some (.object "java/lang/String")) ∈ TT := tt_3 189 (by decide +kernel) (by decide +kernel)
set_option maxRecDepth 20000 in
theorem wm_X3_58 : Cond.methodLink RX3 58 yX3_readPart ∈ TT := tt_3 193 (by decide +kernel) (by decide +kernel)
set_option maxRecDepth 20000 in
theorem wi_X3_readPart : Cond.instanceMethod yX3_readPart ∈ TT := tt_3 194 (by decide +kernel) (by decide +kernel)
set_option maxRecDepth 20000 in
theorem wv_X3_readPart : Cond.selects RX3 yX3_readPart yX3_readPart ∈ TT := tt_3 195 (by decide +kernel) (by decide +kernel)
set_option maxRecDepth 20000 in
theorem wc_X3_readPart : Cond.code yX3_readPart cX3_readPart 3 (some .boolean) ∈ TT := tt_3 196 (by decide +kernel) (by decide +kernel)
set_option maxRecDepth 20000 in
theorem wm_X3_90 : Cond.methodLink RX3 90 yX0_mostOf ∈ TT := tt_3 197 (by decide +kernel) (by decide +kernel)
set_option maxRecDepth 20000 in
theorem wm_X3_91 : Cond.methodLink RX3 91 yX0_putPart ∈ TT := tt_3 198 (by decide +kernel) (by decide +kernel)
set_option maxRecDepth 20000 in
theorem wac_byte : Cond.arrayClass .byte ∈ TT := tt_3 199 (by decide +kernel) (by decide +kernel)
set_option maxRecDepth 20000 in
theorem wm_L_146 : Cond.methodLink RL 146 yX4_hold ∈ TT := tt_3 200 (by decide +kernel) (by decide +kernel)
set_option maxRecDepth 20000 in
theorem wi_X4_hold : Cond.instanceMethod yX4_hold ∈ TT := tt_3 201 (by decide +kernel) (by decide +kernel)
set_option maxRecDepth 20000 in
theorem wv_X4_hold : Cond.selects RX4 yX4_hold yX4_hold ∈ TT := tt_3 202 (by decide +kernel) (by decide +kernel)
set_option maxRecDepth 20000 in
theorem wc_X4_hold : Cond.code yX4_hold cX4_hold 3 (some .int) ∈ TT := tt_3 203 (by decide +kernel) (by decide +kernel)
set_option maxRecDepth 20000 in
theorem wm_L_150 : Cond.methodLink RL 150 yX4_as ∈ TT := tt_3 204 (by decide +kernel) (by decide +kernel)
set_option maxRecDepth 20000 in
theorem wi_X4_as : Cond.instanceMethod yX4_as ∈ TT := tt_3 205 (by decide +kernel) (by decide +kernel)
set_option maxRecDepth 20000 in
theorem wv_X4_as : Cond.selects RX4 yX4_as yX4_as ∈ TT := tt_3 206 (by decide +kernel) (by decide +kernel)
set_option maxRecDepth 20000 in
theorem wc_X4_as : Cond.code yX4_as cX4_as 5 (some .int) ∈ TT := tt_3 207 (by decide +kernel) (by decide +kernel)
set_option maxRecDepth 20000 in
theorem wm_X4_228 : Cond.methodLink RX4 228 yX2_isOfOrUnder ∈ TT := tt_3 208 (by decide +kernel) (by decide +kernel)
set_option maxRecDepth 20000 in
theorem wt_X2_isOfOrUnder : Cond.static yX2_isOfOrUnder ∈ TT := tt_3 209 (by decide +kernel) (by decide +kernel)
set_option maxRecDepth 20000 in
theorem wc_X2_isOfOrUnder : Cond.code yX2_isOfOrUnder cX2_isOfOrUnder 4 (some .boolean) ∈ TT := tt_3 210 (by decide +kernel) (by decide +kernel)
set_option maxRecDepth 20000 in
theorem wm_X2_37 : Cond.methodLink RX2 37 yX2_kindAbove ∈ TT := tt_3 211 (by decide +kernel) (by decide +kernel)
set_option maxRecDepth 20000 in
theorem wt_X2_kindAbove : Cond.static yX2_kindAbove ∈ TT := tt_3 212 (by decide +kernel) (by decide +kernel)
set_option maxRecDepth 20000 in
theorem wc_X2_kindAbove : Cond.code yX2_kindAbove cX2_kindAbove 1 (some .int) ∈ TT := tt_3 213 (by decide +kernel) (by decide +kernel)
set_option maxRecDepth 20000 in
theorem wk_X4_231 : Cond.constant RX4 231 (-1000003) ∈ TT := tt_3 214 (by decide +kernel) (by decide +kernel)
set_option maxRecDepth 20000 in
theorem wm_L_154 : Cond.methodLink RL 154 yX4_sheet ∈ TT := tt_3 215 (by decide +kernel) (by decide +kernel)
set_option maxRecDepth 20000 in
theorem wi_X4_sheet : Cond.instanceMethod yX4_sheet ∈ TT := tt_3 216 (by decide +kernel) (by decide +kernel)
set_option maxRecDepth 20000 in
theorem wv_X4_sheet : Cond.selects RX4 yX4_sheet yX4_sheet ∈ TT := tt_3 217 (by decide +kernel) (by decide +kernel)
set_option maxRecDepth 20000 in
theorem wc_X4_sheet : Cond.code yX4_sheet cX4_sheet 5 (some .int) ∈ TT := tt_3 218 (by decide +kernel) (by decide +kernel)
set_option maxRecDepth 20000 in
theorem wm_X4_232 : Cond.methodLink RX4 232 yX1_isWidth ∈ TT := tt_3 219 (by decide +kernel) (by decide +kernel)
set_option maxRecDepth 20000 in
theorem wt_X1_isWidth : Cond.static yX1_isWidth ∈ TT := tt_3 220 (by decide +kernel) (by decide +kernel)
set_option maxRecDepth 20000 in
theorem wc_X1_isWidth : Cond.code yX1_isWidth cX1_isWidth 1 (some .boolean) ∈ TT := tt_3 221 (by decide +kernel) (by decide +kernel)
set_option maxRecDepth 20000 in
theorem wk_X4_235 : Cond.constant RX4 235 (-1000007) ∈ TT := tt_3 222 (by decide +kernel) (by decide +kernel)
set_option maxRecDepth 20000 in
theorem wm_X4_236 : Cond.methodLink RX4 236 yX1_begin ∈ TT := tt_3 223 (by decide +kernel) (by decide +kernel)
set_option maxRecDepth 20000 in
theorem wi_X1_begin : Cond.instanceMethod yX1_begin ∈ TT := tt_3 224 (by decide +kernel) (by decide +kernel)
set_option maxRecDepth 20000 in
theorem wv_X1_begin : Cond.selects RX1 yX1_begin yX1_begin ∈ TT := tt_3 225 (by decide +kernel) (by decide +kernel)
set_option maxRecDepth 20000 in
theorem wc_X1_begin : Cond.code yX1_begin cX1_begin 4 none ∈ TT := tt_3 226 (by decide +kernel) (by decide +kernel)
set_option maxRecDepth 20000 in
theorem wm_L_158 : Cond.methodLink RL 158 yX4_write ∈ TT := tt_3 227 (by decide +kernel) (by decide +kernel)
set_option maxRecDepth 20000 in
theorem wi_X4_write : Cond.instanceMethod yX4_write ∈ TT := tt_3 228 (by decide +kernel) (by decide +kernel)
set_option maxRecDepth 20000 in
theorem wv_X4_write : Cond.selects RX4 yX4_write yX4_write ∈ TT := tt_3 229 (by decide +kernel) (by decide +kernel)
set_option maxRecDepth 20000 in
theorem wc_X4_write : Cond.code yX4_write cX4_write 5 (some .int) ∈ TT := tt_3 230 (by decide +kernel) (by decide +kernel)
set_option maxRecDepth 20000 in
theorem wm_X4_240 : Cond.methodLink RX4 240 yX1_putNumber ∈ TT := tt_3 231 (by decide +kernel) (by decide +kernel)
set_option maxRecDepth 20000 in
theorem wi_X1_putNumber : Cond.instanceMethod yX1_putNumber ∈ TT := tt_3 232 (by decide +kernel) (by decide +kernel)
set_option maxRecDepth 20000 in
theorem wv_X1_putNumber : Cond.selects RX1 yX1_putNumber yX1_putNumber ∈ TT := tt_3 233 (by decide +kernel) (by decide +kernel)
set_option maxRecDepth 20000 in
theorem wc_X1_putNumber : Cond.code yX1_putNumber cX1_putNumber 3 (some .boolean) ∈ TT := tt_3 234 (by decide +kernel) (by decide +kernel)
set_option maxRecDepth 20000 in
theorem wm_L_162 : Cond.methodLink RL 162 yX4_copy ∈ TT := tt_3 235 (by decide +kernel) (by decide +kernel)
set_option maxRecDepth 20000 in
theorem wi_X4_copy : Cond.instanceMethod yX4_copy ∈ TT := tt_3 236 (by decide +kernel) (by decide +kernel)
set_option maxRecDepth 20000 in
theorem wv_X4_copy : Cond.selects RX4 yX4_copy yX4_copy ∈ TT := tt_3 237 (by decide +kernel) (by decide +kernel)
set_option maxRecDepth 20000 in
theorem wc_X4_copy : Cond.code yX4_copy cX4_copy 8 (some .int) ∈ TT := tt_3 238 (by decide +kernel) (by decide +kernel)
set_option maxRecDepth 20000 in
theorem wm_X4_246 : Cond.methodLink RX4 246 yX1_hasRange ∈ TT := tt_3 239 (by decide +kernel) (by decide +kernel)
set_option maxRecDepth 20000 in
theorem wi_X1_hasRange : Cond.instanceMethod yX1_hasRange ∈ TT := tt_4 0 (by decide +kernel) (by decide +kernel)
set_option maxRecDepth 20000 in
theorem wv_X1_hasRange : Cond.selects RX1 yX1_hasRange yX1_hasRange ∈ TT := tt_4 1 (by decide +kernel) (by decide +kernel)
set_option maxRecDepth 20000 in
theorem wc_X1_hasRange : Cond.code yX1_hasRange cX1_hasRange 3 (some .boolean) ∈ TT := tt_4 2 (by decide +kernel) (by decide +kernel)
set_option maxRecDepth 20000 in
theorem wm_X4_252 : Cond.methodLink RX4 252 (⟨"java/lang/System", "arraycopy", "(Ljava/lang/Object;ILjava/lang/Object;II)V"⟩ : MethodName) ∈ TT := tt_4 3 (by decide +kernel) (by decide +kernel)
set_option maxRecDepth 20000 in
theorem wm_L_167 : Cond.methodLink RL 167 yX4_load ∈ TT := tt_4 4 (by decide +kernel) (by decide +kernel)
set_option maxRecDepth 20000 in
theorem wi_X4_load : Cond.instanceMethod yX4_load ∈ TT := tt_4 5 (by decide +kernel) (by decide +kernel)
set_option maxRecDepth 20000 in
theorem wv_X4_load : Cond.selects RX4 yX4_load yX4_load ∈ TT := tt_4 6 (by decide +kernel) (by decide +kernel)
set_option maxRecDepth 20000 in
theorem wc_X4_load : Cond.code yX4_load cX4_load 4 (some .int) ∈ TT := tt_4 7 (by decide +kernel) (by decide +kernel)
set_option maxRecDepth 20000 in
theorem wm_X4_258 : Cond.methodLink RX4 258 yX1_number ∈ TT := tt_4 8 (by decide +kernel) (by decide +kernel)
set_option maxRecDepth 20000 in
theorem wm_L_171 : Cond.methodLink RL 171 yX4_judge ∈ TT := tt_4 9 (by decide +kernel) (by decide +kernel)
set_option maxRecDepth 20000 in
theorem wi_X4_judge : Cond.instanceMethod yX4_judge ∈ TT := tt_4 10 (by decide +kernel) (by decide +kernel)
set_option maxRecDepth 20000 in
theorem wv_X4_judge : Cond.selects RX4 yX4_judge yX4_judge ∈ TT := tt_4 11 (by decide +kernel) (by decide +kernel)
set_option maxRecDepth 20000 in
theorem wc_X4_judge : Cond.code yX4_judge cX4_judge 5 (some .int) ∈ TT := tt_4 12 (by decide +kernel) (by decide +kernel)
set_option maxRecDepth 20000 in
theorem wm_L_175 : Cond.methodLink RL 175 yX4_image ∈ TT := tt_4 13 (by decide +kernel) (by decide +kernel)
set_option maxRecDepth 20000 in
theorem wi_X4_image : Cond.instanceMethod yX4_image ∈ TT := tt_4 14 (by decide +kernel) (by decide +kernel)
set_option maxRecDepth 20000 in
theorem wv_X4_image : Cond.selects RX4 yX4_image yX4_image ∈ TT := tt_4 15 (by decide +kernel) (by decide +kernel)
set_option maxRecDepth 20000 in
theorem wc_X4_image : Cond.code yX4_image cX4_image 1 (some .int) ∈ TT := tt_4 16 (by decide +kernel) (by decide +kernel)
set_option maxRecDepth 20000 in
theorem wm_L_179 : Cond.methodLink RL 179 yX4_undo ∈ TT := tt_4 17 (by decide +kernel) (by decide +kernel)
set_option maxRecDepth 20000 in
theorem wi_X4_undo : Cond.instanceMethod yX4_undo ∈ TT := tt_4 18 (by decide +kernel) (by decide +kernel)
set_option maxRecDepth 20000 in
theorem wv_X4_undo : Cond.selects RX4 yX4_undo yX4_undo ∈ TT := tt_4 19 (by decide +kernel) (by decide +kernel)
set_option maxRecDepth 20000 in
theorem wc_X4_undo : Cond.code yX4_undo cX4_undo 1 (some .int) ∈ TT := tt_4 20 (by decide +kernel) (by decide +kernel)
set_option maxRecDepth 20000 in
theorem wm_L_183 : Cond.methodLink RL 183 yX4_tear ∈ TT := tt_4 21 (by decide +kernel) (by decide +kernel)
set_option maxRecDepth 20000 in
theorem wi_X4_tear : Cond.instanceMethod yX4_tear ∈ TT := tt_4 22 (by decide +kernel) (by decide +kernel)
set_option maxRecDepth 20000 in
theorem wv_X4_tear : Cond.selects RX4 yX4_tear yX4_tear ∈ TT := tt_4 23 (by decide +kernel) (by decide +kernel)
set_option maxRecDepth 20000 in
theorem wc_X4_tear : Cond.code yX4_tear cX4_tear 2 (some .int) ∈ TT := tt_4 24 (by decide +kernel) (by decide +kernel)
set_option maxRecDepth 20000 in
theorem wm_L_187 : Cond.methodLink RL 187 yX4_count ∈ TT := tt_4 25 (by decide +kernel) (by decide +kernel)
set_option maxRecDepth 20000 in
theorem wi_X4_count : Cond.instanceMethod yX4_count ∈ TT := tt_4 26 (by decide +kernel) (by decide +kernel)
set_option maxRecDepth 20000 in
theorem wv_X4_count : Cond.selects RX4 yX4_count yX4_count ∈ TT := tt_4 27 (by decide +kernel) (by decide +kernel)
set_option maxRecDepth 20000 in
theorem wc_X4_count : Cond.code yX4_count cX4_count 2 (some .int) ∈ TT := tt_4 28 (by decide +kernel) (by decide +kernel)
set_option maxRecDepth 20000 in
theorem wm_X4_264 : Cond.methodLink RX4 264 yX0_spotsInUse ∈ TT := tt_4 29 (by decide +kernel) (by decide +kernel)
set_option maxRecDepth 20000 in
theorem wi_X0_spotsInUse : Cond.instanceMethod yX0_spotsInUse ∈ TT := tt_4 30 (by decide +kernel) (by decide +kernel)
set_option maxRecDepth 20000 in
theorem wv_X0_spotsInUse : Cond.selects RX0 yX0_spotsInUse yX0_spotsInUse ∈ TT := tt_4 31 (by decide +kernel) (by decide +kernel)
set_option maxRecDepth 20000 in
theorem wc_X0_spotsInUse : Cond.code yX0_spotsInUse cX0_spotsInUse 3 (some .int) ∈ TT := tt_4 32 (by decide +kernel) (by decide +kernel)
set_option maxRecDepth 20000 in
theorem wm_L_191 : Cond.methodLink RL 191 yX4_status ∈ TT := tt_4 33 (by decide +kernel) (by decide +kernel)
set_option maxRecDepth 20000 in
theorem wi_X4_status : Cond.instanceMethod yX4_status ∈ TT := tt_4 34 (by decide +kernel) (by decide +kernel)
set_option maxRecDepth 20000 in
theorem wv_X4_status : Cond.selects RX4 yX4_status yX4_status ∈ TT := tt_4 35 (by decide +kernel) (by decide +kernel)
set_option maxRecDepth 20000 in
theorem wc_X4_status : Cond.code yX4_status cX4_status 4 (some .int) ∈ TT := tt_4 36 (by decide +kernel) (by decide +kernel)
set_option maxRecDepth 20000 in
theorem wl_L_10 : Cond.classLink RL 10 RX5 ∈ TT := tt_4 37 (by decide +kernel) (by decide +kernel)
set_option maxRecDepth 20000 in
theorem wa_X5 : Cond.instantiable RX5 22 ∈ TT := tt_4 38 (by decide +kernel) (by decide +kernel)
set_option maxRecDepth 20000 in
theorem wm_L_12 : Cond.methodLink RL 12 yX5_init ∈ TT := tt_4 39 (by decide +kernel) (by decide +kernel)
set_option maxRecDepth 20000 in
theorem wi_X5_init : Cond.instanceMethod yX5_init ∈ TT := tt_4 40 (by decide +kernel) (by decide +kernel)
set_option maxRecDepth 20000 in
theorem wc_X5_init : Cond.code yX5_init cX5_init 2 none ∈ TT := tt_4 41 (by decide +kernel) (by decide +kernel)
set_option maxRecDepth 20000 in
theorem wm_X5_1 : Cond.methodLink RX5 1 objectInit ∈ TT := tt_4 42 (by decide +kernel) (by decide +kernel)
set_option maxRecDepth 20000 in
theorem wl_X5_25 : Cond.classLink RX5 25 RJ0 ∈ TT := tt_4 43 (by decide +kernel) (by decide +kernel)
set_option maxRecDepth 20000 in
theorem wf_X5_9 : Cond.fieldLink RX5 9 "BoothFlashModel" "now" "[I" ∈ TT := tt_4 52 (by decide +kernel) (by decide +kernel)
set_option maxRecDepth 20000 in
theorem wf_X5_13 : Cond.fieldLink RX5 13 "BoothFlashModel" "kept" "[I" ∈ TT := tt_4 53 (by decide +kernel) (by decide +kernel)
set_option maxRecDepth 20000 in
theorem wf_X5_16 : Cond.fieldLink RX5 16 "BoothFlashModel" "aside" "[I" ∈ TT := tt_4 54 (by decide +kernel) (by decide +kernel)
set_option maxRecDepth 20000 in
theorem wf_X5_342 : Cond.fieldLink RX5 342 "BoothFlashModel" "isKept" "Z" ∈ TT := tt_4 55 (by decide +kernel) (by decide +kernel)
set_option maxRecDepth 20000 in
theorem wf_X5_19 : Cond.fieldLink RX5 19 "BoothFlashModel" "found" "[I" ∈ TT := tt_4 56 (by decide +kernel) (by decide +kernel)
set_option maxRecDepth 20000 in
theorem wf_X5_213 : Cond.fieldLink RX5 213 "BoothFlashModel" "tallMany" "I" ∈ TT := tt_4 57 (by decide +kernel) (by decide +kernel)
set_option maxRecDepth 20000 in
theorem wf_X5_217 : Cond.fieldLink RX5 217 "BoothFlashModel" "tallLeast" "I" ∈ TT := tt_4 58 (by decide +kernel) (by decide +kernel)
set_option maxRecDepth 20000 in
theorem wf_X5_22 : Cond.fieldLink RX5 22 "BoothFlashModel" "tape" "[I" ∈ TT := tt_4 59 (by decide +kernel) (by decide +kernel)
set_option maxRecDepth 20000 in
theorem wf_X5_238 : Cond.fieldLink RX5 238 "BoothFlashModel" "taped" "I" ∈ TT := tt_4 60 (by decide +kernel) (by decide +kernel)
set_option maxRecDepth 20000 in
theorem wf_X5_244 : Cond.fieldLink RX5 244 "BoothFlashModel" "begins" "I" ∈ TT := tt_4 61 (by decide +kernel) (by decide +kernel)
set_option maxRecDepth 20000 in
theorem wf_X5_241 : Cond.fieldLink RX5 241 "BoothFlashModel" "ends" "I" ∈ TT := tt_4 62 (by decide +kernel) (by decide +kernel)
set_option maxRecDepth 20000 in
theorem wf_X5_253 : Cond.fieldLink RX5 253 "BoothFlashModel" "sort" "I" ∈ TT := tt_4 63 (by decide +kernel) (by decide +kernel)
set_option maxRecDepth 20000 in
theorem wf_X5_250 : Cond.fieldLink RX5 250 "BoothFlashModel" "value" "I" ∈ TT := tt_4 64 (by decide +kernel) (by decide +kernel)
set_option maxRecDepth 20000 in
theorem wf_X5_263 : Cond.fieldLink RX5 263 "BoothFlashModel" "isWrong" "Z" ∈ TT := tt_4 65 (by decide +kernel) (by decide +kernel)
set_option maxRecDepth 20000 in
theorem wf_X5_41 : Cond.fieldLink RX5 41 "BoothFlashModel" "kindNames" "[Ljava/lang/String;" ∈ TT := tt_4 66 (by decide +kernel) (by decide +kernel)
set_option maxRecDepth 20000 in
theorem wf_X5_45 : Cond.fieldLink RX5 45 "BoothFlashModel" "items" "[I" ∈ TT := tt_4 67 (by decide +kernel) (by decide +kernel)
set_option maxRecDepth 20000 in
theorem wf_X5_274 : Cond.fieldLink RX5 274 "BoothFlashModel" "itemMany" "I" ∈ TT := tt_4 68 (by decide +kernel) (by decide +kernel)
set_option maxRecDepth 20000 in
theorem wf_X5_284 : Cond.fieldLink RX5 284 "BoothFlashModel" "sittersThen" "I" ∈ TT := tt_4 69 (by decide +kernel) (by decide +kernel)
set_option maxRecDepth 20000 in
theorem wf_X5_48 : Cond.fieldLink RX5 48 "BoothFlashModel" "widths" "[I" ∈ TT := tt_4 70 (by decide +kernel) (by decide +kernel)
set_option maxRecDepth 20000 in
theorem wf_X5_51 : Cond.fieldLink RX5 51 "BoothFlashModel" "sizes" "[I" ∈ TT := tt_4 71 (by decide +kernel) (by decide +kernel)
set_option maxRecDepth 20000 in
theorem wf_X5_54 : Cond.fieldLink RX5 54 "BoothFlashModel" "numbers" "[I" ∈ TT := tt_4 72 (by decide +kernel) (by decide +kernel)
set_option maxRecDepth 20000 in
theorem wf_X5_57 : Cond.fieldLink RX5 57 "BoothFlashModel" "moved" "[I" ∈ TT := tt_4 73 (by decide +kernel) (by decide +kernel)
set_option maxRecDepth 20000 in
theorem wm_L_17 : Cond.methodLink RL 17 yX5_set ∈ TT := tt_4 119 (by decide +kernel) (by decide +kernel)
set_option maxRecDepth 20000 in
theorem wi_X5_set : Cond.instanceMethod yX5_set ∈ TT := tt_4 120 (by decide +kernel) (by decide +kernel)
set_option maxRecDepth 20000 in
theorem wv_X5_set : Cond.selects RX5 yX5_set yX5_set ∈ TT := tt_4 121 (by decide +kernel) (by decide +kernel)
set_option maxRecDepth 20000 in
theorem wc_X5_set : Cond.code yX5_set cX5_set 3 (some .int) ∈ TT := tt_4 122 (by decide +kernel) (by decide +kernel)
set_option maxRecDepth 20000 in
theorem wm_X5_75 : Cond.methodLink RX5 75 yX5_isSet ∈ TT := tt_4 123 (by decide +kernel) (by decide +kernel)
set_option maxRecDepth 20000 in
theorem wt_X5_isSet : Cond.static yX5_isSet ∈ TT := tt_4 124 (by decide +kernel) (by decide +kernel)
set_option maxRecDepth 20000 in
theorem wc_X5_isSet : Cond.code yX5_isSet cX5_isSet 2 (some .boolean) ∈ TT := tt_4 125 (by decide +kernel) (by decide +kernel)
set_option maxRecDepth 20000 in
theorem wm_X5_70 : Cond.methodLink RX5 70 yX5_within ∈ TT := tt_4 126 (by decide +kernel) (by decide +kernel)
set_option maxRecDepth 20000 in
theorem wt_X5_within : Cond.static yX5_within ∈ TT := tt_4 127 (by decide +kernel) (by decide +kernel)
set_option maxRecDepth 20000 in
theorem wc_X5_within : Cond.code yX5_within cX5_within 3 (some .boolean) ∈ TT := tt_4 128 (by decide +kernel) (by decide +kernel)
set_option maxRecDepth 20000 in
theorem wk_X5_74 : Cond.constant RX5 74 (99999) ∈ TT := tt_4 129 (by decide +kernel) (by decide +kernel)
set_option maxRecDepth 20000 in
theorem wm_X5_79 : Cond.methodLink RX5 79 yX5_become ∈ TT := tt_4 130 (by decide +kernel) (by decide +kernel)
set_option maxRecDepth 20000 in
theorem wi_X5_become : Cond.instanceMethod yX5_become ∈ TT := tt_4 132 (by decide +kernel) (by decide +kernel)
set_option maxRecDepth 20000 in
theorem wc_X5_become : Cond.code yX5_become cX5_become 4 (some .int) ∈ TT := tt_4 133 (by decide +kernel) (by decide +kernel)
set_option maxRecDepth 20000 in
theorem wk_X5_60 : Cond.constant RX5 60 (-1000001) ∈ TT := tt_4 134 (by decide +kernel) (by decide +kernel)
set_option maxRecDepth 20000 in
theorem wm_X5_66 : Cond.methodLink RX5 66 yX5_finding ∈ TT := tt_4 135 (by decide +kernel) (by decide +kernel)
set_option maxRecDepth 20000 in
theorem wi_X5_finding : Cond.instanceMethod yX5_finding ∈ TT := tt_4 137 (by decide +kernel) (by decide +kernel)
set_option maxRecDepth 20000 in
theorem wc_X5_finding : Cond.code yX5_finding cX5_finding 2 (some .int) ∈ TT := tt_4 138 (by decide +kernel) (by decide +kernel)
set_option maxRecDepth 20000 in
theorem wm_L_22 : Cond.methodLink RL 22 yX5_booth ∈ TT := tt_4 139 (by decide +kernel) (by decide +kernel)
set_option maxRecDepth 20000 in
theorem wi_X5_booth : Cond.instanceMethod yX5_booth ∈ TT := tt_4 140 (by decide +kernel) (by decide +kernel)
set_option maxRecDepth 20000 in
theorem wv_X5_booth : Cond.selects RX5 yX5_booth yX5_booth ∈ TT := tt_4 141 (by decide +kernel) (by decide +kernel)
set_option maxRecDepth 20000 in
theorem wc_X5_booth : Cond.code yX5_booth cX5_booth 2 (some .int) ∈ TT := tt_4 142 (by decide +kernel) (by decide +kernel)
set_option maxRecDepth 20000 in
theorem wm_L_26 : Cond.methodLink RL 26 yX5_queue ∈ TT := tt_4 143 (by decide +kernel) (by decide +kernel)
set_option maxRecDepth 20000 in
theorem wi_X5_queue : Cond.instanceMethod yX5_queue ∈ TT := tt_4 144 (by decide +kernel) (by decide +kernel)
set_option maxRecDepth 20000 in
theorem wv_X5_queue : Cond.selects RX5 yX5_queue yX5_queue ∈ TT := tt_4 145 (by decide +kernel) (by decide +kernel)
set_option maxRecDepth 20000 in
theorem wc_X5_queue : Cond.code yX5_queue cX5_queue 3 (some .int) ∈ TT := tt_4 146 (by decide +kernel) (by decide +kernel)
set_option maxRecDepth 20000 in
theorem wm_X5_87 : Cond.methodLink RX5 87 yX5_isPlace ∈ TT := tt_4 147 (by decide +kernel) (by decide +kernel)
set_option maxRecDepth 20000 in
theorem wt_X5_isPlace : Cond.static yX5_isPlace ∈ TT := tt_4 148 (by decide +kernel) (by decide +kernel)
set_option maxRecDepth 20000 in
theorem wc_X5_isPlace : Cond.code yX5_isPlace cX5_isPlace 1 (some .boolean) ∈ TT := tt_4 149 (by decide +kernel) (by decide +kernel)
set_option maxRecDepth 20000 in
theorem wm_X5_90 : Cond.methodLink RX5 90 yX5_isInQueue ∈ TT := tt_4 150 (by decide +kernel) (by decide +kernel)
set_option maxRecDepth 20000 in
theorem wi_X5_isInQueue : Cond.instanceMethod yX5_isInQueue ∈ TT := tt_4 152 (by decide +kernel) (by decide +kernel)
set_option maxRecDepth 20000 in
theorem wc_X5_isInQueue : Cond.code yX5_isInQueue cX5_isInQueue 2 (some .boolean) ∈ TT := tt_4 153 (by decide +kernel) (by decide +kernel)
set_option maxRecDepth 20000 in
theorem wm_X5_83 : Cond.methodLink RX5 83 yX5_isSitter ∈ TT := tt_4 154 (by decide +kernel) (by decide +kernel)
set_option maxRecDepth 20000 in
theorem wi_X5_isSitter : Cond.instanceMethod yX5_isSitter ∈ TT := tt_4 156 (by decide +kernel) (by decide +kernel)
set_option maxRecDepth 20000 in
theorem wc_X5_isSitter : Cond.code yX5_isSitter cX5_isSitter 2 (some .boolean) ∈ TT := tt_4 157 (by decide +kernel) (by decide +kernel)
set_option maxRecDepth 20000 in
theorem wm_L_30 : Cond.methodLink RL 30 yX5_place ∈ TT := tt_4 158 (by decide +kernel) (by decide +kernel)
set_option maxRecDepth 20000 in
theorem wi_X5_place : Cond.instanceMethod yX5_place ∈ TT := tt_4 159 (by decide +kernel) (by decide +kernel)
set_option maxRecDepth 20000 in
theorem wv_X5_place : Cond.selects RX5 yX5_place yX5_place ∈ TT := tt_4 160 (by decide +kernel) (by decide +kernel)
set_option maxRecDepth 20000 in
theorem wc_X5_place : Cond.code yX5_place cX5_place 2 (some .int) ∈ TT := tt_4 161 (by decide +kernel) (by decide +kernel)
set_option maxRecDepth 20000 in
theorem wm_L_34 : Cond.methodLink RL 34 yX5_sitter ∈ TT := tt_4 162 (by decide +kernel) (by decide +kernel)
set_option maxRecDepth 20000 in
theorem wi_X5_sitter : Cond.instanceMethod yX5_sitter ∈ TT := tt_4 163 (by decide +kernel) (by decide +kernel)
set_option maxRecDepth 20000 in
theorem wv_X5_sitter : Cond.selects RX5 yX5_sitter yX5_sitter ∈ TT := tt_4 164 (by decide +kernel) (by decide +kernel)
set_option maxRecDepth 20000 in
theorem wc_X5_sitter : Cond.code yX5_sitter cX5_sitter 3 (some .int) ∈ TT := tt_4 165 (by decide +kernel) (by decide +kernel)
set_option maxRecDepth 20000 in
theorem wm_X5_96 : Cond.methodLink RX5 96 yX5_isKind ∈ TT := tt_4 166 (by decide +kernel) (by decide +kernel)
set_option maxRecDepth 20000 in
theorem wt_X5_isKind : Cond.static yX5_isKind ∈ TT := tt_4 167 (by decide +kernel) (by decide +kernel)
set_option maxRecDepth 20000 in
theorem wc_X5_isKind : Cond.code yX5_isKind cX5_isKind 1 (some .boolean) ∈ TT := tt_4 168 (by decide +kernel) (by decide +kernel)
set_option maxRecDepth 20000 in
theorem wk_X5_99 : Cond.constant RX5 99 (-1000002) ∈ TT := tt_4 169 (by decide +kernel) (by decide +kernel)
set_option maxRecDepth 20000 in
theorem wm_X5_100 : Cond.methodLink RX5 100 yX5_comes ∈ TT := tt_4 170 (by decide +kernel) (by decide +kernel)
set_option maxRecDepth 20000 in
theorem wi_X5_comes : Cond.instanceMethod yX5_comes ∈ TT := tt_4 172 (by decide +kernel) (by decide +kernel)
set_option maxRecDepth 20000 in
theorem wc_X5_comes : Cond.code yX5_comes cX5_comes 7 (some .int) ∈ TT := tt_4 173 (by decide +kernel) (by decide +kernel)
set_option maxRecDepth 20000 in
theorem wm_X5_93 : Cond.methodLink RX5 93 yX5_sitterAt ∈ TT := tt_4 174 (by decide +kernel) (by decide +kernel)
set_option maxRecDepth 20000 in
theorem wt_X5_sitterAt : Cond.static yX5_sitterAt ∈ TT := tt_4 175 (by decide +kernel) (by decide +kernel)
set_option maxRecDepth 20000 in
theorem wc_X5_sitterAt : Cond.code yX5_sitterAt cX5_sitterAt 2 (some .int) ∈ TT := tt_4 176 (by decide +kernel) (by decide +kernel)
set_option maxRecDepth 20000 in
theorem wm_L_38 : Cond.methodLink RL 38 yX5_of ∈ TT := tt_4 177 (by decide +kernel) (by decide +kernel)
set_option maxRecDepth 20000 in
theorem wi_X5_of : Cond.instanceMethod yX5_of ∈ TT := tt_4 178 (by decide +kernel) (by decide +kernel)
set_option maxRecDepth 20000 in
theorem wv_X5_of : Cond.selects RX5 yX5_of yX5_of ∈ TT := tt_4 179 (by decide +kernel) (by decide +kernel)
set_option maxRecDepth 20000 in
theorem wc_X5_of : Cond.code yX5_of cX5_of 3 (some .int) ∈ TT := tt_4 180 (by decide +kernel) (by decide +kernel)
set_option maxRecDepth 20000 in
theorem wm_X5_104 : Cond.methodLink RX5 104 yX5_sitterIs ∈ TT := tt_4 181 (by decide +kernel) (by decide +kernel)
set_option maxRecDepth 20000 in
theorem wi_X5_sitterIs : Cond.instanceMethod yX5_sitterIs ∈ TT := tt_4 183 (by decide +kernel) (by decide +kernel)
set_option maxRecDepth 20000 in
theorem wc_X5_sitterIs : Cond.code yX5_sitterIs cX5_sitterIs 3 (some .int) ∈ TT := tt_4 184 (by decide +kernel) (by decide +kernel)
set_option maxRecDepth 20000 in
theorem wm_X5_112 : Cond.methodLink RX5 112 yX5_off ∈ TT := tt_4 185 (by decide +kernel) (by decide +kernel)
set_option maxRecDepth 20000 in
theorem wi_X5_off : Cond.instanceMethod yX5_off ∈ TT := tt_4 187 (by decide +kernel) (by decide +kernel)
set_option maxRecDepth 20000 in
theorem wc_X5_off : Cond.code yX5_off cX5_off 2 (some .int) ∈ TT := tt_4 188 (by decide +kernel) (by decide +kernel)
set_option maxRecDepth 20000 in
theorem wm_X5_107 : Cond.methodLink RX5 107 yJ9_abs_0f7a4 ∈ TT := tt_4 189 (by decide +kernel) (by decide +kernel)
set_option maxRecDepth 20000 in
theorem wm_X5_115 : Cond.methodLink RX5 115 yX5_may ∈ TT := tt_4 190 (by decide +kernel) (by decide +kernel)
set_option maxRecDepth 20000 in
theorem wi_X5_may : Cond.instanceMethod yX5_may ∈ TT := tt_4 192 (by decide +kernel) (by decide +kernel)
set_option maxRecDepth 20000 in
theorem wc_X5_may : Cond.code yX5_may cX5_may 2 (some .int) ∈ TT := tt_4 193 (by decide +kernel) (by decide +kernel)
set_option maxRecDepth 20000 in
theorem wm_L_43 : Cond.methodLink RL 43 yX5_change ∈ TT := tt_4 194 (by decide +kernel) (by decide +kernel)
set_option maxRecDepth 20000 in
theorem wi_X5_change : Cond.instanceMethod yX5_change ∈ TT := tt_4 195 (by decide +kernel) (by decide +kernel)
set_option maxRecDepth 20000 in
theorem wv_X5_change : Cond.selects RX5 yX5_change yX5_change ∈ TT := tt_4 196 (by decide +kernel) (by decide +kernel)
set_option maxRecDepth 20000 in
theorem wc_X5_change : Cond.code yX5_change cX5_change 4 (some .int) ∈ TT := tt_4 197 (by decide +kernel) (by decide +kernel)
set_option maxRecDepth 20000 in
theorem wm_X5_127 : Cond.methodLink RX5 127 yX5_isField ∈ TT := tt_4 198 (by decide +kernel) (by decide +kernel)
set_option maxRecDepth 20000 in
theorem wt_X5_isField : Cond.static yX5_isField ∈ TT := tt_4 199 (by decide +kernel) (by decide +kernel)
set_option maxRecDepth 20000 in
theorem wc_X5_isField : Cond.code yX5_isField cX5_isField 2 (some .boolean) ∈ TT := tt_4 200 (by decide +kernel) (by decide +kernel)
set_option maxRecDepth 20000 in
theorem wm_L_47 : Cond.methodLink RL 47 yX5_faults ∈ TT := tt_4 201 (by decide +kernel) (by decide +kernel)
set_option maxRecDepth 20000 in
theorem wi_X5_faults : Cond.instanceMethod yX5_faults ∈ TT := tt_4 202 (by decide +kernel) (by decide +kernel)
set_option maxRecDepth 20000 in
theorem wv_X5_faults : Cond.selects RX5 yX5_faults yX5_faults ∈ TT := tt_4 203 (by decide +kernel) (by decide +kernel)
set_option maxRecDepth 20000 in
theorem wc_X5_faults : Cond.code yX5_faults cX5_faults 3 (some .int) ∈ TT := tt_4 204 (by decide +kernel) (by decide +kernel)
set_option maxRecDepth 20000 in
theorem wm_X5_130 : Cond.methodLink RX5 130 yX5_isFlash ∈ TT := tt_4 205 (by decide +kernel) (by decide +kernel)
set_option maxRecDepth 20000 in
theorem wt_X5_isFlash : Cond.static yX5_isFlash ∈ TT := tt_4 206 (by decide +kernel) (by decide +kernel)
set_option maxRecDepth 20000 in
theorem wc_X5_isFlash : Cond.code yX5_isFlash cX5_isFlash 1 (some .boolean) ∈ TT := tt_4 207 (by decide +kernel) (by decide +kernel)
set_option maxRecDepth 20000 in
theorem wm_X5_133 : Cond.methodLink RX5 133 yX5_faultsNow ∈ TT := tt_4 208 (by decide +kernel) (by decide +kernel)
set_option maxRecDepth 20000 in
theorem wi_X5_faultsNow : Cond.instanceMethod yX5_faultsNow ∈ TT := tt_4 210 (by decide +kernel) (by decide +kernel)
set_option maxRecDepth 20000 in
theorem wc_X5_faultsNow : Cond.code yX5_faultsNow cX5_faultsNow 4 (some .int) ∈ TT := tt_4 211 (by decide +kernel) (by decide +kernel)
set_option maxRecDepth 20000 in
theorem wm_X5_118 : Cond.methodLink RX5 118 yX5_isShut ∈ TT := tt_4 212 (by decide +kernel) (by decide +kernel)
set_option maxRecDepth 20000 in
theorem wi_X5_isShut : Cond.instanceMethod yX5_isShut ∈ TT := tt_4 214 (by decide +kernel) (by decide +kernel)
set_option maxRecDepth 20000 in
theorem wc_X5_isShut : Cond.code yX5_isShut cX5_isShut 5 (some .boolean) ∈ TT := tt_4 215 (by decide +kernel) (by decide +kernel)
set_option maxRecDepth 20000 in
theorem wm_X5_121 : Cond.methodLink RX5 121 yX5_isSmiling ∈ TT := tt_4 216 (by decide +kernel) (by decide +kernel)
set_option maxRecDepth 20000 in
theorem wi_X5_isSmiling : Cond.instanceMethod yX5_isSmiling ∈ TT := tt_4 218 (by decide +kernel) (by decide +kernel)
set_option maxRecDepth 20000 in
theorem wc_X5_isSmiling : Cond.code yX5_isSmiling cX5_isSmiling 5 (some .boolean) ∈ TT := tt_4 219 (by decide +kernel) (by decide +kernel)
set_option maxRecDepth 20000 in
theorem wm_X5_124 : Cond.methodLink RX5 124 yX5_isShining ∈ TT := tt_4 220 (by decide +kernel) (by decide +kernel)
set_option maxRecDepth 20000 in
theorem wi_X5_isShining : Cond.instanceMethod yX5_isShining ∈ TT := tt_4 222 (by decide +kernel) (by decide +kernel)
set_option maxRecDepth 20000 in
theorem wc_X5_isShining : Cond.code yX5_isShining cX5_isShining 3 (some .boolean) ∈ TT := tt_4 223 (by decide +kernel) (by decide +kernel)
set_option maxRecDepth 20000 in
theorem wm_L_51 : Cond.methodLink RL 51 yX5_best ∈ TT := tt_4 224 (by decide +kernel) (by decide +kernel)
set_option maxRecDepth 20000 in
theorem wi_X5_best : Cond.instanceMethod yX5_best ∈ TT := tt_4 225 (by decide +kernel) (by decide +kernel)
set_option maxRecDepth 20000 in
theorem wv_X5_best : Cond.selects RX5 yX5_best yX5_best ∈ TT := tt_4 226 (by decide +kernel) (by decide +kernel)
set_option maxRecDepth 20000 in
theorem wc_X5_best : Cond.code yX5_best cX5_best 4 (some .int) ∈ TT := tt_4 227 (by decide +kernel) (by decide +kernel)
set_option maxRecDepth 20000 in
theorem wm_X5_136 : Cond.methodLink RX5 136 yX5_bits ∈ TT := tt_4 228 (by decide +kernel) (by decide +kernel)
set_option maxRecDepth 20000 in
theorem wt_X5_bits : Cond.static yX5_bits ∈ TT := tt_4 229 (by decide +kernel) (by decide +kernel)
set_option maxRecDepth 20000 in
theorem wc_X5_bits : Cond.code yX5_bits cX5_bits 3 (some .int) ∈ TT := tt_4 230 (by decide +kernel) (by decide +kernel)
set_option maxRecDepth 20000 in
theorem wm_L_55 : Cond.methodLink RL 55 yX5_go ∈ TT := tt_4 231 (by decide +kernel) (by decide +kernel)
set_option maxRecDepth 20000 in
theorem wi_X5_go : Cond.instanceMethod yX5_go ∈ TT := tt_4 232 (by decide +kernel) (by decide +kernel)
set_option maxRecDepth 20000 in
theorem wv_X5_go : Cond.selects RX5 yX5_go yX5_go ∈ TT := tt_4 233 (by decide +kernel) (by decide +kernel)
set_option maxRecDepth 20000 in
theorem wc_X5_go : Cond.code yX5_go cX5_go 2 (some .int) ∈ TT := tt_4 234 (by decide +kernel) (by decide +kernel)
set_option maxRecDepth 20000 in
theorem wk_X5_162 : Cond.constant RX5 162 (-1000005) ∈ TT := tt_4 235 (by decide +kernel) (by decide +kernel)
set_option maxRecDepth 20000 in
theorem wm_X5_163 : Cond.methodLink RX5 163 yX5_minutes ∈ TT := tt_4 236 (by decide +kernel) (by decide +kernel)
set_option maxRecDepth 20000 in
theorem wi_X5_minutes : Cond.instanceMethod yX5_minutes ∈ TT := tt_4 238 (by decide +kernel) (by decide +kernel)
set_option maxRecDepth 20000 in
theorem wc_X5_minutes : Cond.code yX5_minutes cX5_minutes 3 none ∈ TT := tt_4 239 (by decide +kernel) (by decide +kernel)
set_option maxRecDepth 20000 in
theorem wm_X5_159 : Cond.methodLink RX5 159 yX5_minute ∈ TT := tt_5 0 (by decide +kernel) (by decide +kernel)
set_option maxRecDepth 20000 in
theorem wi_X5_minute : Cond.instanceMethod yX5_minute ∈ TT := tt_5 2 (by decide +kernel) (by decide +kernel)
set_option maxRecDepth 20000 in
theorem wc_X5_minute : Cond.code yX5_minute cX5_minute 3 none ∈ TT := tt_5 3 (by decide +kernel) (by decide +kernel)
set_option maxRecDepth 20000 in
theorem wm_X5_152 : Cond.methodLink RX5 152 yX5_next ∈ TT := tt_5 4 (by decide +kernel) (by decide +kernel)
set_option maxRecDepth 20000 in
theorem wi_X5_next : Cond.instanceMethod yX5_next ∈ TT := tt_5 6 (by decide +kernel) (by decide +kernel)
set_option maxRecDepth 20000 in
theorem wc_X5_next : Cond.code yX5_next cX5_next 1 (some .int) ∈ TT := tt_5 7 (by decide +kernel) (by decide +kernel)
set_option maxRecDepth 20000 in
theorem wm_X5_156 : Cond.methodLink RX5 156 yX5_sits ∈ TT := tt_5 8 (by decide +kernel) (by decide +kernel)
set_option maxRecDepth 20000 in
theorem wi_X5_sits : Cond.instanceMethod yX5_sits ∈ TT := tt_5 10 (by decide +kernel) (by decide +kernel)
set_option maxRecDepth 20000 in
theorem wc_X5_sits : Cond.code yX5_sits cX5_sits 2 none ∈ TT := tt_5 11 (by decide +kernel) (by decide +kernel)
set_option maxRecDepth 20000 in
theorem wm_X5_139 : Cond.methodLink RX5 139 yJ9_min_7cf53 ∈ TT := tt_5 12 (by decide +kernel) (by decide +kernel)
set_option maxRecDepth 20000 in
theorem wm_X5_145 : Cond.methodLink RX5 145 yX5_turnsStool ∈ TT := tt_5 13 (by decide +kernel) (by decide +kernel)
set_option maxRecDepth 20000 in
theorem wi_X5_turnsStool : Cond.instanceMethod yX5_turnsStool ∈ TT := tt_5 15 (by decide +kernel) (by decide +kernel)
set_option maxRecDepth 20000 in
theorem wc_X5_turnsStool : Cond.code yX5_turnsStool cX5_turnsStool 4 none ∈ TT := tt_5 16 (by decide +kernel) (by decide +kernel)
set_option maxRecDepth 20000 in
theorem wm_X5_142 : Cond.methodLink RX5 142 yJ9_max_7cf53 ∈ TT := tt_5 17 (by decide +kernel) (by decide +kernel)
set_option maxRecDepth 20000 in
theorem wm_X5_149 : Cond.methodLink RX5 149 yX5_isGood ∈ TT := tt_5 18 (by decide +kernel) (by decide +kernel)
set_option maxRecDepth 20000 in
theorem wi_X5_isGood : Cond.instanceMethod yX5_isGood ∈ TT := tt_5 20 (by decide +kernel) (by decide +kernel)
set_option maxRecDepth 20000 in
theorem wc_X5_isGood : Cond.code yX5_isGood cX5_isGood 4 (some .boolean) ∈ TT := tt_5 21 (by decide +kernel) (by decide +kernel)
set_option maxRecDepth 20000 in
theorem wm_X5_166 : Cond.methodLink RX5 166 yX5_sumOf ∈ TT := tt_5 22 (by decide +kernel) (by decide +kernel)
set_option maxRecDepth 20000 in
theorem wi_X5_sumOf : Cond.instanceMethod yX5_sumOf ∈ TT := tt_5 24 (by decide +kernel) (by decide +kernel)
set_option maxRecDepth 20000 in
theorem wc_X5_sumOf : Cond.code yX5_sumOf cX5_sumOf 4 (some .int) ∈ TT := tt_5 25 (by decide +kernel) (by decide +kernel)
set_option maxRecDepth 20000 in
theorem wm_L_59 : Cond.methodLink RL 59 yX5_now ∈ TT := tt_5 26 (by decide +kernel) (by decide +kernel)
set_option maxRecDepth 20000 in
theorem wi_X5_now : Cond.instanceMethod yX5_now ∈ TT := tt_5 27 (by decide +kernel) (by decide +kernel)
set_option maxRecDepth 20000 in
theorem wv_X5_now : Cond.selects RX5 yX5_now yX5_now ∈ TT := tt_5 28 (by decide +kernel) (by decide +kernel)
set_option maxRecDepth 20000 in
theorem wc_X5_now : Cond.code yX5_now cX5_now 2 (some .int) ∈ TT := tt_5 29 (by decide +kernel) (by decide +kernel)
set_option maxRecDepth 20000 in
theorem wm_X5_169 : Cond.methodLink RX5 169 yX5_goodOnes ∈ TT := tt_5 30 (by decide +kernel) (by decide +kernel)
set_option maxRecDepth 20000 in
theorem wi_X5_goodOnes : Cond.instanceMethod yX5_goodOnes ∈ TT := tt_5 32 (by decide +kernel) (by decide +kernel)
set_option maxRecDepth 20000 in
theorem wc_X5_goodOnes : Cond.code yX5_goodOnes cX5_goodOnes 3 (some .int) ∈ TT := tt_5 33 (by decide +kernel) (by decide +kernel)
set_option maxRecDepth 20000 in
theorem wm_X5_172 : Cond.methodLink RX5 172 yX5_commonFaults ∈ TT := tt_5 34 (by decide +kernel) (by decide +kernel)
set_option maxRecDepth 20000 in
theorem wi_X5_commonFaults : Cond.instanceMethod yX5_commonFaults ∈ TT := tt_5 36 (by decide +kernel) (by decide +kernel)
set_option maxRecDepth 20000 in
theorem wc_X5_commonFaults : Cond.code yX5_commonFaults cX5_commonFaults 4 (some .int) ∈ TT := tt_5 37 (by decide +kernel) (by decide +kernel)
set_option maxRecDepth 20000 in
theorem wm_L_63 : Cond.methodLink RL 63 yX5_ahead ∈ TT := tt_5 38 (by decide +kernel) (by decide +kernel)
set_option maxRecDepth 20000 in
theorem wi_X5_ahead : Cond.instanceMethod yX5_ahead ∈ TT := tt_5 39 (by decide +kernel) (by decide +kernel)
set_option maxRecDepth 20000 in
theorem wv_X5_ahead : Cond.selects RX5 yX5_ahead yX5_ahead ∈ TT := tt_5 40 (by decide +kernel) (by decide +kernel)
set_option maxRecDepth 20000 in
theorem wc_X5_ahead : Cond.code yX5_ahead cX5_ahead 4 (some .int) ∈ TT := tt_5 41 (by decide +kernel) (by decide +kernel)
set_option maxRecDepth 20000 in
theorem wm_X5_178 : Cond.methodLink RX5 178 yX5_behind ∈ TT := tt_5 42 (by decide +kernel) (by decide +kernel)
set_option maxRecDepth 20000 in
theorem wi_X5_behind : Cond.instanceMethod yX5_behind ∈ TT := tt_5 44 (by decide +kernel) (by decide +kernel)
set_option maxRecDepth 20000 in
theorem wc_X5_behind : Cond.code yX5_behind cX5_behind 3 (some .int) ∈ TT := tt_5 45 (by decide +kernel) (by decide +kernel)
set_option maxRecDepth 20000 in
theorem wm_X5_61 : Cond.methodLink RX5 61 yX5_copyRow ∈ TT := tt_5 46 (by decide +kernel) (by decide +kernel)
set_option maxRecDepth 20000 in
theorem wt_X5_copyRow : Cond.static yX5_copyRow ∈ TT := tt_5 47 (by decide +kernel) (by decide +kernel)
set_option maxRecDepth 20000 in
theorem wc_X5_copyRow : Cond.code yX5_copyRow cX5_copyRow 3 none ∈ TT := tt_5 48 (by decide +kernel) (by decide +kernel)
set_option maxRecDepth 20000 in
theorem wm_X5_175 : Cond.methodLink RX5 175 yX5_putBack ∈ TT := tt_5 49 (by decide +kernel) (by decide +kernel)
set_option maxRecDepth 20000 in
theorem wi_X5_putBack : Cond.instanceMethod yX5_putBack ∈ TT := tt_5 51 (by decide +kernel) (by decide +kernel)
set_option maxRecDepth 20000 in
theorem wc_X5_putBack : Cond.code yX5_putBack cX5_putBack 2 (some .int) ∈ TT := tt_5 52 (by decide +kernel) (by decide +kernel)
set_option maxRecDepth 20000 in
theorem wm_L_67 : Cond.methodLink RL 67 yX5_later ∈ TT := tt_5 53 (by decide +kernel) (by decide +kernel)
set_option maxRecDepth 20000 in
theorem wi_X5_later : Cond.instanceMethod yX5_later ∈ TT := tt_5 54 (by decide +kernel) (by decide +kernel)
set_option maxRecDepth 20000 in
theorem wv_X5_later : Cond.selects RX5 yX5_later yX5_later ∈ TT := tt_5 55 (by decide +kernel) (by decide +kernel)
set_option maxRecDepth 20000 in
theorem wc_X5_later : Cond.code yX5_later cX5_later 3 (some .int) ∈ TT := tt_5 56 (by decide +kernel) (by decide +kernel)
set_option maxRecDepth 20000 in
theorem wm_L_71 : Cond.methodLink RL 71 yX5_when ∈ TT := tt_5 57 (by decide +kernel) (by decide +kernel)
set_option maxRecDepth 20000 in
theorem wi_X5_when : Cond.instanceMethod yX5_when ∈ TT := tt_5 58 (by decide +kernel) (by decide +kernel)
set_option maxRecDepth 20000 in
theorem wv_X5_when : Cond.selects RX5 yX5_when yX5_when ∈ TT := tt_5 59 (by decide +kernel) (by decide +kernel)
set_option maxRecDepth 20000 in
theorem wc_X5_when : Cond.code yX5_when cX5_when 4 (some .int) ∈ TT := tt_5 60 (by decide +kernel) (by decide +kernel)
set_option maxRecDepth 20000 in
theorem wm_X5_181 : Cond.methodLink RX5 181 yX5_orNone ∈ TT := tt_5 61 (by decide +kernel) (by decide +kernel)
set_option maxRecDepth 20000 in
theorem wi_X5_orNone : Cond.instanceMethod yX5_orNone ∈ TT := tt_5 63 (by decide +kernel) (by decide +kernel)
set_option maxRecDepth 20000 in
theorem wc_X5_orNone : Cond.code yX5_orNone cX5_orNone 2 (some .int) ∈ TT := tt_5 64 (by decide +kernel) (by decide +kernel)
set_option maxRecDepth 20000 in
theorem wk_X5_65 : Cond.constant RX5 65 (-1000004) ∈ TT := tt_5 65 (by decide +kernel) (by decide +kernel)
set_option maxRecDepth 20000 in
theorem wm_L_75 : Cond.methodLink RL 75 yX5_broke ∈ TT := tt_5 66 (by decide +kernel) (by decide +kernel)
set_option maxRecDepth 20000 in
theorem wi_X5_broke : Cond.instanceMethod yX5_broke ∈ TT := tt_5 67 (by decide +kernel) (by decide +kernel)
set_option maxRecDepth 20000 in
theorem wv_X5_broke : Cond.selects RX5 yX5_broke yX5_broke ∈ TT := tt_5 68 (by decide +kernel) (by decide +kernel)
set_option maxRecDepth 20000 in
theorem wc_X5_broke : Cond.code yX5_broke cX5_broke 3 (some .int) ∈ TT := tt_5 69 (by decide +kernel) (by decide +kernel)
set_option maxRecDepth 20000 in
theorem wm_L_80 : Cond.methodLink RL 80 yX5_all ∈ TT := tt_5 70 (by decide +kernel) (by decide +kernel)
set_option maxRecDepth 20000 in
theorem wi_X5_all : Cond.instanceMethod yX5_all ∈ TT := tt_5 71 (by decide +kernel) (by decide +kernel)
set_option maxRecDepth 20000 in
theorem wv_X5_all : Cond.selects RX5 yX5_all yX5_all ∈ TT := tt_5 72 (by decide +kernel) (by decide +kernel)
set_option maxRecDepth 20000 in
theorem wc_X5_all : Cond.code yX5_all cX5_all 2 (some .int) ∈ TT := tt_5 73 (by decide +kernel) (by decide +kernel)
set_option maxRecDepth 20000 in
theorem wm_X5_184 : Cond.methodLink RX5 184 yX5_areAllTaken ∈ TT := tt_5 74 (by decide +kernel) (by decide +kernel)
set_option maxRecDepth 20000 in
theorem wi_X5_areAllTaken : Cond.instanceMethod yX5_areAllTaken ∈ TT := tt_5 76 (by decide +kernel) (by decide +kernel)
set_option maxRecDepth 20000 in
theorem wc_X5_areAllTaken : Cond.code yX5_areAllTaken cX5_areAllTaken 3 (some .boolean) ∈ TT := tt_5 77 (by decide +kernel) (by decide +kernel)
set_option maxRecDepth 20000 in
theorem wm_L_84 : Cond.methodLink RL 84 yX5_stoolFor ∈ TT := tt_5 78 (by decide +kernel) (by decide +kernel)
set_option maxRecDepth 20000 in
theorem wi_X5_stoolFor : Cond.instanceMethod yX5_stoolFor ∈ TT := tt_5 79 (by decide +kernel) (by decide +kernel)
set_option maxRecDepth 20000 in
theorem wv_X5_stoolFor : Cond.selects RX5 yX5_stoolFor yX5_stoolFor ∈ TT := tt_5 80 (by decide +kernel) (by decide +kernel)
set_option maxRecDepth 20000 in
theorem wc_X5_stoolFor : Cond.code yX5_stoolFor cX5_stoolFor 7 (some .int) ∈ TT := tt_5 81 (by decide +kernel) (by decide +kernel)
set_option maxRecDepth 20000 in
theorem wm_X5_188 : Cond.methodLink RX5 188 yX5_faultsTogether ∈ TT := tt_5 82 (by decide +kernel) (by decide +kernel)
set_option maxRecDepth 20000 in
theorem wi_X5_faultsTogether : Cond.instanceMethod yX5_faultsTogether ∈ TT := tt_5 84 (by decide +kernel) (by decide +kernel)
set_option maxRecDepth 20000 in
theorem wc_X5_faultsTogether : Cond.code yX5_faultsTogether cX5_faultsTogether 4 (some .int) ∈ TT := tt_5 85 (by decide +kernel) (by decide +kernel)
set_option maxRecDepth 20000 in
theorem wm_L_88 : Cond.methodLink RL 88 yX5_lightFor ∈ TT := tt_5 86 (by decide +kernel) (by decide +kernel)
set_option maxRecDepth 20000 in
theorem wi_X5_lightFor : Cond.instanceMethod yX5_lightFor ∈ TT := tt_5 87 (by decide +kernel) (by decide +kernel)
set_option maxRecDepth 20000 in
theorem wv_X5_lightFor : Cond.selects RX5 yX5_lightFor yX5_lightFor ∈ TT := tt_5 88 (by decide +kernel) (by decide +kernel)
set_option maxRecDepth 20000 in
theorem wc_X5_lightFor : Cond.code yX5_lightFor cX5_lightFor 5 (some .int) ∈ TT := tt_5 89 (by decide +kernel) (by decide +kernel)
set_option maxRecDepth 20000 in
theorem wm_X5_191 : Cond.methodLink RX5 191 yX5_isThought ∈ TT := tt_5 90 (by decide +kernel) (by decide +kernel)
set_option maxRecDepth 20000 in
theorem wt_X5_isThought : Cond.static yX5_isThought ∈ TT := tt_5 91 (by decide +kernel) (by decide +kernel)
set_option maxRecDepth 20000 in
theorem wc_X5_isThought : Cond.code yX5_isThought cX5_isThought 1 (some .boolean) ∈ TT := tt_5 92 (by decide +kernel) (by decide +kernel)
set_option maxRecDepth 20000 in
theorem wm_X5_194 : Cond.methodLink RX5 194 yX5_isTakenWith ∈ TT := tt_5 93 (by decide +kernel) (by decide +kernel)
set_option maxRecDepth 20000 in
theorem wi_X5_isTakenWith : Cond.instanceMethod yX5_isTakenWith ∈ TT := tt_5 95 (by decide +kernel) (by decide +kernel)
set_option maxRecDepth 20000 in
theorem wc_X5_isTakenWith : Cond.code yX5_isTakenWith cX5_isTakenWith 7 (some .boolean) ∈ TT := tt_5 96 (by decide +kernel) (by decide +kernel)
set_option maxRecDepth 20000 in
theorem wm_L_100 : Cond.methodLink RL 100 yX5_merryFor ∈ TT := tt_5 97 (by decide +kernel) (by decide +kernel)
set_option maxRecDepth 20000 in
theorem wi_X5_merryFor : Cond.instanceMethod yX5_merryFor ∈ TT := tt_5 98 (by decide +kernel) (by decide +kernel)
set_option maxRecDepth 20000 in
theorem wv_X5_merryFor : Cond.selects RX5 yX5_merryFor yX5_merryFor ∈ TT := tt_5 99 (by decide +kernel) (by decide +kernel)
set_option maxRecDepth 20000 in
theorem wc_X5_merryFor : Cond.code yX5_merryFor cX5_merryFor 5 (some .int) ∈ TT := tt_5 100 (by decide +kernel) (by decide +kernel)
set_option maxRecDepth 20000 in
theorem wm_L_92 : Cond.methodLink RL 92 yX5_turnFor ∈ TT := tt_5 101 (by decide +kernel) (by decide +kernel)
set_option maxRecDepth 20000 in
theorem wi_X5_turnFor : Cond.instanceMethod yX5_turnFor ∈ TT := tt_5 102 (by decide +kernel) (by decide +kernel)
set_option maxRecDepth 20000 in
theorem wv_X5_turnFor : Cond.selects RX5 yX5_turnFor yX5_turnFor ∈ TT := tt_5 103 (by decide +kernel) (by decide +kernel)
set_option maxRecDepth 20000 in
theorem wc_X5_turnFor : Cond.code yX5_turnFor cX5_turnFor 7 (some .int) ∈ TT := tt_5 104 (by decide +kernel) (by decide +kernel)
set_option maxRecDepth 20000 in
theorem wm_X5_198 : Cond.methodLink RX5 198 yX5_takenWith ∈ TT := tt_5 105 (by decide +kernel) (by decide +kernel)
set_option maxRecDepth 20000 in
theorem wi_X5_takenWith : Cond.instanceMethod yX5_takenWith ∈ TT := tt_5 107 (by decide +kernel) (by decide +kernel)
set_option maxRecDepth 20000 in
theorem wc_X5_takenWith : Cond.code yX5_takenWith cX5_takenWith 7 (some .int) ∈ TT := tt_5 108 (by decide +kernel) (by decide +kernel)
set_option maxRecDepth 20000 in
theorem wm_L_96 : Cond.methodLink RL 96 yX5_kindFor ∈ TT := tt_5 109 (by decide +kernel) (by decide +kernel)
set_option maxRecDepth 20000 in
theorem wi_X5_kindFor : Cond.instanceMethod yX5_kindFor ∈ TT := tt_5 110 (by decide +kernel) (by decide +kernel)
set_option maxRecDepth 20000 in
theorem wv_X5_kindFor : Cond.selects RX5 yX5_kindFor yX5_kindFor ∈ TT := tt_5 111 (by decide +kernel) (by decide +kernel)
set_option maxRecDepth 20000 in
theorem wc_X5_kindFor : Cond.code yX5_kindFor cX5_kindFor 7 (some .int) ∈ TT := tt_5 112 (by decide +kernel) (by decide +kernel)
set_option maxRecDepth 20000 in
theorem wm_L_104 : Cond.methodLink RL 104 yX5_priceFor ∈ TT := tt_5 113 (by decide +kernel) (by decide +kernel)
set_option maxRecDepth 20000 in
theorem wi_X5_priceFor : Cond.instanceMethod yX5_priceFor ∈ TT := tt_5 114 (by decide +kernel) (by decide +kernel)
set_option maxRecDepth 20000 in
theorem wv_X5_priceFor : Cond.selects RX5 yX5_priceFor yX5_priceFor ∈ TT := tt_5 115 (by decide +kernel) (by decide +kernel)
set_option maxRecDepth 20000 in
theorem wc_X5_priceFor : Cond.code yX5_priceFor cX5_priceFor 7 (some .int) ∈ TT := tt_5 116 (by decide +kernel) (by decide +kernel)
set_option maxRecDepth 20000 in
theorem wm_L_108 : Cond.methodLink RL 108 yX5_away ∈ TT := tt_5 117 (by decide +kernel) (by decide +kernel)
set_option maxRecDepth 20000 in
theorem wi_X5_away : Cond.instanceMethod yX5_away ∈ TT := tt_5 118 (by decide +kernel) (by decide +kernel)
set_option maxRecDepth 20000 in
theorem wv_X5_away : Cond.selects RX5 yX5_away yX5_away ∈ TT := tt_5 119 (by decide +kernel) (by decide +kernel)
set_option maxRecDepth 20000 in
theorem wc_X5_away : Cond.code yX5_away cX5_away 7 (some .int) ∈ TT := tt_5 120 (by decide +kernel) (by decide +kernel)
set_option maxRecDepth 20000 in
theorem wm_X5_202 : Cond.methodLink RX5 202 yX5_hasBit ∈ TT := tt_5 121 (by decide +kernel) (by decide +kernel)
set_option maxRecDepth 20000 in
theorem wt_X5_hasBit : Cond.static yX5_hasBit ∈ TT := tt_5 122 (by decide +kernel) (by decide +kernel)
set_option maxRecDepth 20000 in
theorem wc_X5_hasBit : Cond.code yX5_hasBit cX5_hasBit 2 (some .boolean) ∈ TT := tt_5 123 (by decide +kernel) (by decide +kernel)
set_option maxRecDepth 20000 in
theorem wm_X5_205 : Cond.methodLink RX5 205 yX5_takenWithout ∈ TT := tt_5 124 (by decide +kernel) (by decide +kernel)
set_option maxRecDepth 20000 in
theorem wi_X5_takenWithout : Cond.instanceMethod yX5_takenWithout ∈ TT := tt_5 126 (by decide +kernel) (by decide +kernel)
set_option maxRecDepth 20000 in
theorem wc_X5_takenWithout : Cond.code yX5_takenWithout cX5_takenWithout 6 (some .int) ∈ TT := tt_5 127 (by decide +kernel) (by decide +kernel)
set_option maxRecDepth 20000 in
theorem wm_L_112 : Cond.methodLink RL 112 yX5_fits ∈ TT := tt_5 128 (by decide +kernel) (by decide +kernel)
set_option maxRecDepth 20000 in
theorem wi_X5_fits : Cond.instanceMethod yX5_fits ∈ TT := tt_5 129 (by decide +kernel) (by decide +kernel)
set_option maxRecDepth 20000 in
theorem wv_X5_fits : Cond.selects RX5 yX5_fits yX5_fits ∈ TT := tt_5 130 (by decide +kernel) (by decide +kernel)
set_option maxRecDepth 20000 in
theorem wc_X5_fits : Cond.code yX5_fits cX5_fits 4 (some .int) ∈ TT := tt_5 131 (by decide +kernel) (by decide +kernel)
set_option maxRecDepth 20000 in
theorem wm_X5_223 : Cond.methodLink RX5 223 yX5_lacks ∈ TT := tt_5 132 (by decide +kernel) (by decide +kernel)
set_option maxRecDepth 20000 in
theorem wi_X5_lacks : Cond.instanceMethod yX5_lacks ∈ TT := tt_5 134 (by decide +kernel) (by decide +kernel)
set_option maxRecDepth 20000 in
theorem wc_X5_lacks : Cond.code yX5_lacks cX5_lacks 3 (some .int) ∈ TT := tt_5 135 (by decide +kernel) (by decide +kernel)
set_option maxRecDepth 20000 in
theorem wm_X5_209 : Cond.methodLink RX5 209 yX5_isSheet ∈ TT := tt_5 136 (by decide +kernel) (by decide +kernel)
set_option maxRecDepth 20000 in
theorem wt_X5_isSheet : Cond.static yX5_isSheet ∈ TT := tt_5 137 (by decide +kernel) (by decide +kernel)
set_option maxRecDepth 20000 in
theorem wc_X5_isSheet : Cond.code yX5_isSheet cX5_isSheet 1 (some .boolean) ∈ TT := tt_5 138 (by decide +kernel) (by decide +kernel)
set_option maxRecDepth 20000 in
theorem wk_X5_212 : Cond.constant RX5 212 (-1000006) ∈ TT := tt_5 139 (by decide +kernel) (by decide +kernel)
set_option maxRecDepth 20000 in
theorem wm_X5_227 : Cond.methodLink RX5 227 yX5_fitTall ∈ TT := tt_5 140 (by decide +kernel) (by decide +kernel)
set_option maxRecDepth 20000 in
theorem wi_X5_fitTall : Cond.instanceMethod yX5_fitTall ∈ TT := tt_5 142 (by decide +kernel) (by decide +kernel)
set_option maxRecDepth 20000 in
theorem wc_X5_fitTall : Cond.code yX5_fitTall cX5_fitTall 7 none ∈ TT := tt_5 143 (by decide +kernel) (by decide +kernel)
set_option maxRecDepth 20000 in
theorem wm_X5_220 : Cond.methodLink RX5 220 yX5_areFaultsSo ∈ TT := tt_5 144 (by decide +kernel) (by decide +kernel)
set_option maxRecDepth 20000 in
theorem wi_X5_areFaultsSo : Cond.instanceMethod yX5_areFaultsSo ∈ TT := tt_5 146 (by decide +kernel) (by decide +kernel)
set_option maxRecDepth 20000 in
theorem wc_X5_areFaultsSo : Cond.code yX5_areFaultsSo cX5_areFaultsSo 6 (some .boolean) ∈ TT := tt_5 147 (by decide +kernel) (by decide +kernel)
set_option maxRecDepth 20000 in
theorem wm_L_116 : Cond.methodLink RL 116 yX5_tall ∈ TT := tt_5 148 (by decide +kernel) (by decide +kernel)
set_option maxRecDepth 20000 in
theorem wi_X5_tall : Cond.instanceMethod yX5_tall ∈ TT := tt_5 149 (by decide +kernel) (by decide +kernel)
set_option maxRecDepth 20000 in
theorem wv_X5_tall : Cond.selects RX5 yX5_tall yX5_tall ∈ TT := tt_5 150 (by decide +kernel) (by decide +kernel)
set_option maxRecDepth 20000 in
theorem wc_X5_tall : Cond.code yX5_tall cX5_tall 4 (some .int) ∈ TT := tt_5 151 (by decide +kernel) (by decide +kernel)
set_option maxRecDepth 20000 in
theorem wm_L_120 : Cond.methodLink RL 120 yX5_kinds ∈ TT := tt_5 152 (by decide +kernel) (by decide +kernel)
set_option maxRecDepth 20000 in
theorem wi_X5_kinds : Cond.instanceMethod yX5_kinds ∈ TT := tt_5 153 (by decide +kernel) (by decide +kernel)
set_option maxRecDepth 20000 in
theorem wv_X5_kinds : Cond.selects RX5 yX5_kinds yX5_kinds ∈ TT := tt_5 154 (by decide +kernel) (by decide +kernel)
set_option maxRecDepth 20000 in
theorem wc_X5_kinds : Cond.code yX5_kinds cX5_kinds 8 (some .int) ∈ TT := tt_5 155 (by decide +kernel) (by decide +kernel)
set_option maxRecDepth 20000 in
theorem wm_X5_231 : Cond.methodLink RX5 231 yX5_wasTakenSo ∈ TT := tt_5 156 (by decide +kernel) (by decide +kernel)
set_option maxRecDepth 20000 in
theorem wi_X5_wasTakenSo : Cond.instanceMethod yX5_wasTakenSo ∈ TT := tt_5 158 (by decide +kernel) (by decide +kernel)
set_option maxRecDepth 20000 in
theorem wc_X5_wasTakenSo : Cond.code yX5_wasTakenSo cX5_wasTakenSo 6 (some .boolean) ∈ TT := tt_5 159 (by decide +kernel) (by decide +kernel)
set_option maxRecDepth 20000 in
theorem wm_L_124 : Cond.methodLink RL 124 yX5_lamps ∈ TT := tt_5 160 (by decide +kernel) (by decide +kernel)
set_option maxRecDepth 20000 in
theorem wi_X5_lamps : Cond.instanceMethod yX5_lamps ∈ TT := tt_5 161 (by decide +kernel) (by decide +kernel)
set_option maxRecDepth 20000 in
theorem wv_X5_lamps : Cond.selects RX5 yX5_lamps yX5_lamps ∈ TT := tt_5 162 (by decide +kernel) (by decide +kernel)
set_option maxRecDepth 20000 in
theorem wc_X5_lamps : Cond.code yX5_lamps cX5_lamps 5 (some .int) ∈ TT := tt_5 163 (by decide +kernel) (by decide +kernel)
set_option maxRecDepth 20000 in
theorem wm_X5_235 : Cond.methodLink RX5 235 yX5_drawn ∈ TT := tt_5 164 (by decide +kernel) (by decide +kernel)
set_option maxRecDepth 20000 in
theorem wi_X5_drawn : Cond.instanceMethod yX5_drawn ∈ TT := tt_5 166 (by decide +kernel) (by decide +kernel)
set_option maxRecDepth 20000 in
theorem wc_X5_drawn : Cond.code yX5_drawn cX5_drawn 1 (some .int) ∈ TT := tt_5 167 (by decide +kernel) (by decide +kernel)
set_option maxRecDepth 20000 in
theorem wk_X5_234 : Cond.constant RX5 234 (1103515245) ∈ TT := tt_5 168 (by decide +kernel) (by decide +kernel)
set_option maxRecDepth 20000 in
theorem wm_L_129 : Cond.methodLink RL 129 yX5_odds ∈ TT := tt_5 169 (by decide +kernel) (by decide +kernel)
set_option maxRecDepth 20000 in
theorem wi_X5_odds : Cond.instanceMethod yX5_odds ∈ TT := tt_5 170 (by decide +kernel) (by decide +kernel)
set_option maxRecDepth 20000 in
theorem wv_X5_odds : Cond.selects RX5 yX5_odds yX5_odds ∈ TT := tt_5 171 (by decide +kernel) (by decide +kernel)
set_option maxRecDepth 20000 in
theorem wc_X5_odds : Cond.code yX5_odds cX5_odds 12 (some .long) ∈ TT := tt_5 172 (by decide +kernel) (by decide +kernel)
set_option maxRecDepth 20000 in
theorem wm_L_133 : Cond.methodLink RL 133 yX5_seed ∈ TT := tt_5 173 (by decide +kernel) (by decide +kernel)
set_option maxRecDepth 20000 in
theorem wi_X5_seed : Cond.instanceMethod yX5_seed ∈ TT := tt_5 174 (by decide +kernel) (by decide +kernel)
set_option maxRecDepth 20000 in
theorem wv_X5_seed : Cond.selects RX5 yX5_seed yX5_seed ∈ TT := tt_5 175 (by decide +kernel) (by decide +kernel)
set_option maxRecDepth 20000 in
theorem wc_X5_seed : Cond.code yX5_seed cX5_seed 2 (some .int) ∈ TT := tt_5 176 (by decide +kernel) (by decide +kernel)
set_option maxRecDepth 20000 in
theorem wm_L_137 : Cond.methodLink RL 137 yX5_feed ∈ TT := tt_5 177 (by decide +kernel) (by decide +kernel)
set_option maxRecDepth 20000 in
theorem wi_X5_feed : Cond.instanceMethod yX5_feed ∈ TT := tt_5 178 (by decide +kernel) (by decide +kernel)
set_option maxRecDepth 20000 in
theorem wv_X5_feed : Cond.selects RX5 yX5_feed yX5_feed ∈ TT := tt_5 179 (by decide +kernel) (by decide +kernel)
set_option maxRecDepth 20000 in
theorem wc_X5_feed : Cond.code yX5_feed cX5_feed 4 (some .int) ∈ TT := tt_5 180 (by decide +kernel) (by decide +kernel)
set_option maxRecDepth 20000 in
theorem wm_L_141 : Cond.methodLink RL 141 yX5_wipe ∈ TT := tt_5 181 (by decide +kernel) (by decide +kernel)
set_option maxRecDepth 20000 in
theorem wi_X5_wipe : Cond.instanceMethod yX5_wipe ∈ TT := tt_5 182 (by decide +kernel) (by decide +kernel)
set_option maxRecDepth 20000 in
theorem wv_X5_wipe : Cond.selects RX5 yX5_wipe yX5_wipe ∈ TT := tt_5 183 (by decide +kernel) (by decide +kernel)
set_option maxRecDepth 20000 in
theorem wc_X5_wipe : Cond.code yX5_wipe cX5_wipe 2 (some .int) ∈ TT := tt_5 184 (by decide +kernel) (by decide +kernel)
set_option maxRecDepth 20000 in
theorem wm_L_145 : Cond.methodLink RL 145 yX5_text ∈ TT := tt_5 185 (by decide +kernel) (by decide +kernel)
set_option maxRecDepth 20000 in
theorem wi_X5_text : Cond.instanceMethod yX5_text ∈ TT := tt_5 186 (by decide +kernel) (by decide +kernel)
set_option maxRecDepth 20000 in
theorem wv_X5_text : Cond.selects RX5 yX5_text yX5_text ∈ TT := tt_5 187 (by decide +kernel) (by decide +kernel)
set_option maxRecDepth 20000 in
theorem wc_X5_text : Cond.code yX5_text cX5_text 2 (some .int) ∈ TT := tt_5 188 (by decide +kernel) (by decide +kernel)
set_option maxRecDepth 20000 in
theorem wm_X5_267 : Cond.methodLink RX5 267 yX5_token ∈ TT := tt_5 189 (by decide +kernel) (by decide +kernel)
set_option maxRecDepth 20000 in
theorem wi_X5_token : Cond.instanceMethod yX5_token ∈ TT := tt_5 191 (by decide +kernel) (by decide +kernel)
set_option maxRecDepth 20000 in
theorem wc_X5_token : Cond.code yX5_token cX5_token 2 none ∈ TT := tt_5 192 (by decide +kernel) (by decide +kernel)
set_option maxRecDepth 20000 in
theorem wm_X5_247 : Cond.methodLink RX5 247 yX5_byteAt ∈ TT := tt_5 193 (by decide +kernel) (by decide +kernel)
set_option maxRecDepth 20000 in
theorem wi_X5_byteAt : Cond.instanceMethod yX5_byteAt ∈ TT := tt_5 195 (by decide +kernel) (by decide +kernel)
set_option maxRecDepth 20000 in
theorem wc_X5_byteAt : Cond.code yX5_byteAt cX5_byteAt 2 (some .int) ∈ TT := tt_5 196 (by decide +kernel) (by decide +kernel)
set_option maxRecDepth 20000 in
theorem wm_X5_322 : Cond.methodLink RX5 322 yX5_readItem ∈ TT := tt_5 197 (by decide +kernel) (by decide +kernel)
set_option maxRecDepth 20000 in
theorem wi_X5_readItem : Cond.instanceMethod yX5_readItem ∈ TT := tt_5 199 (by decide +kernel) (by decide +kernel)
set_option maxRecDepth 20000 in
theorem wc_X5_readItem : Cond.code yX5_readItem cX5_readItem 2 none ∈ TT := tt_5 200 (by decide +kernel) (by decide +kernel)
set_option maxRecDepth 20000 in
theorem wm_X5_302 : Cond.methodLink RX5 302 yX5_kindTold ∈ TT := tt_5 201 (by decide +kernel) (by decide +kernel)
set_option maxRecDepth 20000 in
theorem wi_X5_kindTold : Cond.instanceMethod yX5_kindTold ∈ TT := tt_5 203 (by decide +kernel) (by decide +kernel)
set_option maxRecDepth 20000 in
theorem wc_X5_kindTold : Cond.code yX5_kindTold cX5_kindTold 3 (some .int) ∈ TT := tt_5 204 (by decide +kernel) (by decide +kernel)
set_option maxRecDepth 20000 in
theorem wm_X5_277 : Cond.methodLink RX5 277 yX5_isWord ∈ TT := tt_5 205 (by decide +kernel) (by decide +kernel)
set_option maxRecDepth 20000 in
theorem wi_X5_isWord : Cond.instanceMethod yX5_isWord ∈ TT := tt_5 207 (by decide +kernel) (by decide +kernel)
set_option maxRecDepth 20000 in
theorem wc_X5_isWord : Cond.code yX5_isWord cX5_isWord 4 (some .boolean) ∈ TT := tt_5 208 (by decide +kernel) (by decide +kernel)
set_option maxRecDepth 20000 in
theorem wm_X5_256 : Cond.methodLink RX5 256 yJ0_length_8abf5 ∈ TT := tt_5 209 (by decide +kernel) (by decide +kernel)
set_option maxRecDepth 20000 in
theorem wm_X5_259 : Cond.methodLink RX5 259 yJ0_charAt_5068e ∈ TT := tt_5 210 (by decide +kernel) (by decide +kernel)
set_option maxRecDepth 20000 in
theorem wm_X5_305 : Cond.methodLink RX5 305 yX5_readSitter ∈ TT := tt_5 211 (by decide +kernel) (by decide +kernel)
set_option maxRecDepth 20000 in
theorem wi_X5_readSitter : Cond.instanceMethod yX5_readSitter ∈ TT := tt_5 213 (by decide +kernel) (by decide +kernel)
set_option maxRecDepth 20000 in
theorem wc_X5_readSitter : Cond.code yX5_readSitter cX5_readSitter 3 none ∈ TT := tt_5 214 (by decide +kernel) (by decide +kernel)
set_option maxRecDepth 20000 in
theorem wm_X5_270 : Cond.methodLink RX5 270 yX5_must ∈ TT := tt_5 215 (by decide +kernel) (by decide +kernel)
set_option maxRecDepth 20000 in
theorem wi_X5_must : Cond.instanceMethod yX5_must ∈ TT := tt_5 217 (by decide +kernel) (by decide +kernel)
set_option maxRecDepth 20000 in
theorem wc_X5_must : Cond.code yX5_must cX5_must 2 none ∈ TT := tt_5 218 (by decide +kernel) (by decide +kernel)
set_option maxRecDepth 20000 in
theorem wm_X5_289 : Cond.methodLink RX5 289 yX5_perhaps ∈ TT := tt_5 220 (by decide +kernel) (by decide +kernel)
set_option maxRecDepth 20000 in
theorem wi_X5_perhaps : Cond.instanceMethod yX5_perhaps ∈ TT := tt_5 222 (by decide +kernel) (by decide +kernel)
set_option maxRecDepth 20000 in
theorem wc_X5_perhaps : Cond.code yX5_perhaps cX5_perhaps 4 (some .int) ∈ TT := tt_5 223 (by decide +kernel) (by decide +kernel)
set_option maxRecDepth 20000 in
theorem wm_X5_281 : Cond.methodLink RX5 281 yX5_number ∈ TT := tt_5 224 (by decide +kernel) (by decide +kernel)
set_option maxRecDepth 20000 in
theorem wi_X5_number : Cond.instanceMethod yX5_number ∈ TT := tt_5 226 (by decide +kernel) (by decide +kernel)
set_option maxRecDepth 20000 in
theorem wc_X5_number : Cond.code yX5_number cX5_number 4 (some .int) ∈ TT := tt_5 227 (by decide +kernel) (by decide +kernel)
set_option maxRecDepth 20000 in
theorem wm_X5_293 : Cond.methodLink RX5 293 yX5_addItem ∈ TT := tt_5 228 (by decide +kernel) (by decide +kernel)
set_option maxRecDepth 20000 in
theorem wi_X5_addItem : Cond.instanceMethod yX5_addItem ∈ TT := tt_5 230 (by decide +kernel) (by decide +kernel)
set_option maxRecDepth 20000 in
theorem wc_X5_addItem : Cond.code yX5_addItem cX5_addItem 4 none ∈ TT := tt_5 231 (by decide +kernel) (by decide +kernel)
set_option maxRecDepth 20000 in
theorem wm_X5_310 : Cond.methodLink RX5 310 yX5_readQueue ∈ TT := tt_5 236 (by decide +kernel) (by decide +kernel)
set_option maxRecDepth 20000 in
theorem wi_X5_readQueue : Cond.instanceMethod yX5_readQueue ∈ TT := tt_5 238 (by decide +kernel) (by decide +kernel)
set_option maxRecDepth 20000 in
theorem wc_X5_readQueue : Cond.code yX5_readQueue cX5_readQueue 4 none ∈ TT := tt_5 239 (by decide +kernel) (by decide +kernel)
set_option maxRecDepth 20000 in
theorem wm_X5_315 : Cond.methodLink RX5 315 yX5_readNumber ∈ TT := tt_6 1 (by decide +kernel) (by decide +kernel)
set_option maxRecDepth 20000 in
theorem wi_X5_readNumber : Cond.instanceMethod yX5_readNumber ∈ TT := tt_6 3 (by decide +kernel) (by decide +kernel)
set_option maxRecDepth 20000 in
theorem wc_X5_readNumber : Cond.code yX5_readNumber cX5_readNumber 3 none ∈ TT := tt_6 4 (by decide +kernel) (by decide +kernel)
set_option maxRecDepth 20000 in
theorem wm_X5_325 : Cond.methodLink RX5 325 yX5_isToldSo ∈ TT := tt_6 7 (by decide +kernel) (by decide +kernel)
set_option maxRecDepth 20000 in
theorem wi_X5_isToldSo : Cond.instanceMethod yX5_isToldSo ∈ TT := tt_6 9 (by decide +kernel) (by decide +kernel)
set_option maxRecDepth 20000 in
theorem wc_X5_isToldSo : Cond.code yX5_isToldSo cX5_isToldSo 4 none ∈ TT := tt_6 10 (by decide +kernel) (by decide +kernel)
set_option maxRecDepth 20000 in
theorem wm_L_149 : Cond.methodLink RL 149 yX5_hold ∈ TT := tt_6 11 (by decide +kernel) (by decide +kernel)
set_option maxRecDepth 20000 in
theorem wi_X5_hold : Cond.instanceMethod yX5_hold ∈ TT := tt_6 12 (by decide +kernel) (by decide +kernel)
set_option maxRecDepth 20000 in
theorem wv_X5_hold : Cond.selects RX5 yX5_hold yX5_hold ∈ TT := tt_6 13 (by decide +kernel) (by decide +kernel)
set_option maxRecDepth 20000 in
theorem wc_X5_hold : Cond.code yX5_hold cX5_hold 3 (some .int) ∈ TT := tt_6 14 (by decide +kernel) (by decide +kernel)
set_option maxRecDepth 20000 in
theorem wm_X5_328 : Cond.methodLink RX5 328 yX5_isSpot ∈ TT := tt_6 15 (by decide +kernel) (by decide +kernel)
set_option maxRecDepth 20000 in
theorem wt_X5_isSpot : Cond.static yX5_isSpot ∈ TT := tt_6 16 (by decide +kernel) (by decide +kernel)
set_option maxRecDepth 20000 in
theorem wc_X5_isSpot : Cond.code yX5_isSpot cX5_isSpot 1 (some .boolean) ∈ TT := tt_6 17 (by decide +kernel) (by decide +kernel)
set_option maxRecDepth 20000 in
theorem wm_L_153 : Cond.methodLink RL 153 yX5_as ∈ TT := tt_6 18 (by decide +kernel) (by decide +kernel)
set_option maxRecDepth 20000 in
theorem wi_X5_as : Cond.instanceMethod yX5_as ∈ TT := tt_6 19 (by decide +kernel) (by decide +kernel)
set_option maxRecDepth 20000 in
theorem wv_X5_as : Cond.selects RX5 yX5_as yX5_as ∈ TT := tt_6 20 (by decide +kernel) (by decide +kernel)
set_option maxRecDepth 20000 in
theorem wc_X5_as : Cond.code yX5_as cX5_as 4 (some .int) ∈ TT := tt_6 21 (by decide +kernel) (by decide +kernel)
set_option maxRecDepth 20000 in
theorem wm_X5_331 : Cond.methodLink RX5 331 yX5_isUnder ∈ TT := tt_6 22 (by decide +kernel) (by decide +kernel)
set_option maxRecDepth 20000 in
theorem wt_X5_isUnder : Cond.static yX5_isUnder ∈ TT := tt_6 23 (by decide +kernel) (by decide +kernel)
set_option maxRecDepth 20000 in
theorem wc_X5_isUnder : Cond.code yX5_isUnder cX5_isUnder 3 (some .boolean) ∈ TT := tt_6 24 (by decide +kernel) (by decide +kernel)
set_option maxRecDepth 20000 in
theorem wm_X5_339 : Cond.methodLink RX5 339 yX5_above ∈ TT := tt_6 25 (by decide +kernel) (by decide +kernel)
set_option maxRecDepth 20000 in
theorem wt_X5_above : Cond.static yX5_above ∈ TT := tt_6 26 (by decide +kernel) (by decide +kernel)
set_option maxRecDepth 20000 in
theorem wc_X5_above : Cond.code yX5_above cX5_above 1 (some .int) ∈ TT := tt_6 27 (by decide +kernel) (by decide +kernel)
set_option maxRecDepth 20000 in
theorem wk_X5_334 : Cond.constant RX5 334 (-1000003) ∈ TT := tt_6 28 (by decide +kernel) (by decide +kernel)
set_option maxRecDepth 20000 in
theorem wm_L_157 : Cond.methodLink RL 157 yX5_sheet ∈ TT := tt_6 29 (by decide +kernel) (by decide +kernel)
set_option maxRecDepth 20000 in
theorem wi_X5_sheet : Cond.instanceMethod yX5_sheet ∈ TT := tt_6 30 (by decide +kernel) (by decide +kernel)
set_option maxRecDepth 20000 in
theorem wv_X5_sheet : Cond.selects RX5 yX5_sheet yX5_sheet ∈ TT := tt_6 31 (by decide +kernel) (by decide +kernel)
set_option maxRecDepth 20000 in
theorem wc_X5_sheet : Cond.code yX5_sheet cX5_sheet 5 (some .int) ∈ TT := tt_6 32 (by decide +kernel) (by decide +kernel)
set_option maxRecDepth 20000 in
theorem wk_X5_335 : Cond.constant RX5 335 (-1000007) ∈ TT := tt_6 33 (by decide +kernel) (by decide +kernel)
set_option maxRecDepth 20000 in
theorem wm_L_161 : Cond.methodLink RL 161 yX5_write ∈ TT := tt_6 34 (by decide +kernel) (by decide +kernel)
set_option maxRecDepth 20000 in
theorem wi_X5_write : Cond.instanceMethod yX5_write ∈ TT := tt_6 35 (by decide +kernel) (by decide +kernel)
set_option maxRecDepth 20000 in
theorem wv_X5_write : Cond.selects RX5 yX5_write yX5_write ∈ TT := tt_6 36 (by decide +kernel) (by decide +kernel)
set_option maxRecDepth 20000 in
theorem wc_X5_write : Cond.code yX5_write cX5_write 4 (some .int) ∈ TT := tt_6 37 (by decide +kernel) (by decide +kernel)
set_option maxRecDepth 20000 in
theorem wm_X5_336 : Cond.methodLink RX5 336 yX5_cutTo ∈ TT := tt_6 38 (by decide +kernel) (by decide +kernel)
set_option maxRecDepth 20000 in
theorem wt_X5_cutTo : Cond.static yX5_cutTo ∈ TT := tt_6 39 (by decide +kernel) (by decide +kernel)
set_option maxRecDepth 20000 in
theorem wc_X5_cutTo : Cond.code yX5_cutTo cX5_cutTo 2 (some .int) ∈ TT := tt_6 40 (by decide +kernel) (by decide +kernel)
set_option maxRecDepth 20000 in
theorem wm_L_166 : Cond.methodLink RL 166 yX5_copy ∈ TT := tt_6 41 (by decide +kernel) (by decide +kernel)
set_option maxRecDepth 20000 in
theorem wi_X5_copy : Cond.instanceMethod yX5_copy ∈ TT := tt_6 42 (by decide +kernel) (by decide +kernel)
set_option maxRecDepth 20000 in
theorem wv_X5_copy : Cond.selects RX5 yX5_copy yX5_copy ∈ TT := tt_6 43 (by decide +kernel) (by decide +kernel)
set_option maxRecDepth 20000 in
theorem wc_X5_copy : Cond.code yX5_copy cX5_copy 7 (some .int) ∈ TT := tt_6 44 (by decide +kernel) (by decide +kernel)
set_option maxRecDepth 20000 in
theorem wm_L_170 : Cond.methodLink RL 170 yX5_load ∈ TT := tt_6 45 (by decide +kernel) (by decide +kernel)
set_option maxRecDepth 20000 in
theorem wi_X5_load : Cond.instanceMethod yX5_load ∈ TT := tt_6 46 (by decide +kernel) (by decide +kernel)
set_option maxRecDepth 20000 in
theorem wv_X5_load : Cond.selects RX5 yX5_load yX5_load ∈ TT := tt_6 47 (by decide +kernel) (by decide +kernel)
set_option maxRecDepth 20000 in
theorem wc_X5_load : Cond.code yX5_load cX5_load 3 (some .int) ∈ TT := tt_6 48 (by decide +kernel) (by decide +kernel)
set_option maxRecDepth 20000 in
theorem wm_L_174 : Cond.methodLink RL 174 yX5_judge ∈ TT := tt_6 49 (by decide +kernel) (by decide +kernel)
set_option maxRecDepth 20000 in
theorem wi_X5_judge : Cond.instanceMethod yX5_judge ∈ TT := tt_6 50 (by decide +kernel) (by decide +kernel)
set_option maxRecDepth 20000 in
theorem wv_X5_judge : Cond.selects RX5 yX5_judge yX5_judge ∈ TT := tt_6 51 (by decide +kernel) (by decide +kernel)
set_option maxRecDepth 20000 in
theorem wc_X5_judge : Cond.code yX5_judge cX5_judge 3 (some .int) ∈ TT := tt_6 52 (by decide +kernel) (by decide +kernel)
set_option maxRecDepth 20000 in
theorem wm_L_178 : Cond.methodLink RL 178 yX5_image ∈ TT := tt_6 53 (by decide +kernel) (by decide +kernel)
set_option maxRecDepth 20000 in
theorem wi_X5_image : Cond.instanceMethod yX5_image ∈ TT := tt_6 54 (by decide +kernel) (by decide +kernel)
set_option maxRecDepth 20000 in
theorem wv_X5_image : Cond.selects RX5 yX5_image yX5_image ∈ TT := tt_6 55 (by decide +kernel) (by decide +kernel)
set_option maxRecDepth 20000 in
theorem wc_X5_image : Cond.code yX5_image cX5_image 1 (some .int) ∈ TT := tt_6 56 (by decide +kernel) (by decide +kernel)
set_option maxRecDepth 20000 in
theorem wm_L_182 : Cond.methodLink RL 182 yX5_undo ∈ TT := tt_6 57 (by decide +kernel) (by decide +kernel)
set_option maxRecDepth 20000 in
theorem wi_X5_undo : Cond.instanceMethod yX5_undo ∈ TT := tt_6 58 (by decide +kernel) (by decide +kernel)
set_option maxRecDepth 20000 in
theorem wv_X5_undo : Cond.selects RX5 yX5_undo yX5_undo ∈ TT := tt_6 59 (by decide +kernel) (by decide +kernel)
set_option maxRecDepth 20000 in
theorem wc_X5_undo : Cond.code yX5_undo cX5_undo 1 (some .int) ∈ TT := tt_6 60 (by decide +kernel) (by decide +kernel)
set_option maxRecDepth 20000 in
theorem wm_L_186 : Cond.methodLink RL 186 yX5_tear ∈ TT := tt_6 61 (by decide +kernel) (by decide +kernel)
set_option maxRecDepth 20000 in
theorem wi_X5_tear : Cond.instanceMethod yX5_tear ∈ TT := tt_6 62 (by decide +kernel) (by decide +kernel)
set_option maxRecDepth 20000 in
theorem wv_X5_tear : Cond.selects RX5 yX5_tear yX5_tear ∈ TT := tt_6 63 (by decide +kernel) (by decide +kernel)
set_option maxRecDepth 20000 in
theorem wc_X5_tear : Cond.code yX5_tear cX5_tear 2 (some .int) ∈ TT := tt_6 64 (by decide +kernel) (by decide +kernel)
set_option maxRecDepth 20000 in
theorem wm_L_190 : Cond.methodLink RL 190 yX5_count ∈ TT := tt_6 65 (by decide +kernel) (by decide +kernel)
set_option maxRecDepth 20000 in
theorem wi_X5_count : Cond.instanceMethod yX5_count ∈ TT := tt_6 66 (by decide +kernel) (by decide +kernel)
set_option maxRecDepth 20000 in
theorem wv_X5_count : Cond.selects RX5 yX5_count yX5_count ∈ TT := tt_6 67 (by decide +kernel) (by decide +kernel)
set_option maxRecDepth 20000 in
theorem wc_X5_count : Cond.code yX5_count cX5_count 4 (some .int) ∈ TT := tt_6 68 (by decide +kernel) (by decide +kernel)
set_option maxRecDepth 20000 in
theorem wm_L_194 : Cond.methodLink RL 194 yX5_status ∈ TT := tt_6 69 (by decide +kernel) (by decide +kernel)
set_option maxRecDepth 20000 in
theorem wi_X5_status : Cond.instanceMethod yX5_status ∈ TT := tt_6 70 (by decide +kernel) (by decide +kernel)
set_option maxRecDepth 20000 in
theorem wv_X5_status : Cond.selects RX5 yX5_status yX5_status ∈ TT := tt_6 71 (by decide +kernel) (by decide +kernel)
set_option maxRecDepth 20000 in
theorem wc_X5_status : Cond.code yX5_status cX5_status 2 (some .int) ∈ TT := tt_6 72 (by decide +kernel) (by decide +kernel)
set_option maxRecDepth 20000 in
theorem wf_J0_9 : Cond.fieldLink RJ0 9 "java/lang/String" "value" "[B" ∈ TT := tt_6 73 (by decide +kernel) (by decide +kernel)
set_option maxRecDepth 20000 in
theorem wf_J0_15 : Cond.fieldLink RJ0 15 "java/lang/String" "coder" "B" ∈ TT := tt_6 74 (by decide +kernel) (by decide +kernel)
end
section
/-! decode rows: out of claim/NAMES.whole.lean.txt (a starting text) -/
theorem dX0_init_0 : decode cX0_init 0 = .ok (.aload_n 0, 1) := by decide +kernel
theorem dX0_init_1 : decode cX0_init 1 = .ok (.invokespecial 3, 3) := by decide +kernel
theorem dX0_init_4 : decode cX0_init 4 = .ok (.aload_n 0, 1) := by decide +kernel
theorem dX0_init_5 : decode cX0_init 5 = .ok (.bipush 20, 2) := by decide +kernel
theorem dX0_init_7 : decode cX0_init 7 = .ok (.putfield 9, 3) := by decide +kernel
theorem dX0_init_10 : decode cX0_init 10 = .ok (.aload_n 0, 1) := by decide +kernel
theorem dX0_init_11 : decode cX0_init 11 = .ok (.iconst 5, 1) := by decide +kernel
theorem dX0_init_12 : decode cX0_init 12 = .ok (.putfield 15, 3) := by decide +kernel
theorem dX0_init_15 : decode cX0_init 15 = .ok (.aload_n 0, 1) := by decide +kernel
theorem dX0_init_16 : decode cX0_init 16 = .ok (.iconst 5, 1) := by decide +kernel
theorem dX0_init_17 : decode cX0_init 17 = .ok (.putfield 18, 3) := by decide +kernel
theorem dX0_init_20 : decode cX0_init 20 = .ok (.aload_n 0, 1) := by decide +kernel
theorem dX0_init_21 : decode cX0_init 21 = .ok (.iconst 0, 1) := by decide +kernel
theorem dX0_init_22 : decode cX0_init 22 = .ok (.putfield 21, 3) := by decide +kernel
theorem dX0_init_25 : decode cX0_init 25 = .ok (.aload_n 0, 1) := by decide +kernel
theorem dX0_init_26 : decode cX0_init 26 = .ok (.iconst 0, 1) := by decide +kernel
theorem dX0_init_27 : decode cX0_init 27 = .ok (.putfield 24, 3) := by decide +kernel
theorem dX0_init_30 : decode cX0_init 30 = .ok (.aload_n 0, 1) := by decide +kernel
theorem dX0_init_31 : decode cX0_init 31 = .ok (.iconst 1, 1) := by decide +kernel
theorem dX0_init_32 : decode cX0_init 32 = .ok (.putfield 27, 3) := by decide +kernel
theorem dX0_init_35 : decode cX0_init 35 = .ok (.aload_n 0, 1) := by decide +kernel
theorem dX0_init_36 : decode cX0_init 36 = .ok (.iconst 0, 1) := by decide +kernel
theorem dX0_init_37 : decode cX0_init 37 = .ok (.putfield 30, 3) := by decide +kernel
theorem dX0_init_40 : decode cX0_init 40 = .ok (.aload_n 0, 1) := by decide +kernel
theorem dX0_init_41 : decode cX0_init 41 = .ok (.bipush 8, 2) := by decide +kernel
theorem dX0_init_43 : decode cX0_init 43 = .ok (.anewarray 33, 3) := by decide +kernel
theorem dX0_init_46 : decode cX0_init 46 = .ok (.putfield 35, 3) := by decide +kernel
theorem dX0_init_49 : decode cX0_init 49 = .ok (.iconst 0, 1) := by decide +kernel
theorem dX0_init_50 : decode cX0_init 50 = .ok (.istore_n 1, 1) := by decide +kernel
theorem dX0_init_51 : decode cX0_init 51 = .ok (.iload_n 1, 1) := by decide +kernel
theorem dX0_init_52 : decode cX0_init 52 = .ok (.bipush 8, 2) := by decide +kernel
theorem dX0_init_54 : decode cX0_init 54 = .ok (.if_icmp .ge 22, 3) := by decide +kernel
theorem dX0_init_57 : decode cX0_init 57 = .ok (.aload_n 0, 1) := by decide +kernel
theorem dX0_init_58 : decode cX0_init 58 = .ok (.getfield 35, 3) := by decide +kernel
theorem dX0_init_61 : decode cX0_init 61 = .ok (.iload_n 1, 1) := by decide +kernel
theorem dX0_init_62 : decode cX0_init 62 = .ok (.new 33, 3) := by decide +kernel
theorem dX0_init_65 : decode cX0_init 65 = .ok (.dup, 1) := by decide +kernel
theorem dX0_init_66 : decode cX0_init 66 = .ok (.invokespecial 39, 3) := by decide +kernel
theorem dX0_init_69 : decode cX0_init 69 = .ok (.aastore, 1) := by decide +kernel
theorem dX0_init_70 : decode cX0_init 70 = .ok (.iinc 1 1, 3) := by decide +kernel
theorem dX0_init_73 : decode cX0_init 73 = .ok (.goto (-22), 3) := by decide +kernel
theorem dX0_init_76 : decode cX0_init 76 = .ok (.aload_n 0, 1) := by decide +kernel
theorem dX0_init_77 : decode cX0_init 77 = .ok (.bipush 6, 2) := by decide +kernel
theorem dX0_init_79 : decode cX0_init 79 = .ok (.newarray .int, 2) := by decide +kernel
theorem dX0_init_81 : decode cX0_init 81 = .ok (.putfield 40, 3) := by decide +kernel
theorem dX0_init_84 : decode cX0_init 84 = .ok (.iconst 0, 1) := by decide +kernel
theorem dX0_init_85 : decode cX0_init 85 = .ok (.istore_n 1, 1) := by decide +kernel
theorem dX0_init_86 : decode cX0_init 86 = .ok (.iload_n 1, 1) := by decide +kernel
theorem dX0_init_87 : decode cX0_init 87 = .ok (.bipush 6, 2) := by decide +kernel
theorem dX0_init_89 : decode cX0_init 89 = .ok (.if_icmp .ge 16, 3) := by decide +kernel
theorem dX0_init_92 : decode cX0_init 92 = .ok (.aload_n 0, 1) := by decide +kernel
theorem dX0_init_93 : decode cX0_init 93 = .ok (.getfield 40, 3) := by decide +kernel
theorem dX0_init_96 : decode cX0_init 96 = .ok (.iload_n 1, 1) := by decide +kernel
theorem dX0_init_97 : decode cX0_init 97 = .ok (.iconst (-1), 1) := by decide +kernel
theorem dX0_init_98 : decode cX0_init 98 = .ok (.iastore, 1) := by decide +kernel
theorem dX0_init_99 : decode cX0_init 99 = .ok (.iinc 1 1, 3) := by decide +kernel
theorem dX0_init_102 : decode cX0_init 102 = .ok (.goto (-16), 3) := by decide +kernel
theorem dX0_init_105 : decode cX0_init 105 = .ok (.aload_n 0, 1) := by decide +kernel
theorem dX0_init_106 : decode cX0_init 106 = .ok (.bipush 10, 2) := by decide +kernel
theorem dX0_init_108 : decode cX0_init 108 = .ok (.newarray .int, 2) := by decide +kernel
theorem dX0_init_110 : decode cX0_init 110 = .ok (.putfield 44, 3) := by decide +kernel
theorem dX0_init_113 : decode cX0_init 113 = .ok (.iconst 0, 1) := by decide +kernel
theorem dX0_init_114 : decode cX0_init 114 = .ok (.istore_n 1, 1) := by decide +kernel
theorem dX0_init_115 : decode cX0_init 115 = .ok (.iload_n 1, 1) := by decide +kernel
theorem dX0_init_116 : decode cX0_init 116 = .ok (.bipush 10, 2) := by decide +kernel
theorem dX0_init_118 : decode cX0_init 118 = .ok (.if_icmp .ge 16, 3) := by decide +kernel
theorem dX0_init_121 : decode cX0_init 121 = .ok (.aload_n 0, 1) := by decide +kernel
theorem dX0_init_122 : decode cX0_init 122 = .ok (.getfield 44, 3) := by decide +kernel
theorem dX0_init_125 : decode cX0_init 125 = .ok (.iload_n 1, 1) := by decide +kernel
theorem dX0_init_126 : decode cX0_init 126 = .ok (.iconst (-1), 1) := by decide +kernel
theorem dX0_init_127 : decode cX0_init 127 = .ok (.iastore, 1) := by decide +kernel
theorem dX0_init_128 : decode cX0_init 128 = .ok (.iinc 1 1, 3) := by decide +kernel
theorem dX0_init_131 : decode cX0_init 131 = .ok (.goto (-16), 3) := by decide +kernel
theorem dX0_init_134 : decode cX0_init 134 = .ok (.return_, 1) := by decide +kernel
theorem dX0_become_0 : decode cX0_become 0 = .ok (.aload_n 0, 1) := by decide +kernel
theorem dX0_become_1 : decode cX0_become 1 = .ok (.aload_n 1, 1) := by decide +kernel
theorem dX0_become_2 : decode cX0_become 2 = .ok (.getfield 9, 3) := by decide +kernel
theorem dX0_become_5 : decode cX0_become 5 = .ok (.putfield 9, 3) := by decide +kernel
theorem dX0_become_8 : decode cX0_become 8 = .ok (.aload_n 0, 1) := by decide +kernel
theorem dX0_become_9 : decode cX0_become 9 = .ok (.aload_n 1, 1) := by decide +kernel
theorem dX0_become_10 : decode cX0_become 10 = .ok (.getfield 15, 3) := by decide +kernel
theorem dX0_become_13 : decode cX0_become 13 = .ok (.putfield 15, 3) := by decide +kernel
theorem dX0_become_16 : decode cX0_become 16 = .ok (.aload_n 0, 1) := by decide +kernel
theorem dX0_become_17 : decode cX0_become 17 = .ok (.aload_n 1, 1) := by decide +kernel
theorem dX0_become_18 : decode cX0_become 18 = .ok (.getfield 18, 3) := by decide +kernel
theorem dX0_become_21 : decode cX0_become 21 = .ok (.putfield 18, 3) := by decide +kernel
theorem dX0_become_24 : decode cX0_become 24 = .ok (.aload_n 0, 1) := by decide +kernel
theorem dX0_become_25 : decode cX0_become 25 = .ok (.aload_n 1, 1) := by decide +kernel
theorem dX0_become_26 : decode cX0_become 26 = .ok (.getfield 21, 3) := by decide +kernel
theorem dX0_become_29 : decode cX0_become 29 = .ok (.putfield 21, 3) := by decide +kernel
theorem dX0_become_32 : decode cX0_become 32 = .ok (.aload_n 0, 1) := by decide +kernel
theorem dX0_become_33 : decode cX0_become 33 = .ok (.aload_n 1, 1) := by decide +kernel
theorem dX0_become_34 : decode cX0_become 34 = .ok (.getfield 24, 3) := by decide +kernel
theorem dX0_become_37 : decode cX0_become 37 = .ok (.putfield 24, 3) := by decide +kernel
theorem dX0_become_40 : decode cX0_become 40 = .ok (.aload_n 0, 1) := by decide +kernel
theorem dX0_become_41 : decode cX0_become 41 = .ok (.aload_n 1, 1) := by decide +kernel
theorem dX0_become_42 : decode cX0_become 42 = .ok (.getfield 27, 3) := by decide +kernel
theorem dX0_become_45 : decode cX0_become 45 = .ok (.putfield 27, 3) := by decide +kernel
theorem dX0_become_48 : decode cX0_become 48 = .ok (.aload_n 0, 1) := by decide +kernel
theorem dX0_become_49 : decode cX0_become 49 = .ok (.aload_n 1, 1) := by decide +kernel
theorem dX0_become_50 : decode cX0_become 50 = .ok (.getfield 30, 3) := by decide +kernel
theorem dX0_become_53 : decode cX0_become 53 = .ok (.putfield 30, 3) := by decide +kernel
theorem dX0_become_56 : decode cX0_become 56 = .ok (.iconst 0, 1) := by decide +kernel
theorem dX0_become_57 : decode cX0_become 57 = .ok (.istore_n 2, 1) := by decide +kernel
theorem dX0_become_58 : decode cX0_become 58 = .ok (.iload_n 2, 1) := by decide +kernel
theorem dX0_become_59 : decode cX0_become 59 = .ok (.bipush 8, 2) := by decide +kernel
theorem dX0_become_61 : decode cX0_become 61 = .ok (.if_icmp .ge 32, 3) := by decide +kernel
theorem dX0_become_64 : decode cX0_become 64 = .ok (.iload_n 2, 1) := by decide +kernel
theorem dX0_become_65 : decode cX0_become 65 = .ok (.aload_n 0, 1) := by decide +kernel
theorem dX0_become_66 : decode cX0_become 66 = .ok (.getfield 30, 3) := by decide +kernel
theorem dX0_become_69 : decode cX0_become 69 = .ok (.if_icmp .ge 24, 3) := by decide +kernel
theorem dX0_become_72 : decode cX0_become 72 = .ok (.aload_n 0, 1) := by decide +kernel
theorem dX0_become_73 : decode cX0_become 73 = .ok (.getfield 35, 3) := by decide +kernel
theorem dX0_become_76 : decode cX0_become 76 = .ok (.iload_n 2, 1) := by decide +kernel
theorem dX0_become_77 : decode cX0_become 77 = .ok (.aaload, 1) := by decide +kernel
theorem dX0_become_78 : decode cX0_become 78 = .ok (.aload_n 1, 1) := by decide +kernel
theorem dX0_become_79 : decode cX0_become 79 = .ok (.getfield 35, 3) := by decide +kernel
theorem dX0_become_82 : decode cX0_become 82 = .ok (.iload_n 2, 1) := by decide +kernel
theorem dX0_become_83 : decode cX0_become 83 = .ok (.aaload, 1) := by decide +kernel
theorem dX0_become_84 : decode cX0_become 84 = .ok (.invokevirtual 47, 3) := by decide +kernel
theorem dX0_become_87 : decode cX0_become 87 = .ok (.iinc 2 1, 3) := by decide +kernel
theorem dX0_become_90 : decode cX0_become 90 = .ok (.goto (-32), 3) := by decide +kernel
theorem dX0_become_93 : decode cX0_become 93 = .ok (.aload_n 1, 1) := by decide +kernel
theorem dX0_become_94 : decode cX0_become 94 = .ok (.getfield 40, 3) := by decide +kernel
theorem dX0_become_97 : decode cX0_become 97 = .ok (.iconst 0, 1) := by decide +kernel
theorem dX0_become_98 : decode cX0_become 98 = .ok (.aload_n 0, 1) := by decide +kernel
theorem dX0_become_99 : decode cX0_become 99 = .ok (.getfield 40, 3) := by decide +kernel
theorem dX0_become_102 : decode cX0_become 102 = .ok (.iconst 0, 1) := by decide +kernel
theorem dX0_become_103 : decode cX0_become 103 = .ok (.bipush 6, 2) := by decide +kernel
theorem dX0_become_105 : decode cX0_become 105 = .ok (.invokestatic 51, 3) := by decide +kernel
theorem dX0_become_108 : decode cX0_become 108 = .ok (.aload_n 1, 1) := by decide +kernel
theorem dX0_become_109 : decode cX0_become 109 = .ok (.getfield 44, 3) := by decide +kernel
theorem dX0_become_112 : decode cX0_become 112 = .ok (.iconst 0, 1) := by decide +kernel
theorem dX0_become_113 : decode cX0_become 113 = .ok (.aload_n 0, 1) := by decide +kernel
theorem dX0_become_114 : decode cX0_become 114 = .ok (.getfield 44, 3) := by decide +kernel
theorem dX0_become_117 : decode cX0_become 117 = .ok (.iconst 0, 1) := by decide +kernel
theorem dX0_become_118 : decode cX0_become 118 = .ok (.bipush 10, 2) := by decide +kernel
theorem dX0_become_120 : decode cX0_become 120 = .ok (.invokestatic 51, 3) := by decide +kernel
theorem dX0_become_123 : decode cX0_become 123 = .ok (.return_, 1) := by decide +kernel
theorem dX0_isPart_0 : decode cX0_isPart 0 = .ok (.iload_n 0, 1) := by decide +kernel
theorem dX0_isPart_1 : decode cX0_isPart 1 = .ok (.ifCond .lt 12, 3) := by decide +kernel
theorem dX0_isPart_4 : decode cX0_isPart 4 = .ok (.iload_n 0, 1) := by decide +kernel
theorem dX0_isPart_5 : decode cX0_isPart 5 = .ok (.iconst 3, 1) := by decide +kernel
theorem dX0_isPart_6 : decode cX0_isPart 6 = .ok (.if_icmp .gt 7, 3) := by decide +kernel
theorem dX0_isPart_9 : decode cX0_isPart 9 = .ok (.iconst 1, 1) := by decide +kernel
theorem dX0_isPart_10 : decode cX0_isPart 10 = .ok (.goto 4, 3) := by decide +kernel
theorem dX0_isPart_13 : decode cX0_isPart 13 = .ok (.iconst 0, 1) := by decide +kernel
theorem dX0_isPart_14 : decode cX0_isPart 14 = .ok (.ireturn, 1) := by decide +kernel
theorem dX0_mostOf_0 : decode cX0_mostOf 0 = .ok (.iload_n 0, 1) := by decide +kernel
theorem dX0_mostOf_1 : decode cX0_mostOf 1 = .ok (.tableswitch 43 0 3 #[31, 34, 37, 40], 31) := by decide +kernel
theorem dX0_mostOf_32 : decode cX0_mostOf 32 = .ok (.bipush 60, 2) := by decide +kernel
theorem dX0_mostOf_34 : decode cX0_mostOf 34 = .ok (.ireturn, 1) := by decide +kernel
theorem dX0_mostOf_35 : decode cX0_mostOf 35 = .ok (.bipush 9, 2) := by decide +kernel
theorem dX0_mostOf_37 : decode cX0_mostOf 37 = .ok (.ireturn, 1) := by decide +kernel
theorem dX0_mostOf_38 : decode cX0_mostOf 38 = .ok (.bipush 20, 2) := by decide +kernel
theorem dX0_mostOf_40 : decode cX0_mostOf 40 = .ok (.ireturn, 1) := by decide +kernel
theorem dX0_mostOf_41 : decode cX0_mostOf 41 = .ok (.ldc 57, 2) := by decide +kernel
theorem dX0_mostOf_43 : decode cX0_mostOf 43 = .ok (.ireturn, 1) := by decide +kernel
theorem dX0_mostOf_44 : decode cX0_mostOf 44 = .ok (.iconst (-1), 1) := by decide +kernel
theorem dX0_mostOf_45 : decode cX0_mostOf 45 = .ok (.ireturn, 1) := by decide +kernel
theorem dX0_part_0 : decode cX0_part 0 = .ok (.iload_n 1, 1) := by decide +kernel
theorem dX0_part_1 : decode cX0_part 1 = .ok (.tableswitch 51 0 3 #[31, 36, 41, 46], 31) := by decide +kernel
theorem dX0_part_32 : decode cX0_part 32 = .ok (.aload_n 0, 1) := by decide +kernel
theorem dX0_part_33 : decode cX0_part 33 = .ok (.getfield 9, 3) := by decide +kernel
theorem dX0_part_36 : decode cX0_part 36 = .ok (.ireturn, 1) := by decide +kernel
theorem dX0_part_37 : decode cX0_part 37 = .ok (.aload_n 0, 1) := by decide +kernel
theorem dX0_part_38 : decode cX0_part 38 = .ok (.getfield 15, 3) := by decide +kernel
theorem dX0_part_41 : decode cX0_part 41 = .ok (.ireturn, 1) := by decide +kernel
theorem dX0_part_42 : decode cX0_part 42 = .ok (.aload_n 0, 1) := by decide +kernel
theorem dX0_part_43 : decode cX0_part 43 = .ok (.getfield 18, 3) := by decide +kernel
theorem dX0_part_46 : decode cX0_part 46 = .ok (.ireturn, 1) := by decide +kernel
theorem dX0_part_47 : decode cX0_part 47 = .ok (.aload_n 0, 1) := by decide +kernel
theorem dX0_part_48 : decode cX0_part 48 = .ok (.getfield 21, 3) := by decide +kernel
theorem dX0_part_51 : decode cX0_part 51 = .ok (.ireturn, 1) := by decide +kernel
theorem dX0_part_52 : decode cX0_part 52 = .ok (.iconst 0, 1) := by decide +kernel
theorem dX0_part_53 : decode cX0_part 53 = .ok (.ireturn, 1) := by decide +kernel
theorem dX0_putPart_0 : decode cX0_putPart 0 = .ok (.iload_n 1, 1) := by decide +kernel
theorem dX0_putPart_1 : decode cX0_putPart 1 = .ok (.tableswitch 63 0 3 #[31, 39, 47, 55], 31) := by decide +kernel
theorem dX0_putPart_32 : decode cX0_putPart 32 = .ok (.aload_n 0, 1) := by decide +kernel
theorem dX0_putPart_33 : decode cX0_putPart 33 = .ok (.iload_n 2, 1) := by decide +kernel
theorem dX0_putPart_34 : decode cX0_putPart 34 = .ok (.putfield 9, 3) := by decide +kernel
theorem dX0_putPart_37 : decode cX0_putPart 37 = .ok (.goto 27, 3) := by decide +kernel
theorem dX0_putPart_40 : decode cX0_putPart 40 = .ok (.aload_n 0, 1) := by decide +kernel
theorem dX0_putPart_41 : decode cX0_putPart 41 = .ok (.iload_n 2, 1) := by decide +kernel
theorem dX0_putPart_42 : decode cX0_putPart 42 = .ok (.putfield 15, 3) := by decide +kernel
theorem dX0_putPart_45 : decode cX0_putPart 45 = .ok (.goto 19, 3) := by decide +kernel
theorem dX0_putPart_48 : decode cX0_putPart 48 = .ok (.aload_n 0, 1) := by decide +kernel
theorem dX0_putPart_49 : decode cX0_putPart 49 = .ok (.iload_n 2, 1) := by decide +kernel
theorem dX0_putPart_50 : decode cX0_putPart 50 = .ok (.putfield 18, 3) := by decide +kernel
theorem dX0_putPart_53 : decode cX0_putPart 53 = .ok (.goto 11, 3) := by decide +kernel
theorem dX0_putPart_56 : decode cX0_putPart 56 = .ok (.aload_n 0, 1) := by decide +kernel
theorem dX0_putPart_57 : decode cX0_putPart 57 = .ok (.iload_n 2, 1) := by decide +kernel
theorem dX0_putPart_58 : decode cX0_putPart 58 = .ok (.putfield 21, 3) := by decide +kernel
theorem dX0_putPart_61 : decode cX0_putPart 61 = .ok (.goto 3, 3) := by decide +kernel
theorem dX0_putPart_64 : decode cX0_putPart 64 = .ok (.return_, 1) := by decide +kernel
theorem dX0_isPlace_0 : decode cX0_isPlace 0 = .ok (.iload_n 0, 1) := by decide +kernel
theorem dX0_isPlace_1 : decode cX0_isPlace 1 = .ok (.ifCond .lt 13, 3) := by decide +kernel
theorem dX0_isPlace_4 : decode cX0_isPlace 4 = .ok (.iload_n 0, 1) := by decide +kernel
theorem dX0_isPlace_5 : decode cX0_isPlace 5 = .ok (.bipush 6, 2) := by decide +kernel
theorem dX0_isPlace_7 : decode cX0_isPlace 7 = .ok (.if_icmp .ge 7, 3) := by decide +kernel
theorem dX0_isPlace_10 : decode cX0_isPlace 10 = .ok (.iconst 1, 1) := by decide +kernel
theorem dX0_isPlace_11 : decode cX0_isPlace 11 = .ok (.goto 4, 3) := by decide +kernel
theorem dX0_isPlace_14 : decode cX0_isPlace 14 = .ok (.iconst 0, 1) := by decide +kernel
theorem dX0_isPlace_15 : decode cX0_isPlace 15 = .ok (.ireturn, 1) := by decide +kernel
theorem dX0_nextPlace_0 : decode cX0_nextPlace 0 = .ok (.aload_n 0, 1) := by decide +kernel
theorem dX0_nextPlace_1 : decode cX0_nextPlace 1 = .ok (.getfield 24, 3) := by decide +kernel
theorem dX0_nextPlace_4 : decode cX0_nextPlace 4 = .ok (.bipush 6, 2) := by decide +kernel
theorem dX0_nextPlace_6 : decode cX0_nextPlace 6 = .ok (.irem, 1) := by decide +kernel
theorem dX0_nextPlace_7 : decode cX0_nextPlace 7 = .ok (.ireturn, 1) := by decide +kernel
theorem dX0_whoIsIn_0 : decode cX0_whoIsIn 0 = .ok (.iload_n 1, 1) := by decide +kernel
theorem dX0_whoIsIn_1 : decode cX0_whoIsIn 1 = .ok (.invokestatic 58, 3) := by decide +kernel
theorem dX0_whoIsIn_4 : decode cX0_whoIsIn 4 = .ok (.ifCond .eq 12, 3) := by decide +kernel
theorem dX0_whoIsIn_7 : decode cX0_whoIsIn 7 = .ok (.aload_n 0, 1) := by decide +kernel
theorem dX0_whoIsIn_8 : decode cX0_whoIsIn 8 = .ok (.getfield 40, 3) := by decide +kernel
theorem dX0_whoIsIn_11 : decode cX0_whoIsIn 11 = .ok (.iload_n 1, 1) := by decide +kernel
theorem dX0_whoIsIn_12 : decode cX0_whoIsIn 12 = .ok (.iaload, 1) := by decide +kernel
theorem dX0_whoIsIn_13 : decode cX0_whoIsIn 13 = .ok (.goto 4, 3) := by decide +kernel
theorem dX0_whoIsIn_16 : decode cX0_whoIsIn 16 = .ok (.iconst (-1), 1) := by decide +kernel
theorem dX0_whoIsIn_17 : decode cX0_whoIsIn 17 = .ok (.ireturn, 1) := by decide +kernel
theorem dX0_seat_0 : decode cX0_seat 0 = .ok (.iload_n 1, 1) := by decide +kernel
theorem dX0_seat_1 : decode cX0_seat 1 = .ok (.invokestatic 58, 3) := by decide +kernel
theorem dX0_seat_4 : decode cX0_seat 4 = .ok (.ifCond .eq 10, 3) := by decide +kernel
theorem dX0_seat_7 : decode cX0_seat 7 = .ok (.aload_n 0, 1) := by decide +kernel
theorem dX0_seat_8 : decode cX0_seat 8 = .ok (.getfield 40, 3) := by decide +kernel
theorem dX0_seat_11 : decode cX0_seat 11 = .ok (.iload_n 1, 1) := by decide +kernel
theorem dX0_seat_12 : decode cX0_seat 12 = .ok (.iload_n 2, 1) := by decide +kernel
theorem dX0_seat_13 : decode cX0_seat 13 = .ok (.iastore, 1) := by decide +kernel
theorem dX0_seat_14 : decode cX0_seat 14 = .ok (.return_, 1) := by decide +kernel
theorem dX0_emptyPlacesOf_0 : decode cX0_emptyPlacesOf 0 = .ok (.iconst 0, 1) := by decide +kernel
theorem dX0_emptyPlacesOf_1 : decode cX0_emptyPlacesOf 1 = .ok (.istore_n 2, 1) := by decide +kernel
theorem dX0_emptyPlacesOf_2 : decode cX0_emptyPlacesOf 2 = .ok (.iload_n 2, 1) := by decide +kernel
theorem dX0_emptyPlacesOf_3 : decode cX0_emptyPlacesOf 3 = .ok (.bipush 6, 2) := by decide +kernel
theorem dX0_emptyPlacesOf_5 : decode cX0_emptyPlacesOf 5 = .ok (.if_icmp .ge 43, 3) := by decide +kernel
theorem dX0_emptyPlacesOf_8 : decode cX0_emptyPlacesOf 8 = .ok (.aload_n 0, 1) := by decide +kernel
theorem dX0_emptyPlacesOf_9 : decode cX0_emptyPlacesOf 9 = .ok (.aload_n 0, 1) := by decide +kernel
theorem dX0_emptyPlacesOf_10 : decode cX0_emptyPlacesOf 10 = .ok (.getfield 40, 3) := by decide +kernel
theorem dX0_emptyPlacesOf_13 : decode cX0_emptyPlacesOf 13 = .ok (.iload_n 2, 1) := by decide +kernel
theorem dX0_emptyPlacesOf_14 : decode cX0_emptyPlacesOf 14 = .ok (.iaload, 1) := by decide +kernel
theorem dX0_emptyPlacesOf_15 : decode cX0_emptyPlacesOf 15 = .ok (.invokevirtual 62, 3) := by decide +kernel
theorem dX0_emptyPlacesOf_18 : decode cX0_emptyPlacesOf 18 = .ok (.ifCond .eq 24, 3) := by decide +kernel
theorem dX0_emptyPlacesOf_21 : decode cX0_emptyPlacesOf 21 = .ok (.iload_n 1, 1) := by decide +kernel
theorem dX0_emptyPlacesOf_22 : decode cX0_emptyPlacesOf 22 = .ok (.aload_n 0, 1) := by decide +kernel
theorem dX0_emptyPlacesOf_23 : decode cX0_emptyPlacesOf 23 = .ok (.getfield 40, 3) := by decide +kernel
theorem dX0_emptyPlacesOf_26 : decode cX0_emptyPlacesOf 26 = .ok (.iload_n 2, 1) := by decide +kernel
theorem dX0_emptyPlacesOf_27 : decode cX0_emptyPlacesOf 27 = .ok (.iaload, 1) := by decide +kernel
theorem dX0_emptyPlacesOf_28 : decode cX0_emptyPlacesOf 28 = .ok (.ishr, 1) := by decide +kernel
theorem dX0_emptyPlacesOf_29 : decode cX0_emptyPlacesOf 29 = .ok (.iconst 1, 1) := by decide +kernel
theorem dX0_emptyPlacesOf_30 : decode cX0_emptyPlacesOf 30 = .ok (.iand, 1) := by decide +kernel
theorem dX0_emptyPlacesOf_31 : decode cX0_emptyPlacesOf 31 = .ok (.iconst 1, 1) := by decide +kernel
theorem dX0_emptyPlacesOf_32 : decode cX0_emptyPlacesOf 32 = .ok (.if_icmp .ne 10, 3) := by decide +kernel
theorem dX0_emptyPlacesOf_35 : decode cX0_emptyPlacesOf 35 = .ok (.aload_n 0, 1) := by decide +kernel
theorem dX0_emptyPlacesOf_36 : decode cX0_emptyPlacesOf 36 = .ok (.getfield 40, 3) := by decide +kernel
theorem dX0_emptyPlacesOf_39 : decode cX0_emptyPlacesOf 39 = .ok (.iload_n 2, 1) := by decide +kernel
theorem dX0_emptyPlacesOf_40 : decode cX0_emptyPlacesOf 40 = .ok (.iconst (-1), 1) := by decide +kernel
theorem dX0_emptyPlacesOf_41 : decode cX0_emptyPlacesOf 41 = .ok (.iastore, 1) := by decide +kernel
theorem dX0_emptyPlacesOf_42 : decode cX0_emptyPlacesOf 42 = .ok (.iinc 2 1, 3) := by decide +kernel
theorem dX0_emptyPlacesOf_45 : decode cX0_emptyPlacesOf 45 = .ok (.goto (-43), 3) := by decide +kernel
theorem dX0_emptyPlacesOf_48 : decode cX0_emptyPlacesOf 48 = .ok (.return_, 1) := by decide +kernel
theorem dX0_isSitter_0 : decode cX0_isSitter 0 = .ok (.iload_n 1, 1) := by decide +kernel
theorem dX0_isSitter_1 : decode cX0_isSitter 1 = .ok (.ifCond .lt 21, 3) := by decide +kernel
theorem dX0_isSitter_4 : decode cX0_isSitter 4 = .ok (.iload_n 1, 1) := by decide +kernel
theorem dX0_isSitter_5 : decode cX0_isSitter 5 = .ok (.aload_n 0, 1) := by decide +kernel
theorem dX0_isSitter_6 : decode cX0_isSitter 6 = .ok (.getfield 30, 3) := by decide +kernel
theorem dX0_isSitter_9 : decode cX0_isSitter 9 = .ok (.if_icmp .ge 13, 3) := by decide +kernel
theorem dX0_isSitter_12 : decode cX0_isSitter 12 = .ok (.iload_n 1, 1) := by decide +kernel
theorem dX0_isSitter_13 : decode cX0_isSitter 13 = .ok (.bipush 8, 2) := by decide +kernel
theorem dX0_isSitter_15 : decode cX0_isSitter 15 = .ok (.if_icmp .ge 7, 3) := by decide +kernel
theorem dX0_isSitter_18 : decode cX0_isSitter 18 = .ok (.iconst 1, 1) := by decide +kernel
theorem dX0_isSitter_19 : decode cX0_isSitter 19 = .ok (.goto 4, 3) := by decide +kernel
theorem dX0_isSitter_22 : decode cX0_isSitter 22 = .ok (.iconst 0, 1) := by decide +kernel
theorem dX0_isSitter_23 : decode cX0_isSitter 23 = .ok (.ireturn, 1) := by decide +kernel
theorem dX0_isSomebodyOrNobody_0 : decode cX0_isSomebodyOrNobody 0 = .ok (.iload_n 1, 1) := by decide +kernel
theorem dX0_isSomebodyOrNobody_1 : decode cX0_isSomebodyOrNobody 1 = .ok (.iconst (-1), 1) := by decide +kernel
theorem dX0_isSomebodyOrNobody_2 : decode cX0_isSomebodyOrNobody 2 = .ok (.if_icmp .eq 11, 3) := by decide +kernel
theorem dX0_isSomebodyOrNobody_5 : decode cX0_isSomebodyOrNobody 5 = .ok (.aload_n 0, 1) := by decide +kernel
theorem dX0_isSomebodyOrNobody_6 : decode cX0_isSomebodyOrNobody 6 = .ok (.iload_n 1, 1) := by decide +kernel
theorem dX0_isSomebodyOrNobody_7 : decode cX0_isSomebodyOrNobody 7 = .ok (.invokevirtual 62, 3) := by decide +kernel
theorem dX0_isSomebodyOrNobody_10 : decode cX0_isSomebodyOrNobody 10 = .ok (.ifCond .eq 7, 3) := by decide +kernel
theorem dX0_isSomebodyOrNobody_13 : decode cX0_isSomebodyOrNobody 13 = .ok (.iconst 1, 1) := by decide +kernel
theorem dX0_isSomebodyOrNobody_14 : decode cX0_isSomebodyOrNobody 14 = .ok (.goto 4, 3) := by decide +kernel
theorem dX0_isSomebodyOrNobody_17 : decode cX0_isSomebodyOrNobody 17 = .ok (.iconst 0, 1) := by decide +kernel
theorem dX0_isSomebodyOrNobody_18 : decode cX0_isSomebodyOrNobody 18 = .ok (.ireturn, 1) := by decide +kernel
theorem dX0_who_0 : decode cX0_who 0 = .ok (.aload_n 0, 1) := by decide +kernel
theorem dX0_who_1 : decode cX0_who 1 = .ok (.iload_n 1, 1) := by decide +kernel
theorem dX0_who_2 : decode cX0_who 2 = .ok (.invokevirtual 62, 3) := by decide +kernel
theorem dX0_who_5 : decode cX0_who 5 = .ok (.ifCond .eq 12, 3) := by decide +kernel
theorem dX0_who_8 : decode cX0_who 8 = .ok (.aload_n 0, 1) := by decide +kernel
theorem dX0_who_9 : decode cX0_who 9 = .ok (.getfield 35, 3) := by decide +kernel
theorem dX0_who_12 : decode cX0_who 12 = .ok (.iload_n 1, 1) := by decide +kernel
theorem dX0_who_13 : decode cX0_who 13 = .ok (.aaload, 1) := by decide +kernel
theorem dX0_who_14 : decode cX0_who 14 = .ok (.goto 4, 3) := by decide +kernel
theorem dX0_who_17 : decode cX0_who 17 = .ok (.aconst_null, 1) := by decide +kernel
theorem dX0_who_18 : decode cX0_who 18 = .ok (.areturn, 1) := by decide +kernel
theorem dX0_addSitter_0 : decode cX0_addSitter 0 = .ok (.aload_n 0, 1) := by decide +kernel
theorem dX0_addSitter_1 : decode cX0_addSitter 1 = .ok (.getfield 30, 3) := by decide +kernel
theorem dX0_addSitter_4 : decode cX0_addSitter 4 = .ok (.ifCond .lt 12, 3) := by decide +kernel
theorem dX0_addSitter_7 : decode cX0_addSitter 7 = .ok (.aload_n 0, 1) := by decide +kernel
theorem dX0_addSitter_8 : decode cX0_addSitter 8 = .ok (.getfield 30, 3) := by decide +kernel
theorem dX0_addSitter_11 : decode cX0_addSitter 11 = .ok (.bipush 8, 2) := by decide +kernel
theorem dX0_addSitter_13 : decode cX0_addSitter 13 = .ok (.if_icmp .lt 5, 3) := by decide +kernel
theorem dX0_addSitter_16 : decode cX0_addSitter 16 = .ok (.iconst (-1), 1) := by decide +kernel
theorem dX0_addSitter_17 : decode cX0_addSitter 17 = .ok (.ireturn, 1) := by decide +kernel
theorem dX0_addSitter_18 : decode cX0_addSitter 18 = .ok (.aload_n 0, 1) := by decide +kernel
theorem dX0_addSitter_19 : decode cX0_addSitter 19 = .ok (.getfield 35, 3) := by decide +kernel
theorem dX0_addSitter_22 : decode cX0_addSitter 22 = .ok (.aload_n 0, 1) := by decide +kernel
theorem dX0_addSitter_23 : decode cX0_addSitter 23 = .ok (.getfield 30, 3) := by decide +kernel
theorem dX0_addSitter_26 : decode cX0_addSitter 26 = .ok (.aaload, 1) := by decide +kernel
theorem dX0_addSitter_27 : decode cX0_addSitter 27 = .ok (.iload_n 1, 1) := by decide +kernel
theorem dX0_addSitter_28 : decode cX0_addSitter 28 = .ok (.invokevirtual 65, 3) := by decide +kernel
theorem dX0_addSitter_31 : decode cX0_addSitter 31 = .ok (.aload_n 0, 1) := by decide +kernel
theorem dX0_addSitter_32 : decode cX0_addSitter 32 = .ok (.dup, 1) := by decide +kernel
theorem dX0_addSitter_33 : decode cX0_addSitter 33 = .ok (.getfield 30, 3) := by decide +kernel
theorem dX0_addSitter_36 : decode cX0_addSitter 36 = .ok (.iconst 1, 1) := by decide +kernel
theorem dX0_addSitter_37 : decode cX0_addSitter 37 = .ok (.iadd, 1) := by decide +kernel
theorem dX0_addSitter_38 : decode cX0_addSitter 38 = .ok (.putfield 30, 3) := by decide +kernel
theorem dX0_addSitter_41 : decode cX0_addSitter 41 = .ok (.aload_n 0, 1) := by decide +kernel
theorem dX0_addSitter_42 : decode cX0_addSitter 42 = .ok (.getfield 30, 3) := by decide +kernel
theorem dX0_addSitter_45 : decode cX0_addSitter 45 = .ok (.iconst 1, 1) := by decide +kernel
theorem dX0_addSitter_46 : decode cX0_addSitter 46 = .ok (.isub, 1) := by decide +kernel
theorem dX0_addSitter_47 : decode cX0_addSitter 47 = .ok (.ireturn, 1) := by decide +kernel
theorem dX0_partOf_0 : decode cX0_partOf 0 = .ok (.aload_n 0, 1) := by decide +kernel
theorem dX0_partOf_1 : decode cX0_partOf 1 = .ok (.iload_n 1, 1) := by decide +kernel
theorem dX0_partOf_2 : decode cX0_partOf 2 = .ok (.invokevirtual 69, 3) := by decide +kernel
theorem dX0_partOf_5 : decode cX0_partOf 5 = .ok (.astore_n 3, 1) := by decide +kernel
theorem dX0_partOf_6 : decode cX0_partOf 6 = .ok (.aload_n 3, 1) := by decide +kernel
theorem dX0_partOf_7 : decode cX0_partOf 7 = .ok (.ifnonnull 7, 3) := by decide +kernel
theorem dX0_partOf_10 : decode cX0_partOf 10 = .ok (.iconst 0, 1) := by decide +kernel
theorem dX0_partOf_11 : decode cX0_partOf 11 = .ok (.goto 8, 3) := by decide +kernel
theorem dX0_partOf_14 : decode cX0_partOf 14 = .ok (.aload_n 3, 1) := by decide +kernel
theorem dX0_partOf_15 : decode cX0_partOf 15 = .ok (.iload_n 2, 1) := by decide +kernel
theorem dX0_partOf_16 : decode cX0_partOf 16 = .ok (.invokevirtual 73, 3) := by decide +kernel
theorem dX0_partOf_19 : decode cX0_partOf 19 = .ok (.ireturn, 1) := by decide +kernel
theorem dX0_give_0 : decode cX0_give 0 = .ok (.aload_n 0, 1) := by decide +kernel
theorem dX0_give_1 : decode cX0_give 1 = .ok (.iload_n 1, 1) := by decide +kernel
theorem dX0_give_2 : decode cX0_give 2 = .ok (.invokevirtual 69, 3) := by decide +kernel
theorem dX0_give_5 : decode cX0_give 5 = .ok (.astore 4, 2) := by decide +kernel
theorem dX0_give_7 : decode cX0_give 7 = .ok (.aload 4, 2) := by decide +kernel
theorem dX0_give_9 : decode cX0_give 9 = .ok (.ifnull 10, 3) := by decide +kernel
theorem dX0_give_12 : decode cX0_give 12 = .ok (.aload 4, 2) := by decide +kernel
theorem dX0_give_14 : decode cX0_give 14 = .ok (.iload_n 2, 1) := by decide +kernel
theorem dX0_give_15 : decode cX0_give 15 = .ok (.iload_n 3, 1) := by decide +kernel
theorem dX0_give_16 : decode cX0_give 16 = .ok (.invokevirtual 77, 3) := by decide +kernel
theorem dX0_give_19 : decode cX0_give 19 = .ok (.return_, 1) := by decide +kernel
theorem dX0_sumOf_0 : decode cX0_sumOf 0 = .ok (.iconst 0, 1) := by decide +kernel
theorem dX0_sumOf_1 : decode cX0_sumOf 1 = .ok (.istore_n 2, 1) := by decide +kernel
theorem dX0_sumOf_2 : decode cX0_sumOf 2 = .ok (.iconst 0, 1) := by decide +kernel
theorem dX0_sumOf_3 : decode cX0_sumOf 3 = .ok (.istore_n 3, 1) := by decide +kernel
theorem dX0_sumOf_4 : decode cX0_sumOf 4 = .ok (.iload_n 3, 1) := by decide +kernel
theorem dX0_sumOf_5 : decode cX0_sumOf 5 = .ok (.aload_n 0, 1) := by decide +kernel
theorem dX0_sumOf_6 : decode cX0_sumOf 6 = .ok (.getfield 30, 3) := by decide +kernel
theorem dX0_sumOf_9 : decode cX0_sumOf 9 = .ok (.if_icmp .ge 18, 3) := by decide +kernel
theorem dX0_sumOf_12 : decode cX0_sumOf 12 = .ok (.iload_n 2, 1) := by decide +kernel
theorem dX0_sumOf_13 : decode cX0_sumOf 13 = .ok (.aload_n 0, 1) := by decide +kernel
theorem dX0_sumOf_14 : decode cX0_sumOf 14 = .ok (.iload_n 3, 1) := by decide +kernel
theorem dX0_sumOf_15 : decode cX0_sumOf 15 = .ok (.iload_n 1, 1) := by decide +kernel
theorem dX0_sumOf_16 : decode cX0_sumOf 16 = .ok (.invokevirtual 81, 3) := by decide +kernel
theorem dX0_sumOf_19 : decode cX0_sumOf 19 = .ok (.iadd, 1) := by decide +kernel
theorem dX0_sumOf_20 : decode cX0_sumOf 20 = .ok (.istore_n 2, 1) := by decide +kernel
theorem dX0_sumOf_21 : decode cX0_sumOf 21 = .ok (.iinc 3 1, 3) := by decide +kernel
theorem dX0_sumOf_24 : decode cX0_sumOf 24 = .ok (.goto (-20), 3) := by decide +kernel
theorem dX0_sumOf_27 : decode cX0_sumOf 27 = .ok (.iload_n 2, 1) := by decide +kernel
theorem dX0_sumOf_28 : decode cX0_sumOf 28 = .ok (.ireturn, 1) := by decide +kernel
theorem dX0_sitterSet_0 : decode cX0_sitterSet 0 = .ok (.iconst 1, 1) := by decide +kernel
theorem dX0_sitterSet_1 : decode cX0_sitterSet 1 = .ok (.aload_n 0, 1) := by decide +kernel
theorem dX0_sitterSet_2 : decode cX0_sitterSet 2 = .ok (.getfield 30, 3) := by decide +kernel
theorem dX0_sitterSet_5 : decode cX0_sitterSet 5 = .ok (.ishl, 1) := by decide +kernel
theorem dX0_sitterSet_6 : decode cX0_sitterSet 6 = .ok (.iconst 1, 1) := by decide +kernel
theorem dX0_sitterSet_7 : decode cX0_sitterSet 7 = .ok (.isub, 1) := by decide +kernel
theorem dX0_sitterSet_8 : decode cX0_sitterSet 8 = .ok (.ireturn, 1) := by decide +kernel
theorem dX0_isEachTaken_0 : decode cX0_isEachTaken 0 = .ok (.iconst 0, 1) := by decide +kernel
theorem dX0_isEachTaken_1 : decode cX0_isEachTaken 1 = .ok (.istore_n 1, 1) := by decide +kernel
theorem dX0_isEachTaken_2 : decode cX0_isEachTaken 2 = .ok (.iload_n 1, 1) := by decide +kernel
theorem dX0_isEachTaken_3 : decode cX0_isEachTaken 3 = .ok (.aload_n 0, 1) := by decide +kernel
theorem dX0_isEachTaken_4 : decode cX0_isEachTaken 4 = .ok (.getfield 30, 3) := by decide +kernel
theorem dX0_isEachTaken_7 : decode cX0_isEachTaken 7 = .ok (.if_icmp .ge 20, 3) := by decide +kernel
theorem dX0_isEachTaken_10 : decode cX0_isEachTaken 10 = .ok (.aload_n 0, 1) := by decide +kernel
theorem dX0_isEachTaken_11 : decode cX0_isEachTaken 11 = .ok (.iload_n 1, 1) := by decide +kernel
theorem dX0_isEachTaken_12 : decode cX0_isEachTaken 12 = .ok (.iconst 5, 1) := by decide +kernel
theorem dX0_isEachTaken_13 : decode cX0_isEachTaken 13 = .ok (.invokevirtual 81, 3) := by decide +kernel
theorem dX0_isEachTaken_16 : decode cX0_isEachTaken 16 = .ok (.ifCond .ne 5, 3) := by decide +kernel
theorem dX0_isEachTaken_19 : decode cX0_isEachTaken 19 = .ok (.iconst 0, 1) := by decide +kernel
theorem dX0_isEachTaken_20 : decode cX0_isEachTaken 20 = .ok (.ireturn, 1) := by decide +kernel
theorem dX0_isEachTaken_21 : decode cX0_isEachTaken 21 = .ok (.iinc 1 1, 3) := by decide +kernel
theorem dX0_isEachTaken_24 : decode cX0_isEachTaken 24 = .ok (.goto (-22), 3) := by decide +kernel
theorem dX0_isEachTaken_27 : decode cX0_isEachTaken 27 = .ok (.iconst 1, 1) := by decide +kernel
theorem dX0_isEachTaken_28 : decode cX0_isEachTaken 28 = .ok (.ireturn, 1) := by decide +kernel
theorem dX0_spotsInUse_0 : decode cX0_spotsInUse 0 = .ok (.iconst 0, 1) := by decide +kernel
theorem dX0_spotsInUse_1 : decode cX0_spotsInUse 1 = .ok (.istore_n 1, 1) := by decide +kernel
theorem dX0_spotsInUse_2 : decode cX0_spotsInUse 2 = .ok (.iconst 0, 1) := by decide +kernel
theorem dX0_spotsInUse_3 : decode cX0_spotsInUse 3 = .ok (.istore_n 2, 1) := by decide +kernel
theorem dX0_spotsInUse_4 : decode cX0_spotsInUse 4 = .ok (.iload_n 2, 1) := by decide +kernel
theorem dX0_spotsInUse_5 : decode cX0_spotsInUse 5 = .ok (.bipush 10, 2) := by decide +kernel
theorem dX0_spotsInUse_7 : decode cX0_spotsInUse 7 = .ok (.if_icmp .ge 21, 3) := by decide +kernel
theorem dX0_spotsInUse_10 : decode cX0_spotsInUse 10 = .ok (.aload_n 0, 1) := by decide +kernel
theorem dX0_spotsInUse_11 : decode cX0_spotsInUse 11 = .ok (.getfield 44, 3) := by decide +kernel
theorem dX0_spotsInUse_14 : decode cX0_spotsInUse 14 = .ok (.iload_n 2, 1) := by decide +kernel
theorem dX0_spotsInUse_15 : decode cX0_spotsInUse 15 = .ok (.iaload, 1) := by decide +kernel
theorem dX0_spotsInUse_16 : decode cX0_spotsInUse 16 = .ok (.ifCond .lt 6, 3) := by decide +kernel
theorem dX0_spotsInUse_19 : decode cX0_spotsInUse 19 = .ok (.iinc 1 1, 3) := by decide +kernel
theorem dX0_spotsInUse_22 : decode cX0_spotsInUse 22 = .ok (.iinc 2 1, 3) := by decide +kernel
theorem dX0_spotsInUse_25 : decode cX0_spotsInUse 25 = .ok (.goto (-21), 3) := by decide +kernel
theorem dX0_spotsInUse_28 : decode cX0_spotsInUse 28 = .ok (.iload_n 1, 1) := by decide +kernel
theorem dX0_spotsInUse_29 : decode cX0_spotsInUse 29 = .ok (.ireturn, 1) := by decide +kernel
theorem dX0_faultsOf_0 : decode cX0_faultsOf 0 = .ok (.aload_n 0, 1) := by decide +kernel
theorem dX0_faultsOf_1 : decode cX0_faultsOf 1 = .ok (.getfield 15, 3) := by decide +kernel
theorem dX0_faultsOf_4 : decode cX0_faultsOf 4 = .ok (.iconst 2, 1) := by decide +kernel
theorem dX0_faultsOf_5 : decode cX0_faultsOf 5 = .ok (.if_icmp .ge 8, 3) := by decide +kernel
theorem dX0_faultsOf_8 : decode cX0_faultsOf 8 = .ok (.bipush 16, 2) := by decide +kernel
theorem dX0_faultsOf_10 : decode cX0_faultsOf 10 = .ok (.goto 4, 3) := by decide +kernel
theorem dX0_faultsOf_13 : decode cX0_faultsOf 13 = .ok (.iconst 0, 1) := by decide +kernel
theorem dX0_faultsOf_14 : decode cX0_faultsOf 14 = .ok (.istore_n 3, 1) := by decide +kernel
theorem dX0_faultsOf_15 : decode cX0_faultsOf 15 = .ok (.aload_n 1, 1) := by decide +kernel
theorem dX0_faultsOf_16 : decode cX0_faultsOf 16 = .ok (.aload_n 0, 1) := by decide +kernel
theorem dX0_faultsOf_17 : decode cX0_faultsOf 17 = .ok (.getfield 9, 3) := by decide +kernel
theorem dX0_faultsOf_20 : decode cX0_faultsOf 20 = .ok (.invokevirtual 85, 3) := by decide +kernel
theorem dX0_faultsOf_23 : decode cX0_faultsOf 23 = .ok (.aload_n 1, 1) := by decide +kernel
theorem dX0_faultsOf_24 : decode cX0_faultsOf 24 = .ok (.invokevirtual 88, 3) := by decide +kernel
theorem dX0_faultsOf_27 : decode cX0_faultsOf 27 = .ok (.if_icmp .le 7, 3) := by decide +kernel
theorem dX0_faultsOf_30 : decode cX0_faultsOf 30 = .ok (.iload_n 3, 1) := by decide +kernel
theorem dX0_faultsOf_31 : decode cX0_faultsOf 31 = .ok (.iconst 1, 1) := by decide +kernel
theorem dX0_faultsOf_32 : decode cX0_faultsOf 32 = .ok (.ior, 1) := by decide +kernel
theorem dX0_faultsOf_33 : decode cX0_faultsOf 33 = .ok (.istore_n 3, 1) := by decide +kernel
theorem dX0_faultsOf_34 : decode cX0_faultsOf 34 = .ok (.aload_n 1, 1) := by decide +kernel
theorem dX0_faultsOf_35 : decode cX0_faultsOf 35 = .ok (.iload_n 2, 1) := by decide +kernel
theorem dX0_faultsOf_36 : decode cX0_faultsOf 36 = .ok (.aload_n 0, 1) := by decide +kernel
theorem dX0_faultsOf_37 : decode cX0_faultsOf 37 = .ok (.getfield 24, 3) := by decide +kernel
theorem dX0_faultsOf_40 : decode cX0_faultsOf 40 = .ok (.aload_n 0, 1) := by decide +kernel
theorem dX0_faultsOf_41 : decode cX0_faultsOf 41 = .ok (.getfield 15, 3) := by decide +kernel
theorem dX0_faultsOf_44 : decode cX0_faultsOf 44 = .ok (.invokevirtual 92, 3) := by decide +kernel
theorem dX0_faultsOf_47 : decode cX0_faultsOf 47 = .ok (.ifCond .eq 7, 3) := by decide +kernel
theorem dX0_faultsOf_50 : decode cX0_faultsOf 50 = .ok (.iload_n 3, 1) := by decide +kernel
theorem dX0_faultsOf_51 : decode cX0_faultsOf 51 = .ok (.iconst 2, 1) := by decide +kernel
theorem dX0_faultsOf_52 : decode cX0_faultsOf 52 = .ok (.ior, 1) := by decide +kernel
theorem dX0_faultsOf_53 : decode cX0_faultsOf 53 = .ok (.istore_n 3, 1) := by decide +kernel
theorem dX0_faultsOf_54 : decode cX0_faultsOf 54 = .ok (.aload_n 1, 1) := by decide +kernel
theorem dX0_faultsOf_55 : decode cX0_faultsOf 55 = .ok (.iload_n 2, 1) := by decide +kernel
theorem dX0_faultsOf_56 : decode cX0_faultsOf 56 = .ok (.invokevirtual 96, 3) := by decide +kernel
theorem dX0_faultsOf_59 : decode cX0_faultsOf 59 = .ok (.ifCond .eq 7, 3) := by decide +kernel
theorem dX0_faultsOf_62 : decode cX0_faultsOf 62 = .ok (.iload_n 3, 1) := by decide +kernel
theorem dX0_faultsOf_63 : decode cX0_faultsOf 63 = .ok (.iconst 4, 1) := by decide +kernel
theorem dX0_faultsOf_64 : decode cX0_faultsOf 64 = .ok (.ior, 1) := by decide +kernel
theorem dX0_faultsOf_65 : decode cX0_faultsOf 65 = .ok (.istore_n 3, 1) := by decide +kernel
theorem dX0_faultsOf_66 : decode cX0_faultsOf 66 = .ok (.aload_n 1, 1) := by decide +kernel
theorem dX0_faultsOf_67 : decode cX0_faultsOf 67 = .ok (.aload_n 0, 1) := by decide +kernel
theorem dX0_faultsOf_68 : decode cX0_faultsOf 68 = .ok (.getfield 15, 3) := by decide +kernel
theorem dX0_faultsOf_71 : decode cX0_faultsOf 71 = .ok (.invokevirtual 99, 3) := by decide +kernel
theorem dX0_faultsOf_74 : decode cX0_faultsOf 74 = .ok (.ifCond .eq 8, 3) := by decide +kernel
theorem dX0_faultsOf_77 : decode cX0_faultsOf 77 = .ok (.iload_n 3, 1) := by decide +kernel
theorem dX0_faultsOf_78 : decode cX0_faultsOf 78 = .ok (.bipush 8, 2) := by decide +kernel
theorem dX0_faultsOf_80 : decode cX0_faultsOf 80 = .ok (.ior, 1) := by decide +kernel
theorem dX0_faultsOf_81 : decode cX0_faultsOf 81 = .ok (.istore_n 3, 1) := by decide +kernel
theorem dX0_faultsOf_82 : decode cX0_faultsOf 82 = .ok (.iload_n 3, 1) := by decide +kernel
theorem dX0_faultsOf_83 : decode cX0_faultsOf 83 = .ok (.ireturn, 1) := by decide +kernel
theorem dX0_hasClearFlash_0 : decode cX0_hasClearFlash 0 = .ok (.iconst 0, 1) := by decide +kernel
theorem dX0_hasClearFlash_1 : decode cX0_hasClearFlash 1 = .ok (.istore_n 2, 1) := by decide +kernel
theorem dX0_hasClearFlash_2 : decode cX0_hasClearFlash 2 = .ok (.iload_n 2, 1) := by decide +kernel
theorem dX0_hasClearFlash_3 : decode cX0_hasClearFlash 3 = .ok (.iconst 4, 1) := by decide +kernel
theorem dX0_hasClearFlash_4 : decode cX0_hasClearFlash 4 = .ok (.if_icmp .ge 20, 3) := by decide +kernel
theorem dX0_hasClearFlash_7 : decode cX0_hasClearFlash 7 = .ok (.aload_n 0, 1) := by decide +kernel
theorem dX0_hasClearFlash_8 : decode cX0_hasClearFlash 8 = .ok (.aload_n 1, 1) := by decide +kernel
theorem dX0_hasClearFlash_9 : decode cX0_hasClearFlash 9 = .ok (.iload_n 2, 1) := by decide +kernel
theorem dX0_hasClearFlash_10 : decode cX0_hasClearFlash 10 = .ok (.invokevirtual 102, 3) := by decide +kernel
theorem dX0_hasClearFlash_13 : decode cX0_hasClearFlash 13 = .ok (.ifCond .ne 5, 3) := by decide +kernel
theorem dX0_hasClearFlash_16 : decode cX0_hasClearFlash 16 = .ok (.iconst 1, 1) := by decide +kernel
theorem dX0_hasClearFlash_17 : decode cX0_hasClearFlash 17 = .ok (.ireturn, 1) := by decide +kernel
theorem dX0_hasClearFlash_18 : decode cX0_hasClearFlash 18 = .ok (.iinc 2 1, 3) := by decide +kernel
theorem dX0_hasClearFlash_21 : decode cX0_hasClearFlash 21 = .ok (.goto (-19), 3) := by decide +kernel
theorem dX0_hasClearFlash_24 : decode cX0_hasClearFlash 24 = .ok (.iconst 0, 1) := by decide +kernel
theorem dX0_hasClearFlash_25 : decode cX0_hasClearFlash 25 = .ok (.ireturn, 1) := by decide +kernel
theorem dX0_sittersWithClearFlash_0 : decode cX0_sittersWithClearFlash 0 = .ok (.iconst 0, 1) := by decide +kernel
theorem dX0_sittersWithClearFlash_1 : decode cX0_sittersWithClearFlash 1 = .ok (.istore_n 1, 1) := by decide +kernel
theorem dX0_sittersWithClearFlash_2 : decode cX0_sittersWithClearFlash 2 = .ok (.iconst 0, 1) := by decide +kernel
theorem dX0_sittersWithClearFlash_3 : decode cX0_sittersWithClearFlash 3 = .ok (.istore_n 2, 1) := by decide +kernel
theorem dX0_sittersWithClearFlash_4 : decode cX0_sittersWithClearFlash 4 = .ok (.iload_n 2, 1) := by decide +kernel
theorem dX0_sittersWithClearFlash_5 : decode cX0_sittersWithClearFlash 5 = .ok (.aload_n 0, 1) := by decide +kernel
theorem dX0_sittersWithClearFlash_6 : decode cX0_sittersWithClearFlash 6 = .ok (.getfield 30, 3) := by decide +kernel
theorem dX0_sittersWithClearFlash_9 : decode cX0_sittersWithClearFlash 9 = .ok (.if_icmp .ge 33, 3) := by decide +kernel
theorem dX0_sittersWithClearFlash_12 : decode cX0_sittersWithClearFlash 12 = .ok (.aload_n 0, 1) := by decide +kernel
theorem dX0_sittersWithClearFlash_13 : decode cX0_sittersWithClearFlash 13 = .ok (.iload_n 2, 1) := by decide +kernel
theorem dX0_sittersWithClearFlash_14 : decode cX0_sittersWithClearFlash 14 = .ok (.invokevirtual 69, 3) := by decide +kernel
theorem dX0_sittersWithClearFlash_17 : decode cX0_sittersWithClearFlash 17 = .ok (.astore_n 3, 1) := by decide +kernel
theorem dX0_sittersWithClearFlash_18 : decode cX0_sittersWithClearFlash 18 = .ok (.aload_n 3, 1) := by decide +kernel
theorem dX0_sittersWithClearFlash_19 : decode cX0_sittersWithClearFlash 19 = .ok (.ifnull 17, 3) := by decide +kernel
theorem dX0_sittersWithClearFlash_22 : decode cX0_sittersWithClearFlash 22 = .ok (.aload_n 0, 1) := by decide +kernel
theorem dX0_sittersWithClearFlash_23 : decode cX0_sittersWithClearFlash 23 = .ok (.aload_n 3, 1) := by decide +kernel
theorem dX0_sittersWithClearFlash_24 : decode cX0_sittersWithClearFlash 24 = .ok (.invokevirtual 106, 3) := by decide +kernel
theorem dX0_sittersWithClearFlash_27 : decode cX0_sittersWithClearFlash 27 = .ok (.ifCond .eq 9, 3) := by decide +kernel
theorem dX0_sittersWithClearFlash_30 : decode cX0_sittersWithClearFlash 30 = .ok (.iload_n 1, 1) := by decide +kernel
theorem dX0_sittersWithClearFlash_31 : decode cX0_sittersWithClearFlash 31 = .ok (.iconst 1, 1) := by decide +kernel
theorem dX0_sittersWithClearFlash_32 : decode cX0_sittersWithClearFlash 32 = .ok (.iload_n 2, 1) := by decide +kernel
theorem dX0_sittersWithClearFlash_33 : decode cX0_sittersWithClearFlash 33 = .ok (.ishl, 1) := by decide +kernel
theorem dX0_sittersWithClearFlash_34 : decode cX0_sittersWithClearFlash 34 = .ok (.ior, 1) := by decide +kernel
theorem dX0_sittersWithClearFlash_35 : decode cX0_sittersWithClearFlash 35 = .ok (.istore_n 1, 1) := by decide +kernel
theorem dX0_sittersWithClearFlash_36 : decode cX0_sittersWithClearFlash 36 = .ok (.iinc 2 1, 3) := by decide +kernel
theorem dX0_sittersWithClearFlash_39 : decode cX0_sittersWithClearFlash 39 = .ok (.goto (-35), 3) := by decide +kernel
theorem dX0_sittersWithClearFlash_42 : decode cX0_sittersWithClearFlash 42 = .ok (.iload_n 1, 1) := by decide +kernel
theorem dX0_sittersWithClearFlash_43 : decode cX0_sittersWithClearFlash 43 = .ok (.ireturn, 1) := by decide +kernel
theorem dX0_commonFaults_0 : decode cX0_commonFaults 0 = .ok (.aload_n 0, 1) := by decide +kernel
theorem dX0_commonFaults_1 : decode cX0_commonFaults 1 = .ok (.getfield 30, 3) := by decide +kernel
theorem dX0_commonFaults_4 : decode cX0_commonFaults 4 = .ok (.ifCond .ne 7, 3) := by decide +kernel
theorem dX0_commonFaults_7 : decode cX0_commonFaults 7 = .ok (.iconst 0, 1) := by decide +kernel
theorem dX0_commonFaults_8 : decode cX0_commonFaults 8 = .ok (.goto 5, 3) := by decide +kernel
theorem dX0_commonFaults_11 : decode cX0_commonFaults 11 = .ok (.bipush 31, 2) := by decide +kernel
theorem dX0_commonFaults_13 : decode cX0_commonFaults 13 = .ok (.istore_n 1, 1) := by decide +kernel
theorem dX0_commonFaults_14 : decode cX0_commonFaults 14 = .ok (.iconst 0, 1) := by decide +kernel
theorem dX0_commonFaults_15 : decode cX0_commonFaults 15 = .ok (.istore_n 2, 1) := by decide +kernel
theorem dX0_commonFaults_16 : decode cX0_commonFaults 16 = .ok (.iload_n 2, 1) := by decide +kernel
theorem dX0_commonFaults_17 : decode cX0_commonFaults 17 = .ok (.aload_n 0, 1) := by decide +kernel
theorem dX0_commonFaults_18 : decode cX0_commonFaults 18 = .ok (.getfield 30, 3) := by decide +kernel
theorem dX0_commonFaults_21 : decode cX0_commonFaults 21 = .ok (.if_icmp .ge 44, 3) := by decide +kernel
theorem dX0_commonFaults_24 : decode cX0_commonFaults 24 = .ok (.aload_n 0, 1) := by decide +kernel
theorem dX0_commonFaults_25 : decode cX0_commonFaults 25 = .ok (.iload_n 2, 1) := by decide +kernel
theorem dX0_commonFaults_26 : decode cX0_commonFaults 26 = .ok (.invokevirtual 69, 3) := by decide +kernel
theorem dX0_commonFaults_29 : decode cX0_commonFaults 29 = .ok (.astore_n 3, 1) := by decide +kernel
theorem dX0_commonFaults_30 : decode cX0_commonFaults 30 = .ok (.iconst 0, 1) := by decide +kernel
theorem dX0_commonFaults_31 : decode cX0_commonFaults 31 = .ok (.istore 4, 2) := by decide +kernel
theorem dX0_commonFaults_33 : decode cX0_commonFaults 33 = .ok (.iload 4, 2) := by decide +kernel
theorem dX0_commonFaults_35 : decode cX0_commonFaults 35 = .ok (.iconst 4, 1) := by decide +kernel
theorem dX0_commonFaults_36 : decode cX0_commonFaults 36 = .ok (.if_icmp .ge 23, 3) := by decide +kernel
theorem dX0_commonFaults_39 : decode cX0_commonFaults 39 = .ok (.aload_n 3, 1) := by decide +kernel
theorem dX0_commonFaults_40 : decode cX0_commonFaults 40 = .ok (.ifnull 19, 3) := by decide +kernel
theorem dX0_commonFaults_43 : decode cX0_commonFaults 43 = .ok (.iload_n 1, 1) := by decide +kernel
theorem dX0_commonFaults_44 : decode cX0_commonFaults 44 = .ok (.aload_n 0, 1) := by decide +kernel
theorem dX0_commonFaults_45 : decode cX0_commonFaults 45 = .ok (.aload_n 3, 1) := by decide +kernel
theorem dX0_commonFaults_46 : decode cX0_commonFaults 46 = .ok (.iload 4, 2) := by decide +kernel
theorem dX0_commonFaults_48 : decode cX0_commonFaults 48 = .ok (.invokevirtual 102, 3) := by decide +kernel
theorem dX0_commonFaults_51 : decode cX0_commonFaults 51 = .ok (.iand, 1) := by decide +kernel
theorem dX0_commonFaults_52 : decode cX0_commonFaults 52 = .ok (.istore_n 1, 1) := by decide +kernel
theorem dX0_commonFaults_53 : decode cX0_commonFaults 53 = .ok (.iinc 4 1, 3) := by decide +kernel
theorem dX0_commonFaults_56 : decode cX0_commonFaults 56 = .ok (.goto (-23), 3) := by decide +kernel
theorem dX0_commonFaults_59 : decode cX0_commonFaults 59 = .ok (.iinc 2 1, 3) := by decide +kernel
theorem dX0_commonFaults_62 : decode cX0_commonFaults 62 = .ok (.goto (-46), 3) := by decide +kernel
theorem dX0_commonFaults_65 : decode cX0_commonFaults 65 = .ok (.iload_n 1, 1) := by decide +kernel
theorem dX0_commonFaults_66 : decode cX0_commonFaults 66 = .ok (.ireturn, 1) := by decide +kernel
theorem dX0_faultsTogether_0 : decode cX0_faultsTogether 0 = .ok (.aload_n 0, 1) := by decide +kernel
theorem dX0_faultsTogether_1 : decode cX0_faultsTogether 1 = .ok (.iload_n 1, 1) := by decide +kernel
theorem dX0_faultsTogether_2 : decode cX0_faultsTogether 2 = .ok (.invokevirtual 69, 3) := by decide +kernel
theorem dX0_faultsTogether_5 : decode cX0_faultsTogether 5 = .ok (.astore_n 2, 1) := by decide +kernel
theorem dX0_faultsTogether_6 : decode cX0_faultsTogether 6 = .ok (.iconst 0, 1) := by decide +kernel
theorem dX0_faultsTogether_7 : decode cX0_faultsTogether 7 = .ok (.istore_n 3, 1) := by decide +kernel
theorem dX0_faultsTogether_8 : decode cX0_faultsTogether 8 = .ok (.iconst 0, 1) := by decide +kernel
theorem dX0_faultsTogether_9 : decode cX0_faultsTogether 9 = .ok (.istore 4, 2) := by decide +kernel
theorem dX0_faultsTogether_11 : decode cX0_faultsTogether 11 = .ok (.iload 4, 2) := by decide +kernel
theorem dX0_faultsTogether_13 : decode cX0_faultsTogether 13 = .ok (.iconst 4, 1) := by decide +kernel
theorem dX0_faultsTogether_14 : decode cX0_faultsTogether 14 = .ok (.if_icmp .ge 26, 3) := by decide +kernel
theorem dX0_faultsTogether_17 : decode cX0_faultsTogether 17 = .ok (.aload_n 2, 1) := by decide +kernel
theorem dX0_faultsTogether_18 : decode cX0_faultsTogether 18 = .ok (.ifnull 22, 3) := by decide +kernel
theorem dX0_faultsTogether_21 : decode cX0_faultsTogether 21 = .ok (.iload_n 3, 1) := by decide +kernel
theorem dX0_faultsTogether_22 : decode cX0_faultsTogether 22 = .ok (.aload_n 0, 1) := by decide +kernel
theorem dX0_faultsTogether_23 : decode cX0_faultsTogether 23 = .ok (.aload_n 2, 1) := by decide +kernel
theorem dX0_faultsTogether_24 : decode cX0_faultsTogether 24 = .ok (.iload 4, 2) := by decide +kernel
theorem dX0_faultsTogether_26 : decode cX0_faultsTogether 26 = .ok (.invokevirtual 102, 3) := by decide +kernel
theorem dX0_faultsTogether_29 : decode cX0_faultsTogether 29 = .ok (.invokestatic 110, 3) := by decide +kernel
theorem dX0_faultsTogether_32 : decode cX0_faultsTogether 32 = .ok (.iadd, 1) := by decide +kernel
theorem dX0_faultsTogether_33 : decode cX0_faultsTogether 33 = .ok (.istore_n 3, 1) := by decide +kernel
theorem dX0_faultsTogether_34 : decode cX0_faultsTogether 34 = .ok (.iinc 4 1, 3) := by decide +kernel
theorem dX0_faultsTogether_37 : decode cX0_faultsTogether 37 = .ok (.goto (-26), 3) := by decide +kernel
theorem dX0_faultsTogether_40 : decode cX0_faultsTogether 40 = .ok (.iload_n 3, 1) := by decide +kernel
theorem dX0_faultsTogether_41 : decode cX0_faultsTogether 41 = .ok (.ireturn, 1) := by decide +kernel
theorem dX0_passMinutes_0 : decode cX0_passMinutes 0 = .ok (.iconst 0, 1) := by decide +kernel
theorem dX0_passMinutes_1 : decode cX0_passMinutes 1 = .ok (.istore_n 2, 1) := by decide +kernel
theorem dX0_passMinutes_2 : decode cX0_passMinutes 2 = .ok (.iload_n 2, 1) := by decide +kernel
theorem dX0_passMinutes_3 : decode cX0_passMinutes 3 = .ok (.iload_n 1, 1) := by decide +kernel
theorem dX0_passMinutes_4 : decode cX0_passMinutes 4 = .ok (.if_icmp .ge 13, 3) := by decide +kernel
theorem dX0_passMinutes_7 : decode cX0_passMinutes 7 = .ok (.aload_n 0, 1) := by decide +kernel
theorem dX0_passMinutes_8 : decode cX0_passMinutes 8 = .ok (.invokevirtual 115, 3) := by decide +kernel
theorem dX0_passMinutes_11 : decode cX0_passMinutes 11 = .ok (.iinc 2 1, 3) := by decide +kernel
theorem dX0_passMinutes_14 : decode cX0_passMinutes 14 = .ok (.goto (-12), 3) := by decide +kernel
theorem dX0_passMinutes_17 : decode cX0_passMinutes 17 = .ok (.return_, 1) := by decide +kernel
theorem dX0_passMinute_0 : decode cX0_passMinute 0 = .ok (.aload_n 0, 1) := by decide +kernel
theorem dX0_passMinute_1 : decode cX0_passMinute 1 = .ok (.aload_n 0, 1) := by decide +kernel
theorem dX0_passMinute_2 : decode cX0_passMinute 2 = .ok (.aload_n 0, 1) := by decide +kernel
theorem dX0_passMinute_3 : decode cX0_passMinute 3 = .ok (.invokevirtual 118, 3) := by decide +kernel
theorem dX0_passMinute_6 : decode cX0_passMinute 6 = .ok (.invokevirtual 121, 3) := by decide +kernel
theorem dX0_passMinute_9 : decode cX0_passMinute 9 = .ok (.invokevirtual 69, 3) := by decide +kernel
theorem dX0_passMinute_12 : decode cX0_passMinute 12 = .ok (.astore_n 1, 1) := by decide +kernel
theorem dX0_passMinute_13 : decode cX0_passMinute 13 = .ok (.aload_n 1, 1) := by decide +kernel
theorem dX0_passMinute_14 : decode cX0_passMinute 14 = .ok (.ifnull 19, 3) := by decide +kernel
theorem dX0_passMinute_17 : decode cX0_passMinute 17 = .ok (.aload_n 1, 1) := by decide +kernel
theorem dX0_passMinute_18 : decode cX0_passMinute 18 = .ok (.getfield 124, 3) := by decide +kernel
theorem dX0_passMinute_21 : decode cX0_passMinute 21 = .ok (.aload_n 0, 1) := by decide +kernel
theorem dX0_passMinute_22 : decode cX0_passMinute 22 = .ok (.getfield 18, 3) := by decide +kernel
theorem dX0_passMinute_25 : decode cX0_passMinute 25 = .ok (.if_icmp .lt 8, 3) := by decide +kernel
theorem dX0_passMinute_28 : decode cX0_passMinute 28 = .ok (.aload_n 0, 1) := by decide +kernel
theorem dX0_passMinute_29 : decode cX0_passMinute 29 = .ok (.aload_n 1, 1) := by decide +kernel
theorem dX0_passMinute_30 : decode cX0_passMinute 30 = .ok (.invokevirtual 127, 3) := by decide +kernel
theorem dX0_passMinute_33 : decode cX0_passMinute 33 = .ok (.aload_n 0, 1) := by decide +kernel
theorem dX0_passMinute_34 : decode cX0_passMinute 34 = .ok (.aload_n 0, 1) := by decide +kernel
theorem dX0_passMinute_35 : decode cX0_passMinute 35 = .ok (.getfield 24, 3) := by decide +kernel
theorem dX0_passMinute_38 : decode cX0_passMinute 38 = .ok (.iconst 1, 1) := by decide +kernel
theorem dX0_passMinute_39 : decode cX0_passMinute 39 = .ok (.iadd, 1) := by decide +kernel
theorem dX0_passMinute_40 : decode cX0_passMinute 40 = .ok (.ldc 57, 2) := by decide +kernel
theorem dX0_passMinute_42 : decode cX0_passMinute 42 = .ok (.invokestatic 130, 3) := by decide +kernel
theorem dX0_passMinute_45 : decode cX0_passMinute 45 = .ok (.putfield 24, 3) := by decide +kernel
theorem dX0_passMinute_48 : decode cX0_passMinute 48 = .ok (.aload_n 0, 1) := by decide +kernel
theorem dX0_passMinute_49 : decode cX0_passMinute 49 = .ok (.getfield 24, 3) := by decide +kernel
theorem dX0_passMinute_52 : decode cX0_passMinute 52 = .ok (.bipush 6, 2) := by decide +kernel
theorem dX0_passMinute_54 : decode cX0_passMinute 54 = .ok (.irem, 1) := by decide +kernel
theorem dX0_passMinute_55 : decode cX0_passMinute 55 = .ok (.ifCond .ne 7, 3) := by decide +kernel
theorem dX0_passMinute_58 : decode cX0_passMinute 58 = .ok (.aload_n 0, 1) := by decide +kernel
theorem dX0_passMinute_59 : decode cX0_passMinute 59 = .ok (.invokevirtual 135, 3) := by decide +kernel
theorem dX0_passMinute_62 : decode cX0_passMinute 62 = .ok (.return_, 1) := by decide +kernel
theorem dX0_takePictures_0 : decode cX0_takePictures 0 = .ok (.aload_n 1, 1) := by decide +kernel
theorem dX0_takePictures_1 : decode cX0_takePictures 1 = .ok (.dup, 1) := by decide +kernel
theorem dX0_takePictures_2 : decode cX0_takePictures 2 = .ok (.getfield 124, 3) := by decide +kernel
theorem dX0_takePictures_5 : decode cX0_takePictures 5 = .ok (.aload_n 0, 1) := by decide +kernel
theorem dX0_takePictures_6 : decode cX0_takePictures 6 = .ok (.getfield 18, 3) := by decide +kernel
theorem dX0_takePictures_9 : decode cX0_takePictures 9 = .ok (.isub, 1) := by decide +kernel
theorem dX0_takePictures_10 : decode cX0_takePictures 10 = .ok (.putfield 124, 3) := by decide +kernel
theorem dX0_takePictures_13 : decode cX0_takePictures 13 = .ok (.aload_n 0, 1) := by decide +kernel
theorem dX0_takePictures_14 : decode cX0_takePictures 14 = .ok (.aload_n 0, 1) := by decide +kernel
theorem dX0_takePictures_15 : decode cX0_takePictures 15 = .ok (.getfield 21, 3) := by decide +kernel
theorem dX0_takePictures_18 : decode cX0_takePictures 18 = .ok (.aload_n 0, 1) := by decide +kernel
theorem dX0_takePictures_19 : decode cX0_takePictures 19 = .ok (.getfield 18, 3) := by decide +kernel
theorem dX0_takePictures_22 : decode cX0_takePictures 22 = .ok (.iadd, 1) := by decide +kernel
theorem dX0_takePictures_23 : decode cX0_takePictures 23 = .ok (.iconst 3, 1) := by decide +kernel
theorem dX0_takePictures_24 : decode cX0_takePictures 24 = .ok (.invokestatic 138, 3) := by decide +kernel
theorem dX0_takePictures_27 : decode cX0_takePictures 27 = .ok (.invokestatic 130, 3) := by decide +kernel
theorem dX0_takePictures_30 : decode cX0_takePictures 30 = .ok (.putfield 21, 3) := by decide +kernel
theorem dX0_takePictures_33 : decode cX0_takePictures 33 = .ok (.aload_n 1, 1) := by decide +kernel
theorem dX0_takePictures_34 : decode cX0_takePictures 34 = .ok (.aload_n 1, 1) := by decide +kernel
theorem dX0_takePictures_35 : decode cX0_takePictures 35 = .ok (.getfield 141, 3) := by decide +kernel
theorem dX0_takePictures_38 : decode cX0_takePictures 38 = .ok (.iconst 1, 1) := by decide +kernel
theorem dX0_takePictures_39 : decode cX0_takePictures 39 = .ok (.iadd, 1) := by decide +kernel
theorem dX0_takePictures_40 : decode cX0_takePictures 40 = .ok (.bipush 6, 2) := by decide +kernel
theorem dX0_takePictures_42 : decode cX0_takePictures 42 = .ok (.invokestatic 144, 3) := by decide +kernel
theorem dX0_takePictures_45 : decode cX0_takePictures 45 = .ok (.invokestatic 130, 3) := by decide +kernel
theorem dX0_takePictures_48 : decode cX0_takePictures 48 = .ok (.putfield 141, 3) := by decide +kernel
theorem dX0_takePictures_51 : decode cX0_takePictures 51 = .ok (.aload_n 0, 1) := by decide +kernel
theorem dX0_takePictures_52 : decode cX0_takePictures 52 = .ok (.aload_n 1, 1) := by decide +kernel
theorem dX0_takePictures_53 : decode cX0_takePictures 53 = .ok (.invokevirtual 145, 3) := by decide +kernel
theorem dX0_takePictures_56 : decode cX0_takePictures 56 = .ok (.aload_n 0, 1) := by decide +kernel
theorem dX0_takePictures_57 : decode cX0_takePictures 57 = .ok (.aload_n 1, 1) := by decide +kernel
theorem dX0_takePictures_58 : decode cX0_takePictures 58 = .ok (.invokevirtual 106, 3) := by decide +kernel
theorem dX0_takePictures_61 : decode cX0_takePictures 61 = .ok (.ifCond .eq 40, 3) := by decide +kernel
theorem dX0_takePictures_64 : decode cX0_takePictures 64 = .ok (.aload_n 1, 1) := by decide +kernel
theorem dX0_takePictures_65 : decode cX0_takePictures 65 = .ok (.aload_n 1, 1) := by decide +kernel
theorem dX0_takePictures_66 : decode cX0_takePictures 66 = .ok (.getfield 148, 3) := by decide +kernel
theorem dX0_takePictures_69 : decode cX0_takePictures 69 = .ok (.iconst 1, 1) := by decide +kernel
theorem dX0_takePictures_70 : decode cX0_takePictures 70 = .ok (.iadd, 1) := by decide +kernel
theorem dX0_takePictures_71 : decode cX0_takePictures 71 = .ok (.iconst 5, 1) := by decide +kernel
theorem dX0_takePictures_72 : decode cX0_takePictures 72 = .ok (.invokestatic 144, 3) := by decide +kernel
theorem dX0_takePictures_75 : decode cX0_takePictures 75 = .ok (.invokestatic 130, 3) := by decide +kernel
theorem dX0_takePictures_78 : decode cX0_takePictures 78 = .ok (.putfield 148, 3) := by decide +kernel
theorem dX0_takePictures_81 : decode cX0_takePictures 81 = .ok (.aload_n 1, 1) := by decide +kernel
theorem dX0_takePictures_82 : decode cX0_takePictures 82 = .ok (.aload_n 1, 1) := by decide +kernel
theorem dX0_takePictures_83 : decode cX0_takePictures 83 = .ok (.getfield 151, 3) := by decide +kernel
theorem dX0_takePictures_86 : decode cX0_takePictures 86 = .ok (.iconst 1, 1) := by decide +kernel
theorem dX0_takePictures_87 : decode cX0_takePictures 87 = .ok (.iadd, 1) := by decide +kernel
theorem dX0_takePictures_88 : decode cX0_takePictures 88 = .ok (.iconst 2, 1) := by decide +kernel
theorem dX0_takePictures_89 : decode cX0_takePictures 89 = .ok (.invokestatic 144, 3) := by decide +kernel
theorem dX0_takePictures_92 : decode cX0_takePictures 92 = .ok (.invokestatic 130, 3) := by decide +kernel
theorem dX0_takePictures_95 : decode cX0_takePictures 95 = .ok (.putfield 151, 3) := by decide +kernel
theorem dX0_takePictures_98 : decode cX0_takePictures 98 = .ok (.goto 17, 3) := by decide +kernel
theorem dX0_takePictures_101 : decode cX0_takePictures 101 = .ok (.aload_n 1, 1) := by decide +kernel
theorem dX0_takePictures_102 : decode cX0_takePictures 102 = .ok (.aload_n 1, 1) := by decide +kernel
theorem dX0_takePictures_103 : decode cX0_takePictures 103 = .ok (.getfield 154, 3) := by decide +kernel
theorem dX0_takePictures_106 : decode cX0_takePictures 106 = .ok (.iconst 1, 1) := by decide +kernel
theorem dX0_takePictures_107 : decode cX0_takePictures 107 = .ok (.isub, 1) := by decide +kernel
theorem dX0_takePictures_108 : decode cX0_takePictures 108 = .ok (.iconst 0, 1) := by decide +kernel
theorem dX0_takePictures_109 : decode cX0_takePictures 109 = .ok (.invokestatic 157, 3) := by decide +kernel
theorem dX0_takePictures_112 : decode cX0_takePictures 112 = .ok (.putfield 154, 3) := by decide +kernel
theorem dX0_takePictures_115 : decode cX0_takePictures 115 = .ok (.return_, 1) := by decide +kernel
theorem dX0_turnStool_0 : decode cX0_turnStool 0 = .ok (.iconst 0, 1) := by decide +kernel
theorem dX0_turnStool_1 : decode cX0_turnStool 1 = .ok (.bipush 80, 2) := by decide +kernel
theorem dX0_turnStool_3 : decode cX0_turnStool 3 = .ok (.aload_n 1, 1) := by decide +kernel
theorem dX0_turnStool_4 : decode cX0_turnStool 4 = .ok (.getfield 160, 3) := by decide +kernel
theorem dX0_turnStool_7 : decode cX0_turnStool 7 = .ok (.isub, 1) := by decide +kernel
theorem dX0_turnStool_8 : decode cX0_turnStool 8 = .ok (.iconst 0, 1) := by decide +kernel
theorem dX0_turnStool_9 : decode cX0_turnStool 9 = .ok (.invokestatic 138, 3) := by decide +kernel
theorem dX0_turnStool_12 : decode cX0_turnStool 12 = .ok (.invokestatic 130, 3) := by decide +kernel
theorem dX0_turnStool_15 : decode cX0_turnStool 15 = .ok (.invokestatic 157, 3) := by decide +kernel
theorem dX0_turnStool_18 : decode cX0_turnStool 18 = .ok (.istore_n 2, 1) := by decide +kernel
theorem dX0_turnStool_19 : decode cX0_turnStool 19 = .ok (.aload_n 0, 1) := by decide +kernel
theorem dX0_turnStool_20 : decode cX0_turnStool 20 = .ok (.dup, 1) := by decide +kernel
theorem dX0_turnStool_21 : decode cX0_turnStool 21 = .ok (.getfield 9, 3) := by decide +kernel
theorem dX0_turnStool_24 : decode cX0_turnStool 24 = .ok (.bipush (-4), 2) := by decide +kernel
theorem dX0_turnStool_26 : decode cX0_turnStool 26 = .ok (.iload_n 2, 1) := by decide +kernel
theorem dX0_turnStool_27 : decode cX0_turnStool 27 = .ok (.aload_n 0, 1) := by decide +kernel
theorem dX0_turnStool_28 : decode cX0_turnStool 28 = .ok (.getfield 9, 3) := by decide +kernel
theorem dX0_turnStool_31 : decode cX0_turnStool 31 = .ok (.isub, 1) := by decide +kernel
theorem dX0_turnStool_32 : decode cX0_turnStool 32 = .ok (.iconst 4, 1) := by decide +kernel
theorem dX0_turnStool_33 : decode cX0_turnStool 33 = .ok (.invokestatic 130, 3) := by decide +kernel
theorem dX0_turnStool_36 : decode cX0_turnStool 36 = .ok (.invokestatic 157, 3) := by decide +kernel
theorem dX0_turnStool_39 : decode cX0_turnStool 39 = .ok (.iadd, 1) := by decide +kernel
theorem dX0_turnStool_40 : decode cX0_turnStool 40 = .ok (.putfield 9, 3) := by decide +kernel
theorem dX0_turnStool_43 : decode cX0_turnStool 43 = .ok (.return_, 1) := by decide +kernel
theorem dX0_payOut_0 : decode cX0_payOut 0 = .ok (.iconst 0, 1) := by decide +kernel
theorem dX0_payOut_1 : decode cX0_payOut 1 = .ok (.istore_n 1, 1) := by decide +kernel
theorem dX0_payOut_2 : decode cX0_payOut 2 = .ok (.iload_n 1, 1) := by decide +kernel
theorem dX0_payOut_3 : decode cX0_payOut 3 = .ok (.aload_n 0, 1) := by decide +kernel
theorem dX0_payOut_4 : decode cX0_payOut 4 = .ok (.getfield 30, 3) := by decide +kernel
theorem dX0_payOut_7 : decode cX0_payOut 7 = .ok (.if_icmp .ge 36, 3) := by decide +kernel
theorem dX0_payOut_10 : decode cX0_payOut 10 = .ok (.aload_n 0, 1) := by decide +kernel
theorem dX0_payOut_11 : decode cX0_payOut 11 = .ok (.iload_n 1, 1) := by decide +kernel
theorem dX0_payOut_12 : decode cX0_payOut 12 = .ok (.invokevirtual 69, 3) := by decide +kernel
theorem dX0_payOut_15 : decode cX0_payOut 15 = .ok (.astore_n 2, 1) := by decide +kernel
theorem dX0_payOut_16 : decode cX0_payOut 16 = .ok (.aload_n 2, 1) := by decide +kernel
theorem dX0_payOut_17 : decode cX0_payOut 17 = .ok (.ifnull 20, 3) := by decide +kernel
theorem dX0_payOut_20 : decode cX0_payOut 20 = .ok (.aload_n 2, 1) := by decide +kernel
theorem dX0_payOut_21 : decode cX0_payOut 21 = .ok (.aload_n 2, 1) := by decide +kernel
theorem dX0_payOut_22 : decode cX0_payOut 22 = .ok (.getfield 124, 3) := by decide +kernel
theorem dX0_payOut_25 : decode cX0_payOut 25 = .ok (.iconst 3, 1) := by decide +kernel
theorem dX0_payOut_26 : decode cX0_payOut 26 = .ok (.iadd, 1) := by decide +kernel
theorem dX0_payOut_27 : decode cX0_payOut 27 = .ok (.iconst 4, 1) := by decide +kernel
theorem dX0_payOut_28 : decode cX0_payOut 28 = .ok (.invokestatic 144, 3) := by decide +kernel
theorem dX0_payOut_31 : decode cX0_payOut 31 = .ok (.invokestatic 130, 3) := by decide +kernel
theorem dX0_payOut_34 : decode cX0_payOut 34 = .ok (.putfield 124, 3) := by decide +kernel
theorem dX0_payOut_37 : decode cX0_payOut 37 = .ok (.iinc 1 1, 3) := by decide +kernel
theorem dX0_payOut_40 : decode cX0_payOut 40 = .ok (.goto (-38), 3) := by decide +kernel
theorem dX0_payOut_43 : decode cX0_payOut 43 = .ok (.return_, 1) := by decide +kernel
theorem dX0_draw_0 : decode cX0_draw 0 = .ok (.aload_n 0, 1) := by decide +kernel
theorem dX0_draw_1 : decode cX0_draw 1 = .ok (.aload_n 0, 1) := by decide +kernel
theorem dX0_draw_2 : decode cX0_draw 2 = .ok (.getfield 27, 3) := by decide +kernel
theorem dX0_draw_5 : decode cX0_draw 5 = .ok (.ldc 163, 2) := by decide +kernel
theorem dX0_draw_7 : decode cX0_draw 7 = .ok (.imul, 1) := by decide +kernel
theorem dX0_draw_8 : decode cX0_draw 8 = .ok (.sipush 12345, 3) := by decide +kernel
theorem dX0_draw_11 : decode cX0_draw 11 = .ok (.iadd, 1) := by decide +kernel
theorem dX0_draw_12 : decode cX0_draw 12 = .ok (.putfield 27, 3) := by decide +kernel
theorem dX0_draw_15 : decode cX0_draw 15 = .ok (.aload_n 0, 1) := by decide +kernel
theorem dX0_draw_16 : decode cX0_draw 16 = .ok (.getfield 27, 3) := by decide +kernel
theorem dX0_draw_19 : decode cX0_draw 19 = .ok (.bipush 8, 2) := by decide +kernel
theorem dX0_draw_21 : decode cX0_draw 21 = .ok (.iushr, 1) := by decide +kernel
theorem dX0_draw_22 : decode cX0_draw 22 = .ok (.ireturn, 1) := by decide +kernel
theorem dX1_init_0 : decode cX1_init 0 = .ok (.aload_n 0, 1) := by decide +kernel
theorem dX1_init_1 : decode cX1_init 1 = .ok (.invokespecial 1, 3) := by decide +kernel
theorem dX1_init_4 : decode cX1_init 4 = .ok (.aload_n 0, 1) := by decide +kernel
theorem dX1_init_5 : decode cX1_init 5 = .ok (.iconst 0, 1) := by decide +kernel
theorem dX1_init_6 : decode cX1_init 6 = .ok (.putfield 7, 3) := by decide +kernel
theorem dX1_init_9 : decode cX1_init 9 = .ok (.aload_n 0, 1) := by decide +kernel
theorem dX1_init_10 : decode cX1_init 10 = .ok (.iconst 0, 1) := by decide +kernel
theorem dX1_init_11 : decode cX1_init 11 = .ok (.putfield 13, 3) := by decide +kernel
theorem dX1_init_14 : decode cX1_init 14 = .ok (.aload_n 0, 1) := by decide +kernel
theorem dX1_init_15 : decode cX1_init 15 = .ok (.bipush 40, 2) := by decide +kernel
theorem dX1_init_17 : decode cX1_init 17 = .ok (.newarray .int, 2) := by decide +kernel
theorem dX1_init_19 : decode cX1_init 19 = .ok (.putfield 16, 3) := by decide +kernel
theorem dX1_init_22 : decode cX1_init 22 = .ok (.return_, 1) := by decide +kernel
theorem dX1_isWidth_0 : decode cX1_isWidth 0 = .ok (.iload_n 0, 1) := by decide +kernel
theorem dX1_isWidth_1 : decode cX1_isWidth 1 = .ok (.ifCond .eq 21, 3) := by decide +kernel
theorem dX1_isWidth_4 : decode cX1_isWidth 4 = .ok (.iload_n 0, 1) := by decide +kernel
theorem dX1_isWidth_5 : decode cX1_isWidth 5 = .ok (.bipush 8, 2) := by decide +kernel
theorem dX1_isWidth_7 : decode cX1_isWidth 7 = .ok (.if_icmp .eq 15, 3) := by decide +kernel
theorem dX1_isWidth_10 : decode cX1_isWidth 10 = .ok (.iload_n 0, 1) := by decide +kernel
theorem dX1_isWidth_11 : decode cX1_isWidth 11 = .ok (.bipush 16, 2) := by decide +kernel
theorem dX1_isWidth_13 : decode cX1_isWidth 13 = .ok (.if_icmp .eq 9, 3) := by decide +kernel
theorem dX1_isWidth_16 : decode cX1_isWidth 16 = .ok (.iload_n 0, 1) := by decide +kernel
theorem dX1_isWidth_17 : decode cX1_isWidth 17 = .ok (.bipush 32, 2) := by decide +kernel
theorem dX1_isWidth_19 : decode cX1_isWidth 19 = .ok (.if_icmp .ne 7, 3) := by decide +kernel
theorem dX1_isWidth_22 : decode cX1_isWidth 22 = .ok (.iconst 1, 1) := by decide +kernel
theorem dX1_isWidth_23 : decode cX1_isWidth 23 = .ok (.goto 4, 3) := by decide +kernel
theorem dX1_isWidth_26 : decode cX1_isWidth 26 = .ok (.iconst 0, 1) := by decide +kernel
theorem dX1_isWidth_27 : decode cX1_isWidth 27 = .ok (.ireturn, 1) := by decide +kernel
theorem dX1_isMissing_0 : decode cX1_isMissing 0 = .ok (.aload_n 0, 1) := by decide +kernel
theorem dX1_isMissing_1 : decode cX1_isMissing 1 = .ok (.getfield 7, 3) := by decide +kernel
theorem dX1_isMissing_4 : decode cX1_isMissing 4 = .ok (.ifCond .ne 7, 3) := by decide +kernel
theorem dX1_isMissing_7 : decode cX1_isMissing 7 = .ok (.iconst 1, 1) := by decide +kernel
theorem dX1_isMissing_8 : decode cX1_isMissing 8 = .ok (.goto 4, 3) := by decide +kernel
theorem dX1_isMissing_11 : decode cX1_isMissing 11 = .ok (.iconst 0, 1) := by decide +kernel
theorem dX1_isMissing_12 : decode cX1_isMissing 12 = .ok (.ireturn, 1) := by decide +kernel
theorem dX1_begin_0 : decode cX1_begin 0 = .ok (.aload_n 0, 1) := by decide +kernel
theorem dX1_begin_1 : decode cX1_begin 1 = .ok (.iload_n 1, 1) := by decide +kernel
theorem dX1_begin_2 : decode cX1_begin 2 = .ok (.putfield 7, 3) := by decide +kernel
theorem dX1_begin_5 : decode cX1_begin 5 = .ok (.aload_n 0, 1) := by decide +kernel
theorem dX1_begin_6 : decode cX1_begin 6 = .ok (.iload_n 1, 1) := by decide +kernel
theorem dX1_begin_7 : decode cX1_begin 7 = .ok (.ifCond .ne 7, 3) := by decide +kernel
theorem dX1_begin_10 : decode cX1_begin 10 = .ok (.iconst 0, 1) := by decide +kernel
theorem dX1_begin_11 : decode cX1_begin 11 = .ok (.goto 4, 3) := by decide +kernel
theorem dX1_begin_14 : decode cX1_begin 14 = .ok (.iload_n 2, 1) := by decide +kernel
theorem dX1_begin_15 : decode cX1_begin 15 = .ok (.putfield 13, 3) := by decide +kernel
theorem dX1_begin_18 : decode cX1_begin 18 = .ok (.iconst 0, 1) := by decide +kernel
theorem dX1_begin_19 : decode cX1_begin 19 = .ok (.istore_n 3, 1) := by decide +kernel
theorem dX1_begin_20 : decode cX1_begin 20 = .ok (.iload_n 3, 1) := by decide +kernel
theorem dX1_begin_21 : decode cX1_begin 21 = .ok (.bipush 40, 2) := by decide +kernel
theorem dX1_begin_23 : decode cX1_begin 23 = .ok (.if_icmp .ge 16, 3) := by decide +kernel
theorem dX1_begin_26 : decode cX1_begin 26 = .ok (.aload_n 0, 1) := by decide +kernel
theorem dX1_begin_27 : decode cX1_begin 27 = .ok (.getfield 16, 3) := by decide +kernel
theorem dX1_begin_30 : decode cX1_begin 30 = .ok (.iload_n 3, 1) := by decide +kernel
theorem dX1_begin_31 : decode cX1_begin 31 = .ok (.iconst 0, 1) := by decide +kernel
theorem dX1_begin_32 : decode cX1_begin 32 = .ok (.iastore, 1) := by decide +kernel
theorem dX1_begin_33 : decode cX1_begin 33 = .ok (.iinc 3 1, 3) := by decide +kernel
theorem dX1_begin_36 : decode cX1_begin 36 = .ok (.goto (-16), 3) := by decide +kernel
theorem dX1_begin_39 : decode cX1_begin 39 = .ok (.return_, 1) := by decide +kernel
theorem dX1_hasNumber_0 : decode cX1_hasNumber 0 = .ok (.iload_n 1, 1) := by decide +kernel
theorem dX1_hasNumber_1 : decode cX1_hasNumber 1 = .ok (.ifCond .lt 21, 3) := by decide +kernel
theorem dX1_hasNumber_4 : decode cX1_hasNumber 4 = .ok (.iload_n 1, 1) := by decide +kernel
theorem dX1_hasNumber_5 : decode cX1_hasNumber 5 = .ok (.aload_n 0, 1) := by decide +kernel
theorem dX1_hasNumber_6 : decode cX1_hasNumber 6 = .ok (.getfield 13, 3) := by decide +kernel
theorem dX1_hasNumber_9 : decode cX1_hasNumber 9 = .ok (.if_icmp .ge 13, 3) := by decide +kernel
theorem dX1_hasNumber_12 : decode cX1_hasNumber 12 = .ok (.iload_n 1, 1) := by decide +kernel
theorem dX1_hasNumber_13 : decode cX1_hasNumber 13 = .ok (.bipush 40, 2) := by decide +kernel
theorem dX1_hasNumber_15 : decode cX1_hasNumber 15 = .ok (.if_icmp .ge 7, 3) := by decide +kernel
theorem dX1_hasNumber_18 : decode cX1_hasNumber 18 = .ok (.iconst 1, 1) := by decide +kernel
theorem dX1_hasNumber_19 : decode cX1_hasNumber 19 = .ok (.goto 4, 3) := by decide +kernel
theorem dX1_hasNumber_22 : decode cX1_hasNumber 22 = .ok (.iconst 0, 1) := by decide +kernel
theorem dX1_hasNumber_23 : decode cX1_hasNumber 23 = .ok (.ireturn, 1) := by decide +kernel
theorem dX1_hasRange_0 : decode cX1_hasRange 0 = .ok (.iload_n 1, 1) := by decide +kernel
theorem dX1_hasRange_1 : decode cX1_hasRange 1 = .ok (.ifCond .lt 29, 3) := by decide +kernel
theorem dX1_hasRange_4 : decode cX1_hasRange 4 = .ok (.iload_n 2, 1) := by decide +kernel
theorem dX1_hasRange_5 : decode cX1_hasRange 5 = .ok (.ifCond .lt 25, 3) := by decide +kernel
theorem dX1_hasRange_8 : decode cX1_hasRange 8 = .ok (.iload_n 1, 1) := by decide +kernel
theorem dX1_hasRange_9 : decode cX1_hasRange 9 = .ok (.aload_n 0, 1) := by decide +kernel
theorem dX1_hasRange_10 : decode cX1_hasRange 10 = .ok (.getfield 13, 3) := by decide +kernel
theorem dX1_hasRange_13 : decode cX1_hasRange 13 = .ok (.if_icmp .gt 17, 3) := by decide +kernel
theorem dX1_hasRange_16 : decode cX1_hasRange 16 = .ok (.iload_n 2, 1) := by decide +kernel
theorem dX1_hasRange_17 : decode cX1_hasRange 17 = .ok (.aload_n 0, 1) := by decide +kernel
theorem dX1_hasRange_18 : decode cX1_hasRange 18 = .ok (.getfield 13, 3) := by decide +kernel
theorem dX1_hasRange_21 : decode cX1_hasRange 21 = .ok (.iload_n 1, 1) := by decide +kernel
theorem dX1_hasRange_22 : decode cX1_hasRange 22 = .ok (.isub, 1) := by decide +kernel
theorem dX1_hasRange_23 : decode cX1_hasRange 23 = .ok (.if_icmp .gt 7, 3) := by decide +kernel
theorem dX1_hasRange_26 : decode cX1_hasRange 26 = .ok (.iconst 1, 1) := by decide +kernel
theorem dX1_hasRange_27 : decode cX1_hasRange 27 = .ok (.goto 4, 3) := by decide +kernel
theorem dX1_hasRange_30 : decode cX1_hasRange 30 = .ok (.iconst 0, 1) := by decide +kernel
theorem dX1_hasRange_31 : decode cX1_hasRange 31 = .ok (.ireturn, 1) := by decide +kernel
theorem dX1_number_0 : decode cX1_number 0 = .ok (.aload_n 0, 1) := by decide +kernel
theorem dX1_number_1 : decode cX1_number 1 = .ok (.iload_n 1, 1) := by decide +kernel
theorem dX1_number_2 : decode cX1_number 2 = .ok (.invokevirtual 20, 3) := by decide +kernel
theorem dX1_number_5 : decode cX1_number 5 = .ok (.ifCond .eq 12, 3) := by decide +kernel
theorem dX1_number_8 : decode cX1_number 8 = .ok (.aload_n 0, 1) := by decide +kernel
theorem dX1_number_9 : decode cX1_number 9 = .ok (.getfield 16, 3) := by decide +kernel
theorem dX1_number_12 : decode cX1_number 12 = .ok (.iload_n 1, 1) := by decide +kernel
theorem dX1_number_13 : decode cX1_number 13 = .ok (.iaload, 1) := by decide +kernel
theorem dX1_number_14 : decode cX1_number 14 = .ok (.goto 4, 3) := by decide +kernel
theorem dX1_number_17 : decode cX1_number 17 = .ok (.iconst 0, 1) := by decide +kernel
theorem dX1_number_18 : decode cX1_number 18 = .ok (.ireturn, 1) := by decide +kernel
theorem dX1_putNumber_0 : decode cX1_putNumber 0 = .ok (.aload_n 0, 1) := by decide +kernel
theorem dX1_putNumber_1 : decode cX1_putNumber 1 = .ok (.iload_n 1, 1) := by decide +kernel
theorem dX1_putNumber_2 : decode cX1_putNumber 2 = .ok (.invokevirtual 20, 3) := by decide +kernel
theorem dX1_putNumber_5 : decode cX1_putNumber 5 = .ok (.ifCond .ne 5, 3) := by decide +kernel
theorem dX1_putNumber_8 : decode cX1_putNumber 8 = .ok (.iconst 0, 1) := by decide +kernel
theorem dX1_putNumber_9 : decode cX1_putNumber 9 = .ok (.ireturn, 1) := by decide +kernel
theorem dX1_putNumber_10 : decode cX1_putNumber 10 = .ok (.aload_n 0, 1) := by decide +kernel
theorem dX1_putNumber_11 : decode cX1_putNumber 11 = .ok (.getfield 7, 3) := by decide +kernel
theorem dX1_putNumber_14 : decode cX1_putNumber 14 = .ok (.bipush 8, 2) := by decide +kernel
theorem dX1_putNumber_16 : decode cX1_putNumber 16 = .ok (.if_icmp .ne 14, 3) := by decide +kernel
theorem dX1_putNumber_19 : decode cX1_putNumber 19 = .ok (.aload_n 0, 1) := by decide +kernel
theorem dX1_putNumber_20 : decode cX1_putNumber 20 = .ok (.getfield 16, 3) := by decide +kernel
theorem dX1_putNumber_23 : decode cX1_putNumber 23 = .ok (.iload_n 1, 1) := by decide +kernel
theorem dX1_putNumber_24 : decode cX1_putNumber 24 = .ok (.iload_n 2, 1) := by decide +kernel
theorem dX1_putNumber_25 : decode cX1_putNumber 25 = .ok (.i2b, 1) := by decide +kernel
theorem dX1_putNumber_26 : decode cX1_putNumber 26 = .ok (.iastore, 1) := by decide +kernel
theorem dX1_putNumber_27 : decode cX1_putNumber 27 = .ok (.goto 24, 3) := by decide +kernel
theorem dX1_putNumber_30 : decode cX1_putNumber 30 = .ok (.aload_n 0, 1) := by decide +kernel
theorem dX1_putNumber_31 : decode cX1_putNumber 31 = .ok (.getfield 16, 3) := by decide +kernel
theorem dX1_putNumber_34 : decode cX1_putNumber 34 = .ok (.iload_n 1, 1) := by decide +kernel
theorem dX1_putNumber_35 : decode cX1_putNumber 35 = .ok (.aload_n 0, 1) := by decide +kernel
theorem dX1_putNumber_36 : decode cX1_putNumber 36 = .ok (.getfield 7, 3) := by decide +kernel
theorem dX1_putNumber_39 : decode cX1_putNumber 39 = .ok (.bipush 16, 2) := by decide +kernel
theorem dX1_putNumber_41 : decode cX1_putNumber 41 = .ok (.if_icmp .ne 8, 3) := by decide +kernel
theorem dX1_putNumber_44 : decode cX1_putNumber 44 = .ok (.iload_n 2, 1) := by decide +kernel
theorem dX1_putNumber_45 : decode cX1_putNumber 45 = .ok (.i2s, 1) := by decide +kernel
theorem dX1_putNumber_46 : decode cX1_putNumber 46 = .ok (.goto 4, 3) := by decide +kernel
theorem dX1_putNumber_49 : decode cX1_putNumber 49 = .ok (.iload_n 2, 1) := by decide +kernel
theorem dX1_putNumber_50 : decode cX1_putNumber 50 = .ok (.iastore, 1) := by decide +kernel
theorem dX1_putNumber_51 : decode cX1_putNumber 51 = .ok (.iconst 1, 1) := by decide +kernel
theorem dX1_putNumber_52 : decode cX1_putNumber 52 = .ok (.ireturn, 1) := by decide +kernel
theorem dX1_allows_0 : decode cX1_allows 0 = .ok (.aload_n 0, 1) := by decide +kernel
theorem dX1_allows_1 : decode cX1_allows 1 = .ok (.iload_n 1, 1) := by decide +kernel
theorem dX1_allows_2 : decode cX1_allows 2 = .ok (.invokevirtual 24, 3) := by decide +kernel
theorem dX1_allows_5 : decode cX1_allows 5 = .ok (.istore_n 3, 1) := by decide +kernel
theorem dX1_allows_6 : decode cX1_allows 6 = .ok (.iload_n 3, 1) := by decide +kernel
theorem dX1_allows_7 : decode cX1_allows 7 = .ok (.iconst (-1), 1) := by decide +kernel
theorem dX1_allows_8 : decode cX1_allows 8 = .ok (.if_icmp .eq 8, 3) := by decide +kernel
theorem dX1_allows_11 : decode cX1_allows 11 = .ok (.iload_n 3, 1) := by decide +kernel
theorem dX1_allows_12 : decode cX1_allows 12 = .ok (.iload_n 2, 1) := by decide +kernel
theorem dX1_allows_13 : decode cX1_allows 13 = .ok (.if_icmp .ne 7, 3) := by decide +kernel
theorem dX1_allows_16 : decode cX1_allows 16 = .ok (.iconst 1, 1) := by decide +kernel
theorem dX1_allows_17 : decode cX1_allows 17 = .ok (.goto 4, 3) := by decide +kernel
theorem dX1_allows_20 : decode cX1_allows 20 = .ok (.iconst 0, 1) := by decide +kernel
theorem dX1_allows_21 : decode cX1_allows 21 = .ok (.ireturn, 1) := by decide +kernel
theorem dX2_init_0 : decode cX2_init 0 = .ok (.aload_n 0, 1) := by decide +kernel
theorem dX2_init_1 : decode cX2_init 1 = .ok (.invokespecial 3, 3) := by decide +kernel
theorem dX2_init_4 : decode cX2_init 4 = .ok (.aload_n 0, 1) := by decide +kernel
theorem dX2_init_5 : decode cX2_init 5 = .ok (.iconst 0, 1) := by decide +kernel
theorem dX2_init_6 : decode cX2_init 6 = .ok (.invokevirtual 9, 3) := by decide +kernel
theorem dX2_init_9 : decode cX2_init 9 = .ok (.return_, 1) := by decide +kernel
theorem dX2_begin_0 : decode cX2_begin 0 = .ok (.aload_n 0, 1) := by decide +kernel
theorem dX2_begin_1 : decode cX2_begin 1 = .ok (.iload_n 1, 1) := by decide +kernel
theorem dX2_begin_2 : decode cX2_begin 2 = .ok (.putfield 15, 3) := by decide +kernel
theorem dX2_begin_5 : decode cX2_begin 5 = .ok (.aload_n 0, 1) := by decide +kernel
theorem dX2_begin_6 : decode cX2_begin 6 = .ok (.bipush 60, 2) := by decide +kernel
theorem dX2_begin_8 : decode cX2_begin 8 = .ok (.putfield 19, 3) := by decide +kernel
theorem dX2_begin_11 : decode cX2_begin 11 = .ok (.aload_n 0, 1) := by decide +kernel
theorem dX2_begin_12 : decode cX2_begin 12 = .ok (.iconst 5, 1) := by decide +kernel
theorem dX2_begin_13 : decode cX2_begin 13 = .ok (.putfield 22, 3) := by decide +kernel
theorem dX2_begin_16 : decode cX2_begin 16 = .ok (.aload_n 0, 1) := by decide +kernel
theorem dX2_begin_17 : decode cX2_begin 17 = .ok (.iconst 3, 1) := by decide +kernel
theorem dX2_begin_18 : decode cX2_begin 18 = .ok (.putfield 25, 3) := by decide +kernel
theorem dX2_begin_21 : decode cX2_begin 21 = .ok (.aload_n 0, 1) := by decide +kernel
theorem dX2_begin_22 : decode cX2_begin 22 = .ok (.bipush 20, 2) := by decide +kernel
theorem dX2_begin_24 : decode cX2_begin 24 = .ok (.putfield 28, 3) := by decide +kernel
theorem dX2_begin_27 : decode cX2_begin 27 = .ok (.aload_n 0, 1) := by decide +kernel
theorem dX2_begin_28 : decode cX2_begin 28 = .ok (.iconst 0, 1) := by decide +kernel
theorem dX2_begin_29 : decode cX2_begin 29 = .ok (.putfield 31, 3) := by decide +kernel
theorem dX2_begin_32 : decode cX2_begin 32 = .ok (.aload_n 0, 1) := by decide +kernel
theorem dX2_begin_33 : decode cX2_begin 33 = .ok (.iconst 0, 1) := by decide +kernel
theorem dX2_begin_34 : decode cX2_begin 34 = .ok (.putfield 34, 3) := by decide +kernel
theorem dX2_begin_37 : decode cX2_begin 37 = .ok (.return_, 1) := by decide +kernel
theorem dX2_become_0 : decode cX2_become 0 = .ok (.aload_n 0, 1) := by decide +kernel
theorem dX2_become_1 : decode cX2_become 1 = .ok (.aload_n 1, 1) := by decide +kernel
theorem dX2_become_2 : decode cX2_become 2 = .ok (.getfield 15, 3) := by decide +kernel
theorem dX2_become_5 : decode cX2_become 5 = .ok (.putfield 15, 3) := by decide +kernel
theorem dX2_become_8 : decode cX2_become 8 = .ok (.aload_n 0, 1) := by decide +kernel
theorem dX2_become_9 : decode cX2_become 9 = .ok (.aload_n 1, 1) := by decide +kernel
theorem dX2_become_10 : decode cX2_become 10 = .ok (.getfield 19, 3) := by decide +kernel
theorem dX2_become_13 : decode cX2_become 13 = .ok (.putfield 19, 3) := by decide +kernel
theorem dX2_become_16 : decode cX2_become 16 = .ok (.aload_n 0, 1) := by decide +kernel
theorem dX2_become_17 : decode cX2_become 17 = .ok (.aload_n 1, 1) := by decide +kernel
theorem dX2_become_18 : decode cX2_become 18 = .ok (.getfield 22, 3) := by decide +kernel
theorem dX2_become_21 : decode cX2_become 21 = .ok (.putfield 22, 3) := by decide +kernel
theorem dX2_become_24 : decode cX2_become 24 = .ok (.aload_n 0, 1) := by decide +kernel
theorem dX2_become_25 : decode cX2_become 25 = .ok (.aload_n 1, 1) := by decide +kernel
theorem dX2_become_26 : decode cX2_become 26 = .ok (.getfield 25, 3) := by decide +kernel
theorem dX2_become_29 : decode cX2_become 29 = .ok (.putfield 25, 3) := by decide +kernel
theorem dX2_become_32 : decode cX2_become 32 = .ok (.aload_n 0, 1) := by decide +kernel
theorem dX2_become_33 : decode cX2_become 33 = .ok (.aload_n 1, 1) := by decide +kernel
theorem dX2_become_34 : decode cX2_become 34 = .ok (.getfield 28, 3) := by decide +kernel
theorem dX2_become_37 : decode cX2_become 37 = .ok (.putfield 28, 3) := by decide +kernel
theorem dX2_become_40 : decode cX2_become 40 = .ok (.aload_n 0, 1) := by decide +kernel
theorem dX2_become_41 : decode cX2_become 41 = .ok (.aload_n 1, 1) := by decide +kernel
theorem dX2_become_42 : decode cX2_become 42 = .ok (.getfield 31, 3) := by decide +kernel
theorem dX2_become_45 : decode cX2_become 45 = .ok (.putfield 31, 3) := by decide +kernel
theorem dX2_become_48 : decode cX2_become 48 = .ok (.aload_n 0, 1) := by decide +kernel
theorem dX2_become_49 : decode cX2_become 49 = .ok (.aload_n 1, 1) := by decide +kernel
theorem dX2_become_50 : decode cX2_become 50 = .ok (.getfield 34, 3) := by decide +kernel
theorem dX2_become_53 : decode cX2_become 53 = .ok (.putfield 34, 3) := by decide +kernel
theorem dX2_become_56 : decode cX2_become 56 = .ok (.return_, 1) := by decide +kernel
theorem dX2_mostOf_0 : decode cX2_mostOf 0 = .ok (.iload_n 0, 1) := by decide +kernel
theorem dX2_mostOf_1 : decode cX2_mostOf 1 = .ok (.tableswitch 67 0 6 #[43, 46, 49, 52, 55, 59, 63], 43) := by decide +kernel
theorem dX2_mostOf_44 : decode cX2_mostOf 44 = .ok (.bipush 6, 2) := by decide +kernel
theorem dX2_mostOf_46 : decode cX2_mostOf 46 = .ok (.ireturn, 1) := by decide +kernel
theorem dX2_mostOf_47 : decode cX2_mostOf 47 = .ok (.bipush 90, 2) := by decide +kernel
theorem dX2_mostOf_49 : decode cX2_mostOf 49 = .ok (.ireturn, 1) := by decide +kernel
theorem dX2_mostOf_50 : decode cX2_mostOf 50 = .ok (.bipush 9, 2) := by decide +kernel
theorem dX2_mostOf_52 : decode cX2_mostOf 52 = .ok (.ireturn, 1) := by decide +kernel
theorem dX2_mostOf_53 : decode cX2_mostOf 53 = .ok (.bipush 9, 2) := by decide +kernel
theorem dX2_mostOf_55 : decode cX2_mostOf 55 = .ok (.ireturn, 1) := by decide +kernel
theorem dX2_mostOf_56 : decode cX2_mostOf 56 = .ok (.sipush 999, 3) := by decide +kernel
theorem dX2_mostOf_59 : decode cX2_mostOf 59 = .ok (.ireturn, 1) := by decide +kernel
theorem dX2_mostOf_60 : decode cX2_mostOf 60 = .ok (.sipush 999, 3) := by decide +kernel
theorem dX2_mostOf_63 : decode cX2_mostOf 63 = .ok (.ireturn, 1) := by decide +kernel
theorem dX2_mostOf_64 : decode cX2_mostOf 64 = .ok (.sipush 9999, 3) := by decide +kernel
theorem dX2_mostOf_67 : decode cX2_mostOf 67 = .ok (.ireturn, 1) := by decide +kernel
theorem dX2_mostOf_68 : decode cX2_mostOf 68 = .ok (.iconst (-1), 1) := by decide +kernel
theorem dX2_mostOf_69 : decode cX2_mostOf 69 = .ok (.ireturn, 1) := by decide +kernel
theorem dX2_part_0 : decode cX2_part 0 = .ok (.iload_n 1, 1) := by decide +kernel
theorem dX2_part_1 : decode cX2_part 1 = .ok (.tableswitch 78 0 6 #[43, 48, 53, 58, 63, 68, 73], 43) := by decide +kernel
theorem dX2_part_44 : decode cX2_part 44 = .ok (.aload_n 0, 1) := by decide +kernel
theorem dX2_part_45 : decode cX2_part 45 = .ok (.getfield 15, 3) := by decide +kernel
theorem dX2_part_48 : decode cX2_part 48 = .ok (.ireturn, 1) := by decide +kernel
theorem dX2_part_49 : decode cX2_part 49 = .ok (.aload_n 0, 1) := by decide +kernel
theorem dX2_part_50 : decode cX2_part 50 = .ok (.getfield 19, 3) := by decide +kernel
theorem dX2_part_53 : decode cX2_part 53 = .ok (.ireturn, 1) := by decide +kernel
theorem dX2_part_54 : decode cX2_part 54 = .ok (.aload_n 0, 1) := by decide +kernel
theorem dX2_part_55 : decode cX2_part 55 = .ok (.getfield 22, 3) := by decide +kernel
theorem dX2_part_58 : decode cX2_part 58 = .ok (.ireturn, 1) := by decide +kernel
theorem dX2_part_59 : decode cX2_part 59 = .ok (.aload_n 0, 1) := by decide +kernel
theorem dX2_part_60 : decode cX2_part 60 = .ok (.getfield 25, 3) := by decide +kernel
theorem dX2_part_63 : decode cX2_part 63 = .ok (.ireturn, 1) := by decide +kernel
theorem dX2_part_64 : decode cX2_part 64 = .ok (.aload_n 0, 1) := by decide +kernel
theorem dX2_part_65 : decode cX2_part 65 = .ok (.getfield 28, 3) := by decide +kernel
theorem dX2_part_68 : decode cX2_part 68 = .ok (.ireturn, 1) := by decide +kernel
theorem dX2_part_69 : decode cX2_part 69 = .ok (.aload_n 0, 1) := by decide +kernel
theorem dX2_part_70 : decode cX2_part 70 = .ok (.getfield 31, 3) := by decide +kernel
theorem dX2_part_73 : decode cX2_part 73 = .ok (.ireturn, 1) := by decide +kernel
theorem dX2_part_74 : decode cX2_part 74 = .ok (.aload_n 0, 1) := by decide +kernel
theorem dX2_part_75 : decode cX2_part 75 = .ok (.getfield 34, 3) := by decide +kernel
theorem dX2_part_78 : decode cX2_part 78 = .ok (.ireturn, 1) := by decide +kernel
theorem dX2_part_79 : decode cX2_part 79 = .ok (.iconst 0, 1) := by decide +kernel
theorem dX2_part_80 : decode cX2_part 80 = .ok (.ireturn, 1) := by decide +kernel
theorem dX2_putPart_0 : decode cX2_putPart 0 = .ok (.iload_n 1, 1) := by decide +kernel
theorem dX2_putPart_1 : decode cX2_putPart 1 = .ok (.tableswitch 99 0 6 #[43, 51, 59, 67, 75, 83, 91], 43) := by decide +kernel
theorem dX2_putPart_44 : decode cX2_putPart 44 = .ok (.aload_n 0, 1) := by decide +kernel
theorem dX2_putPart_45 : decode cX2_putPart 45 = .ok (.iload_n 2, 1) := by decide +kernel
theorem dX2_putPart_46 : decode cX2_putPart 46 = .ok (.putfield 15, 3) := by decide +kernel
theorem dX2_putPart_49 : decode cX2_putPart 49 = .ok (.goto 51, 3) := by decide +kernel
theorem dX2_putPart_52 : decode cX2_putPart 52 = .ok (.aload_n 0, 1) := by decide +kernel
theorem dX2_putPart_53 : decode cX2_putPart 53 = .ok (.iload_n 2, 1) := by decide +kernel
theorem dX2_putPart_54 : decode cX2_putPart 54 = .ok (.putfield 19, 3) := by decide +kernel
theorem dX2_putPart_57 : decode cX2_putPart 57 = .ok (.goto 43, 3) := by decide +kernel
theorem dX2_putPart_60 : decode cX2_putPart 60 = .ok (.aload_n 0, 1) := by decide +kernel
theorem dX2_putPart_61 : decode cX2_putPart 61 = .ok (.iload_n 2, 1) := by decide +kernel
theorem dX2_putPart_62 : decode cX2_putPart 62 = .ok (.putfield 22, 3) := by decide +kernel
theorem dX2_putPart_65 : decode cX2_putPart 65 = .ok (.goto 35, 3) := by decide +kernel
theorem dX2_putPart_68 : decode cX2_putPart 68 = .ok (.aload_n 0, 1) := by decide +kernel
theorem dX2_putPart_69 : decode cX2_putPart 69 = .ok (.iload_n 2, 1) := by decide +kernel
theorem dX2_putPart_70 : decode cX2_putPart 70 = .ok (.putfield 25, 3) := by decide +kernel
theorem dX2_putPart_73 : decode cX2_putPart 73 = .ok (.goto 27, 3) := by decide +kernel
theorem dX2_putPart_76 : decode cX2_putPart 76 = .ok (.aload_n 0, 1) := by decide +kernel
theorem dX2_putPart_77 : decode cX2_putPart 77 = .ok (.iload_n 2, 1) := by decide +kernel
theorem dX2_putPart_78 : decode cX2_putPart 78 = .ok (.putfield 28, 3) := by decide +kernel
theorem dX2_putPart_81 : decode cX2_putPart 81 = .ok (.goto 19, 3) := by decide +kernel
theorem dX2_putPart_84 : decode cX2_putPart 84 = .ok (.aload_n 0, 1) := by decide +kernel
theorem dX2_putPart_85 : decode cX2_putPart 85 = .ok (.iload_n 2, 1) := by decide +kernel
theorem dX2_putPart_86 : decode cX2_putPart 86 = .ok (.putfield 31, 3) := by decide +kernel
theorem dX2_putPart_89 : decode cX2_putPart 89 = .ok (.goto 11, 3) := by decide +kernel
theorem dX2_putPart_92 : decode cX2_putPart 92 = .ok (.aload_n 0, 1) := by decide +kernel
theorem dX2_putPart_93 : decode cX2_putPart 93 = .ok (.iload_n 2, 1) := by decide +kernel
theorem dX2_putPart_94 : decode cX2_putPart 94 = .ok (.putfield 34, 3) := by decide +kernel
theorem dX2_putPart_97 : decode cX2_putPart 97 = .ok (.goto 3, 3) := by decide +kernel
theorem dX2_putPart_100 : decode cX2_putPart 100 = .ok (.return_, 1) := by decide +kernel
theorem dX2_kindAbove_0 : decode cX2_kindAbove 0 = .ok (.iload_n 0, 1) := by decide +kernel
theorem dX2_kindAbove_1 : decode cX2_kindAbove 1 = .ok (.tableswitch 47 1 6 #[39, 39, 41, 43, 39, 45], 39) := by decide +kernel
theorem dX2_kindAbove_40 : decode cX2_kindAbove 40 = .ok (.iconst 0, 1) := by decide +kernel
theorem dX2_kindAbove_41 : decode cX2_kindAbove 41 = .ok (.ireturn, 1) := by decide +kernel
theorem dX2_kindAbove_42 : decode cX2_kindAbove 42 = .ok (.iconst 2, 1) := by decide +kernel
theorem dX2_kindAbove_43 : decode cX2_kindAbove 43 = .ok (.ireturn, 1) := by decide +kernel
theorem dX2_kindAbove_44 : decode cX2_kindAbove 44 = .ok (.iconst 3, 1) := by decide +kernel
theorem dX2_kindAbove_45 : decode cX2_kindAbove 45 = .ok (.ireturn, 1) := by decide +kernel
theorem dX2_kindAbove_46 : decode cX2_kindAbove 46 = .ok (.iconst 1, 1) := by decide +kernel
theorem dX2_kindAbove_47 : decode cX2_kindAbove 47 = .ok (.ireturn, 1) := by decide +kernel
theorem dX2_kindAbove_48 : decode cX2_kindAbove 48 = .ok (.iconst (-1), 1) := by decide +kernel
theorem dX2_kindAbove_49 : decode cX2_kindAbove 49 = .ok (.ireturn, 1) := by decide +kernel
theorem dX2_isOfOrUnder_0 : decode cX2_isOfOrUnder 0 = .ok (.iload_n 0, 1) := by decide +kernel
theorem dX2_isOfOrUnder_1 : decode cX2_isOfOrUnder 1 = .ok (.istore_n 2, 1) := by decide +kernel
theorem dX2_isOfOrUnder_2 : decode cX2_isOfOrUnder 2 = .ok (.iconst 0, 1) := by decide +kernel
theorem dX2_isOfOrUnder_3 : decode cX2_isOfOrUnder 3 = .ok (.istore_n 3, 1) := by decide +kernel
theorem dX2_isOfOrUnder_4 : decode cX2_isOfOrUnder 4 = .ok (.iload_n 3, 1) := by decide +kernel
theorem dX2_isOfOrUnder_5 : decode cX2_isOfOrUnder 5 = .ok (.bipush 6, 2) := by decide +kernel
theorem dX2_isOfOrUnder_7 : decode cX2_isOfOrUnder 7 = .ok (.if_icmp .gt 25, 3) := by decide +kernel
theorem dX2_isOfOrUnder_10 : decode cX2_isOfOrUnder 10 = .ok (.iload_n 2, 1) := by decide +kernel
theorem dX2_isOfOrUnder_11 : decode cX2_isOfOrUnder 11 = .ok (.ifCond .lt 21, 3) := by decide +kernel
theorem dX2_isOfOrUnder_14 : decode cX2_isOfOrUnder 14 = .ok (.iload_n 2, 1) := by decide +kernel
theorem dX2_isOfOrUnder_15 : decode cX2_isOfOrUnder 15 = .ok (.iload_n 1, 1) := by decide +kernel
theorem dX2_isOfOrUnder_16 : decode cX2_isOfOrUnder 16 = .ok (.if_icmp .ne 5, 3) := by decide +kernel
theorem dX2_isOfOrUnder_19 : decode cX2_isOfOrUnder 19 = .ok (.iconst 1, 1) := by decide +kernel
theorem dX2_isOfOrUnder_20 : decode cX2_isOfOrUnder 20 = .ok (.ireturn, 1) := by decide +kernel
theorem dX2_isOfOrUnder_21 : decode cX2_isOfOrUnder 21 = .ok (.iload_n 2, 1) := by decide +kernel
theorem dX2_isOfOrUnder_22 : decode cX2_isOfOrUnder 22 = .ok (.invokestatic 37, 3) := by decide +kernel
theorem dX2_isOfOrUnder_25 : decode cX2_isOfOrUnder 25 = .ok (.istore_n 2, 1) := by decide +kernel
theorem dX2_isOfOrUnder_26 : decode cX2_isOfOrUnder 26 = .ok (.iinc 3 1, 3) := by decide +kernel
theorem dX2_isOfOrUnder_29 : decode cX2_isOfOrUnder 29 = .ok (.goto (-25), 3) := by decide +kernel
theorem dX2_isOfOrUnder_32 : decode cX2_isOfOrUnder 32 = .ok (.iconst 0, 1) := by decide +kernel
theorem dX2_isOfOrUnder_33 : decode cX2_isOfOrUnder 33 = .ok (.ireturn, 1) := by decide +kernel
theorem dX2_off_0 : decode cX2_off 0 = .ok (.aload_n 0, 1) := by decide +kernel
theorem dX2_off_1 : decode cX2_off 1 = .ok (.getfield 19, 3) := by decide +kernel
theorem dX2_off_4 : decode cX2_off 4 = .ok (.iload_n 1, 1) := by decide +kernel
theorem dX2_off_5 : decode cX2_off 5 = .ok (.iadd, 1) := by decide +kernel
theorem dX2_off_6 : decode cX2_off 6 = .ok (.bipush 80, 2) := by decide +kernel
theorem dX2_off_8 : decode cX2_off 8 = .ok (.isub, 1) := by decide +kernel
theorem dX2_off_9 : decode cX2_off 9 = .ok (.invokestatic 41, 3) := by decide +kernel
theorem dX2_off_12 : decode cX2_off 12 = .ok (.ireturn, 1) := by decide +kernel
theorem dX2_mayBeOff_0 : decode cX2_mayBeOff 0 = .ok (.aload_n 0, 1) := by decide +kernel
theorem dX2_mayBeOff_1 : decode cX2_mayBeOff 1 = .ok (.getfield 15, 3) := by decide +kernel
theorem dX2_mayBeOff_4 : decode cX2_mayBeOff 4 = .ok (.tableswitch 56 1 6 #[40, 56, 45, 47, 56, 42], 40) := by decide +kernel
theorem dX2_mayBeOff_44 : decode cX2_mayBeOff 44 = .ok (.iconst 5, 1) := by decide +kernel
theorem dX2_mayBeOff_45 : decode cX2_mayBeOff 45 = .ok (.ireturn, 1) := by decide +kernel
theorem dX2_mayBeOff_46 : decode cX2_mayBeOff 46 = .ok (.bipush 10, 2) := by decide +kernel
theorem dX2_mayBeOff_48 : decode cX2_mayBeOff 48 = .ok (.ireturn, 1) := by decide +kernel
theorem dX2_mayBeOff_49 : decode cX2_mayBeOff 49 = .ok (.iconst 1, 1) := by decide +kernel
theorem dX2_mayBeOff_50 : decode cX2_mayBeOff 50 = .ok (.ireturn, 1) := by decide +kernel
theorem dX2_mayBeOff_51 : decode cX2_mayBeOff 51 = .ok (.iconst 1, 1) := by decide +kernel
theorem dX2_mayBeOff_52 : decode cX2_mayBeOff 52 = .ok (.aload_n 0, 1) := by decide +kernel
theorem dX2_mayBeOff_53 : decode cX2_mayBeOff 53 = .ok (.getfield 22, 3) := by decide +kernel
theorem dX2_mayBeOff_56 : decode cX2_mayBeOff 56 = .ok (.iconst 3, 1) := by decide +kernel
theorem dX2_mayBeOff_57 : decode cX2_mayBeOff 57 = .ok (.idiv, 1) := by decide +kernel
theorem dX2_mayBeOff_58 : decode cX2_mayBeOff 58 = .ok (.iadd, 1) := by decide +kernel
theorem dX2_mayBeOff_59 : decode cX2_mayBeOff 59 = .ok (.ireturn, 1) := by decide +kernel
theorem dX2_mayBeOff_60 : decode cX2_mayBeOff 60 = .ok (.iconst 2, 1) := by decide +kernel
theorem dX2_mayBeOff_61 : decode cX2_mayBeOff 61 = .ok (.ireturn, 1) := by decide +kernel
theorem dX2_isShut_0 : decode cX2_isShut 0 = .ok (.iload_n 2, 1) := by decide +kernel
theorem dX2_isShut_1 : decode cX2_isShut 1 = .ok (.iload_n 1, 1) := by decide +kernel
theorem dX2_isShut_2 : decode cX2_isShut 2 = .ok (.iadd, 1) := by decide +kernel
theorem dX2_isShut_3 : decode cX2_isShut 3 = .ok (.aload_n 0, 1) := by decide +kernel
theorem dX2_isShut_4 : decode cX2_isShut 4 = .ok (.getfield 22, 3) := by decide +kernel
theorem dX2_isShut_7 : decode cX2_isShut 7 = .ok (.iadd, 1) := by decide +kernel
theorem dX2_isShut_8 : decode cX2_isShut 8 = .ok (.iconst 4, 1) := by decide +kernel
theorem dX2_isShut_9 : decode cX2_isShut 9 = .ok (.irem, 1) := by decide +kernel
theorem dX2_isShut_10 : decode cX2_isShut 10 = .ok (.ifCond .ne 7, 3) := by decide +kernel
theorem dX2_isShut_13 : decode cX2_isShut 13 = .ok (.iconst 1, 1) := by decide +kernel
theorem dX2_isShut_14 : decode cX2_isShut 14 = .ok (.goto 4, 3) := by decide +kernel
theorem dX2_isShut_17 : decode cX2_isShut 17 = .ok (.iconst 0, 1) := by decide +kernel
theorem dX2_isShut_18 : decode cX2_isShut 18 = .ok (.istore 4, 2) := by decide +kernel
theorem dX2_isShut_20 : decode cX2_isShut 20 = .ok (.iload_n 2, 1) := by decide +kernel
theorem dX2_isShut_21 : decode cX2_isShut 21 = .ok (.iload_n 1, 1) := by decide +kernel
theorem dX2_isShut_22 : decode cX2_isShut 22 = .ok (.iadd, 1) := by decide +kernel
theorem dX2_isShut_23 : decode cX2_isShut 23 = .ok (.iconst 3, 1) := by decide +kernel
theorem dX2_isShut_24 : decode cX2_isShut 24 = .ok (.irem, 1) := by decide +kernel
theorem dX2_isShut_25 : decode cX2_isShut 25 = .ok (.ifCond .ne 7, 3) := by decide +kernel
theorem dX2_isShut_28 : decode cX2_isShut 28 = .ok (.iconst 1, 1) := by decide +kernel
theorem dX2_isShut_29 : decode cX2_isShut 29 = .ok (.goto 4, 3) := by decide +kernel
theorem dX2_isShut_32 : decode cX2_isShut 32 = .ok (.iconst 0, 1) := by decide +kernel
theorem dX2_isShut_33 : decode cX2_isShut 33 = .ok (.istore 5, 2) := by decide +kernel
theorem dX2_isShut_35 : decode cX2_isShut 35 = .ok (.aload_n 0, 1) := by decide +kernel
theorem dX2_isShut_36 : decode cX2_isShut 36 = .ok (.getfield 15, 3) := by decide +kernel
theorem dX2_isShut_39 : decode cX2_isShut 39 = .ok (.tableswitch 85 1 6 #[37, 85, 66, 69, 85, 54], 37) := by decide +kernel
theorem dX2_isShut_76 : decode cX2_isShut 76 = .ok (.iload 4, 2) := by decide +kernel
theorem dX2_isShut_78 : decode cX2_isShut 78 = .ok (.ifCond .ne 9, 3) := by decide +kernel
theorem dX2_isShut_81 : decode cX2_isShut 81 = .ok (.iload_n 3, 1) := by decide +kernel
theorem dX2_isShut_82 : decode cX2_isShut 82 = .ok (.bipush 8, 2) := by decide +kernel
theorem dX2_isShut_84 : decode cX2_isShut 84 = .ok (.if_icmp .lt 7, 3) := by decide +kernel
theorem dX2_isShut_87 : decode cX2_isShut 87 = .ok (.iconst 1, 1) := by decide +kernel
theorem dX2_isShut_88 : decode cX2_isShut 88 = .ok (.goto 4, 3) := by decide +kernel
theorem dX2_isShut_91 : decode cX2_isShut 91 = .ok (.iconst 0, 1) := by decide +kernel
theorem dX2_isShut_92 : decode cX2_isShut 92 = .ok (.ireturn, 1) := by decide +kernel
theorem dX2_isShut_93 : decode cX2_isShut 93 = .ok (.iload_n 1, 1) := by decide +kernel
theorem dX2_isShut_94 : decode cX2_isShut 94 = .ok (.iconst 2, 1) := by decide +kernel
theorem dX2_isShut_95 : decode cX2_isShut 95 = .ok (.irem, 1) := by decide +kernel
theorem dX2_isShut_96 : decode cX2_isShut 96 = .ok (.ifCond .ne 7, 3) := by decide +kernel
theorem dX2_isShut_99 : decode cX2_isShut 99 = .ok (.iconst 1, 1) := by decide +kernel
theorem dX2_isShut_100 : decode cX2_isShut 100 = .ok (.goto 4, 3) := by decide +kernel
theorem dX2_isShut_103 : decode cX2_isShut 103 = .ok (.iconst 0, 1) := by decide +kernel
theorem dX2_isShut_104 : decode cX2_isShut 104 = .ok (.ireturn, 1) := by decide +kernel
theorem dX2_isShut_105 : decode cX2_isShut 105 = .ok (.iload 5, 2) := by decide +kernel
theorem dX2_isShut_107 : decode cX2_isShut 107 = .ok (.ireturn, 1) := by decide +kernel
theorem dX2_isShut_108 : decode cX2_isShut 108 = .ok (.iload 5, 2) := by decide +kernel
theorem dX2_isShut_110 : decode cX2_isShut 110 = .ok (.ifCond .eq 12, 3) := by decide +kernel
theorem dX2_isShut_113 : decode cX2_isShut 113 = .ok (.iload_n 3, 1) := by decide +kernel
theorem dX2_isShut_114 : decode cX2_isShut 114 = .ok (.iconst 4, 1) := by decide +kernel
theorem dX2_isShut_115 : decode cX2_isShut 115 = .ok (.if_icmp .lt 7, 3) := by decide +kernel
theorem dX2_isShut_118 : decode cX2_isShut 118 = .ok (.iconst 1, 1) := by decide +kernel
theorem dX2_isShut_119 : decode cX2_isShut 119 = .ok (.goto 4, 3) := by decide +kernel
theorem dX2_isShut_122 : decode cX2_isShut 122 = .ok (.iconst 0, 1) := by decide +kernel
theorem dX2_isShut_123 : decode cX2_isShut 123 = .ok (.ireturn, 1) := by decide +kernel
theorem dX2_isShut_124 : decode cX2_isShut 124 = .ok (.iload 4, 2) := by decide +kernel
theorem dX2_isShut_126 : decode cX2_isShut 126 = .ok (.ireturn, 1) := by decide +kernel
theorem dX2_isSmiling_0 : decode cX2_isSmiling 0 = .ok (.aload_n 0, 1) := by decide +kernel
theorem dX2_isSmiling_1 : decode cX2_isSmiling 1 = .ok (.getfield 25, 3) := by decide +kernel
theorem dX2_isSmiling_4 : decode cX2_isSmiling 4 = .ok (.iconst 5, 1) := by decide +kernel
theorem dX2_isSmiling_5 : decode cX2_isSmiling 5 = .ok (.if_icmp .gt 16, 3) := by decide +kernel
theorem dX2_isSmiling_8 : decode cX2_isSmiling 8 = .ok (.iload_n 1, 1) := by decide +kernel
theorem dX2_isSmiling_9 : decode cX2_isSmiling 9 = .ok (.iconst 3, 1) := by decide +kernel
theorem dX2_isSmiling_10 : decode cX2_isSmiling 10 = .ok (.if_icmp .ne 15, 3) := by decide +kernel
theorem dX2_isSmiling_13 : decode cX2_isSmiling 13 = .ok (.aload_n 0, 1) := by decide +kernel
theorem dX2_isSmiling_14 : decode cX2_isSmiling 14 = .ok (.getfield 25, 3) := by decide +kernel
theorem dX2_isSmiling_17 : decode cX2_isSmiling 17 = .ok (.iconst 2, 1) := by decide +kernel
theorem dX2_isSmiling_18 : decode cX2_isSmiling 18 = .ok (.if_icmp .le 7, 3) := by decide +kernel
theorem dX2_isSmiling_21 : decode cX2_isSmiling 21 = .ok (.iconst 1, 1) := by decide +kernel
theorem dX2_isSmiling_22 : decode cX2_isSmiling 22 = .ok (.goto 4, 3) := by decide +kernel
theorem dX2_isSmiling_25 : decode cX2_isSmiling 25 = .ok (.iconst 0, 1) := by decide +kernel
theorem dX2_isSmiling_26 : decode cX2_isSmiling 26 = .ok (.istore_n 2, 1) := by decide +kernel
theorem dX2_isSmiling_27 : decode cX2_isSmiling 27 = .ok (.aload_n 0, 1) := by decide +kernel
theorem dX2_isSmiling_28 : decode cX2_isSmiling 28 = .ok (.getfield 15, 3) := by decide +kernel
theorem dX2_isSmiling_31 : decode cX2_isSmiling 31 = .ok (.tableswitch 69 1 6 #[37, 69, 53, 53, 55, 53], 37) := by decide +kernel
theorem dX2_isSmiling_68 : decode cX2_isSmiling 68 = .ok (.aload_n 0, 1) := by decide +kernel
theorem dX2_isSmiling_69 : decode cX2_isSmiling 69 = .ok (.getfield 25, 3) := by decide +kernel
theorem dX2_isSmiling_72 : decode cX2_isSmiling 72 = .ok (.iload_n 1, 1) := by decide +kernel
theorem dX2_isSmiling_73 : decode cX2_isSmiling 73 = .ok (.iadd, 1) := by decide +kernel
theorem dX2_isSmiling_74 : decode cX2_isSmiling 74 = .ok (.iconst 4, 1) := by decide +kernel
theorem dX2_isSmiling_75 : decode cX2_isSmiling 75 = .ok (.if_icmp .le 7, 3) := by decide +kernel
theorem dX2_isSmiling_78 : decode cX2_isSmiling 78 = .ok (.iconst 1, 1) := by decide +kernel
theorem dX2_isSmiling_79 : decode cX2_isSmiling 79 = .ok (.goto 4, 3) := by decide +kernel
theorem dX2_isSmiling_82 : decode cX2_isSmiling 82 = .ok (.iconst 0, 1) := by decide +kernel
theorem dX2_isSmiling_83 : decode cX2_isSmiling 83 = .ok (.ireturn, 1) := by decide +kernel
theorem dX2_isSmiling_84 : decode cX2_isSmiling 84 = .ok (.iconst 0, 1) := by decide +kernel
theorem dX2_isSmiling_85 : decode cX2_isSmiling 85 = .ok (.ireturn, 1) := by decide +kernel
theorem dX2_isSmiling_86 : decode cX2_isSmiling 86 = .ok (.iload_n 2, 1) := by decide +kernel
theorem dX2_isSmiling_87 : decode cX2_isSmiling 87 = .ok (.ifCond .eq 11, 3) := by decide +kernel
theorem dX2_isSmiling_90 : decode cX2_isSmiling 90 = .ok (.iload_n 1, 1) := by decide +kernel
theorem dX2_isSmiling_91 : decode cX2_isSmiling 91 = .ok (.ifCond .eq 7, 3) := by decide +kernel
theorem dX2_isSmiling_94 : decode cX2_isSmiling 94 = .ok (.iconst 1, 1) := by decide +kernel
theorem dX2_isSmiling_95 : decode cX2_isSmiling 95 = .ok (.goto 4, 3) := by decide +kernel
theorem dX2_isSmiling_98 : decode cX2_isSmiling 98 = .ok (.iconst 0, 1) := by decide +kernel
theorem dX2_isSmiling_99 : decode cX2_isSmiling 99 = .ok (.ireturn, 1) := by decide +kernel
theorem dX2_isSmiling_100 : decode cX2_isSmiling 100 = .ok (.iload_n 2, 1) := by decide +kernel
theorem dX2_isSmiling_101 : decode cX2_isSmiling 101 = .ok (.ireturn, 1) := by decide +kernel
theorem dX2_isShining_0 : decode cX2_isShining 0 = .ok (.aload_n 0, 1) := by decide +kernel
theorem dX2_isShining_1 : decode cX2_isShining 1 = .ok (.getfield 15, 3) := by decide +kernel
theorem dX2_isShining_4 : decode cX2_isShining 4 = .ok (.tableswitch 51 2 4 #[28, 28, 40], 28) := by decide +kernel
theorem dX2_isShining_32 : decode cX2_isShining 32 = .ok (.iload_n 1, 1) := by decide +kernel
theorem dX2_isShining_33 : decode cX2_isShining 33 = .ok (.bipush 6, 2) := by decide +kernel
theorem dX2_isShining_35 : decode cX2_isShining 35 = .ok (.if_icmp .le 7, 3) := by decide +kernel
theorem dX2_isShining_38 : decode cX2_isShining 38 = .ok (.iconst 1, 1) := by decide +kernel
theorem dX2_isShining_39 : decode cX2_isShining 39 = .ok (.goto 4, 3) := by decide +kernel
theorem dX2_isShining_42 : decode cX2_isShining 42 = .ok (.iconst 0, 1) := by decide +kernel
theorem dX2_isShining_43 : decode cX2_isShining 43 = .ok (.ireturn, 1) := by decide +kernel
theorem dX2_isShining_44 : decode cX2_isShining 44 = .ok (.iload_n 1, 1) := by decide +kernel
theorem dX2_isShining_45 : decode cX2_isShining 45 = .ok (.iconst 5, 1) := by decide +kernel
theorem dX2_isShining_46 : decode cX2_isShining 46 = .ok (.if_icmp .le 7, 3) := by decide +kernel
theorem dX2_isShining_49 : decode cX2_isShining 49 = .ok (.iconst 1, 1) := by decide +kernel
theorem dX2_isShining_50 : decode cX2_isShining 50 = .ok (.goto 4, 3) := by decide +kernel
theorem dX2_isShining_53 : decode cX2_isShining 53 = .ok (.iconst 0, 1) := by decide +kernel
theorem dX2_isShining_54 : decode cX2_isShining 54 = .ok (.ireturn, 1) := by decide +kernel
theorem dX2_isShining_55 : decode cX2_isShining 55 = .ok (.iconst 0, 1) := by decide +kernel
theorem dX2_isShining_56 : decode cX2_isShining 56 = .ok (.ireturn, 1) := by decide +kernel
theorem dX3_init_0 : decode cX3_init 0 = .ok (.aload_n 0, 1) := by decide +kernel
theorem dX3_init_1 : decode cX3_init 1 = .ok (.invokespecial 3, 3) := by decide +kernel
theorem dX3_init_4 : decode cX3_init 4 = .ok (.aload_n 0, 1) := by decide +kernel
theorem dX3_init_5 : decode cX3_init 5 = .ok (.bipush 120, 2) := by decide +kernel
theorem dX3_init_7 : decode cX3_init 7 = .ok (.newarray .int, 2) := by decide +kernel
theorem dX3_init_9 : decode cX3_init 9 = .ok (.putfield 11, 3) := by decide +kernel
theorem dX3_init_12 : decode cX3_init 12 = .ok (.aload_n 0, 1) := by decide +kernel
theorem dX3_init_13 : decode cX3_init 13 = .ok (.iconst 0, 1) := by decide +kernel
theorem dX3_init_14 : decode cX3_init 14 = .ok (.putfield 15, 3) := by decide +kernel
theorem dX3_init_17 : decode cX3_init 17 = .ok (.aload_n 0, 1) := by decide +kernel
theorem dX3_init_18 : decode cX3_init 18 = .ok (.iconst 0, 1) := by decide +kernel
theorem dX3_init_19 : decode cX3_init 19 = .ok (.putfield 19, 3) := by decide +kernel
theorem dX3_init_22 : decode cX3_init 22 = .ok (.aload_n 0, 1) := by decide +kernel
theorem dX3_init_23 : decode cX3_init 23 = .ok (.iconst 0, 1) := by decide +kernel
theorem dX3_init_24 : decode cX3_init 24 = .ok (.putfield 22, 3) := by decide +kernel
theorem dX3_init_27 : decode cX3_init 27 = .ok (.aload_n 0, 1) := by decide +kernel
theorem dX3_init_28 : decode cX3_init 28 = .ok (.iconst 0, 1) := by decide +kernel
theorem dX3_init_29 : decode cX3_init 29 = .ok (.putfield 25, 3) := by decide +kernel
theorem dX3_init_32 : decode cX3_init 32 = .ok (.aload_n 0, 1) := by decide +kernel
theorem dX3_init_33 : decode cX3_init 33 = .ok (.iconst 0, 1) := by decide +kernel
theorem dX3_init_34 : decode cX3_init 34 = .ok (.putfield 28, 3) := by decide +kernel
theorem dX3_init_37 : decode cX3_init 37 = .ok (.return_, 1) := by decide +kernel
theorem dX3_hasRoomFor_0 : decode cX3_hasRoomFor 0 = .ok (.aload_n 0, 1) := by decide +kernel
theorem dX3_hasRoomFor_1 : decode cX3_hasRoomFor 1 = .ok (.getfield 15, 3) := by decide +kernel
theorem dX3_hasRoomFor_4 : decode cX3_hasRoomFor 4 = .ok (.iload_n 1, 1) := by decide +kernel
theorem dX3_hasRoomFor_5 : decode cX3_hasRoomFor 5 = .ok (.iadd, 1) := by decide +kernel
theorem dX3_hasRoomFor_6 : decode cX3_hasRoomFor 6 = .ok (.bipush 120, 2) := by decide +kernel
theorem dX3_hasRoomFor_8 : decode cX3_hasRoomFor 8 = .ok (.if_icmp .gt 7, 3) := by decide +kernel
theorem dX3_hasRoomFor_11 : decode cX3_hasRoomFor 11 = .ok (.iconst 1, 1) := by decide +kernel
theorem dX3_hasRoomFor_12 : decode cX3_hasRoomFor 12 = .ok (.goto 4, 3) := by decide +kernel
theorem dX3_hasRoomFor_15 : decode cX3_hasRoomFor 15 = .ok (.iconst 0, 1) := by decide +kernel
theorem dX3_hasRoomFor_16 : decode cX3_hasRoomFor 16 = .ok (.ireturn, 1) := by decide +kernel
theorem dX3_append_0 : decode cX3_append 0 = .ok (.aload_n 0, 1) := by decide +kernel
theorem dX3_append_1 : decode cX3_append 1 = .ok (.getfield 15, 3) := by decide +kernel
theorem dX3_append_4 : decode cX3_append 4 = .ok (.ifCond .lt 32, 3) := by decide +kernel
theorem dX3_append_7 : decode cX3_append 7 = .ok (.aload_n 0, 1) := by decide +kernel
theorem dX3_append_8 : decode cX3_append 8 = .ok (.getfield 15, 3) := by decide +kernel
theorem dX3_append_11 : decode cX3_append 11 = .ok (.bipush 120, 2) := by decide +kernel
theorem dX3_append_13 : decode cX3_append 13 = .ok (.if_icmp .ge 23, 3) := by decide +kernel
theorem dX3_append_16 : decode cX3_append 16 = .ok (.aload_n 0, 1) := by decide +kernel
theorem dX3_append_17 : decode cX3_append 17 = .ok (.getfield 11, 3) := by decide +kernel
theorem dX3_append_20 : decode cX3_append 20 = .ok (.aload_n 0, 1) := by decide +kernel
theorem dX3_append_21 : decode cX3_append 21 = .ok (.getfield 15, 3) := by decide +kernel
theorem dX3_append_24 : decode cX3_append 24 = .ok (.iload_n 1, 1) := by decide +kernel
theorem dX3_append_25 : decode cX3_append 25 = .ok (.iastore, 1) := by decide +kernel
theorem dX3_append_26 : decode cX3_append 26 = .ok (.aload_n 0, 1) := by decide +kernel
theorem dX3_append_27 : decode cX3_append 27 = .ok (.dup, 1) := by decide +kernel
theorem dX3_append_28 : decode cX3_append 28 = .ok (.getfield 15, 3) := by decide +kernel
theorem dX3_append_31 : decode cX3_append 31 = .ok (.iconst 1, 1) := by decide +kernel
theorem dX3_append_32 : decode cX3_append 32 = .ok (.iadd, 1) := by decide +kernel
theorem dX3_append_33 : decode cX3_append 33 = .ok (.putfield 15, 3) := by decide +kernel
theorem dX3_append_36 : decode cX3_append 36 = .ok (.return_, 1) := by decide +kernel
theorem dX3_readInto_0 : decode cX3_readInto 0 = .ok (.aload_n 0, 1) := by decide +kernel
theorem dX3_readInto_1 : decode cX3_readInto 1 = .ok (.iconst 0, 1) := by decide +kernel
theorem dX3_readInto_2 : decode cX3_readInto 2 = .ok (.putfield 22, 3) := by decide +kernel
theorem dX3_readInto_5 : decode cX3_readInto 5 = .ok (.aload_n 0, 1) := by decide +kernel
theorem dX3_readInto_6 : decode cX3_readInto 6 = .ok (.invokevirtual 31, 3) := by decide +kernel
theorem dX3_readInto_9 : decode cX3_readInto 9 = .ok (.iconst 0, 1) := by decide +kernel
theorem dX3_readInto_10 : decode cX3_readInto 10 = .ok (.istore_n 2, 1) := by decide +kernel
theorem dX3_readInto_11 : decode cX3_readInto 11 = .ok (.iload_n 2, 1) := by decide +kernel
theorem dX3_readInto_12 : decode cX3_readInto 12 = .ok (.bipush 120, 2) := by decide +kernel
theorem dX3_readInto_14 : decode cX3_readInto 14 = .ok (.if_icmp .ge 41, 3) := by decide +kernel
theorem dX3_readInto_17 : decode cX3_readInto 17 = .ok (.aload_n 0, 1) := by decide +kernel
theorem dX3_readInto_18 : decode cX3_readInto 18 = .ok (.aload_n 1, 1) := by decide +kernel
theorem dX3_readInto_19 : decode cX3_readInto 19 = .ok (.invokevirtual 34, 3) := by decide +kernel
theorem dX3_readInto_22 : decode cX3_readInto 22 = .ok (.ifCond .eq 33, 3) := by decide +kernel
theorem dX3_readInto_25 : decode cX3_readInto 25 = .ok (.iinc 2 1, 3) := by decide +kernel
theorem dX3_readInto_28 : decode cX3_readInto 28 = .ok (.aload_n 0, 1) := by decide +kernel
theorem dX3_readInto_29 : decode cX3_readInto 29 = .ok (.getfield 25, 3) := by decide +kernel
theorem dX3_readInto_32 : decode cX3_readInto 32 = .ok (.ifCond .ne 5, 3) := by decide +kernel
theorem dX3_readInto_35 : decode cX3_readInto 35 = .ok (.iload_n 2, 1) := by decide +kernel
theorem dX3_readInto_36 : decode cX3_readInto 36 = .ok (.ireturn, 1) := by decide +kernel
theorem dX3_readInto_37 : decode cX3_readInto 37 = .ok (.aload_n 0, 1) := by decide +kernel
theorem dX3_readInto_38 : decode cX3_readInto 38 = .ok (.getfield 25, 3) := by decide +kernel
theorem dX3_readInto_41 : decode cX3_readInto 41 = .ok (.iconst 3, 1) := by decide +kernel
theorem dX3_readInto_42 : decode cX3_readInto 42 = .ok (.if_icmp .eq 6, 3) := by decide +kernel
theorem dX3_readInto_45 : decode cX3_readInto 45 = .ok (.goto 10, 3) := by decide +kernel
theorem dX3_readInto_48 : decode cX3_readInto 48 = .ok (.aload_n 0, 1) := by decide +kernel
theorem dX3_readInto_49 : decode cX3_readInto 49 = .ok (.invokevirtual 31, 3) := by decide +kernel
theorem dX3_readInto_52 : decode cX3_readInto 52 = .ok (.goto (-41), 3) := by decide +kernel
theorem dX3_readInto_55 : decode cX3_readInto 55 = .ok (.iconst (-1), 1) := by decide +kernel
theorem dX3_readInto_56 : decode cX3_readInto 56 = .ok (.aload_n 0, 1) := by decide +kernel
theorem dX3_readInto_57 : decode cX3_readInto 57 = .ok (.getfield 19, 3) := by decide +kernel
theorem dX3_readInto_60 : decode cX3_readInto 60 = .ok (.isub, 1) := by decide +kernel
theorem dX3_readInto_61 : decode cX3_readInto 61 = .ok (.ireturn, 1) := by decide +kernel
theorem dX3_readItem_0 : decode cX3_readItem 0 = .ok (.iconst 0, 1) := by decide +kernel
theorem dX3_readItem_1 : decode cX3_readItem 1 = .ok (.istore_n 2, 1) := by decide +kernel
theorem dX3_readItem_2 : decode cX3_readItem 2 = .ok (.iload_n 2, 1) := by decide +kernel
theorem dX3_readItem_3 : decode cX3_readItem 3 = .ok (.bipush 6, 2) := by decide +kernel
theorem dX3_readItem_5 : decode cX3_readItem 5 = .ok (.if_icmp .gt 27, 3) := by decide +kernel
theorem dX3_readItem_8 : decode cX3_readItem 8 = .ok (.aload_n 0, 1) := by decide +kernel
theorem dX3_readItem_9 : decode cX3_readItem 9 = .ok (.iload_n 2, 1) := by decide +kernel
theorem dX3_readItem_10 : decode cX3_readItem 10 = .ok (.invokestatic 38, 3) := by decide +kernel
theorem dX3_readItem_13 : decode cX3_readItem 13 = .ok (.invokevirtual 42, 3) := by decide +kernel
theorem dX3_readItem_16 : decode cX3_readItem 16 = .ok (.ifCond .eq 10, 3) := by decide +kernel
theorem dX3_readItem_19 : decode cX3_readItem 19 = .ok (.aload_n 0, 1) := by decide +kernel
theorem dX3_readItem_20 : decode cX3_readItem 20 = .ok (.aload_n 1, 1) := by decide +kernel
theorem dX3_readItem_21 : decode cX3_readItem 21 = .ok (.iload_n 2, 1) := by decide +kernel
theorem dX3_readItem_22 : decode cX3_readItem 22 = .ok (.invokevirtual 46, 3) := by decide +kernel
theorem dX3_readItem_25 : decode cX3_readItem 25 = .ok (.ireturn, 1) := by decide +kernel
theorem dX3_readItem_26 : decode cX3_readItem 26 = .ok (.iinc 2 1, 3) := by decide +kernel
theorem dX3_readItem_29 : decode cX3_readItem 29 = .ok (.goto (-27), 3) := by decide +kernel
theorem dX3_readItem_32 : decode cX3_readItem 32 = .ok (.aload_n 0, 1) := by decide +kernel
theorem dX3_readItem_33 : decode cX3_readItem 33 = .ok (.ldc 50, 2) := by decide +kernel
theorem dX3_readItem_35 : decode cX3_readItem 35 = .ok (.invokevirtual 42, 3) := by decide +kernel
theorem dX3_readItem_38 : decode cX3_readItem 38 = .ok (.ifCond .eq 9, 3) := by decide +kernel
theorem dX3_readItem_41 : decode cX3_readItem 41 = .ok (.aload_n 0, 1) := by decide +kernel
theorem dX3_readItem_42 : decode cX3_readItem 42 = .ok (.aload_n 1, 1) := by decide +kernel
theorem dX3_readItem_43 : decode cX3_readItem 43 = .ok (.invokevirtual 52, 3) := by decide +kernel
theorem dX3_readItem_46 : decode cX3_readItem 46 = .ok (.ireturn, 1) := by decide +kernel
theorem dX3_readItem_47 : decode cX3_readItem 47 = .ok (.iconst 0, 1) := by decide +kernel
theorem dX3_readItem_48 : decode cX3_readItem 48 = .ok (.istore_n 2, 1) := by decide +kernel
theorem dX3_readItem_49 : decode cX3_readItem 49 = .ok (.iload_n 2, 1) := by decide +kernel
theorem dX3_readItem_50 : decode cX3_readItem 50 = .ok (.iconst 2, 1) := by decide +kernel
theorem dX3_readItem_51 : decode cX3_readItem 51 = .ok (.if_icmp .gt 27, 3) := by decide +kernel
theorem dX3_readItem_54 : decode cX3_readItem 54 = .ok (.aload_n 0, 1) := by decide +kernel
theorem dX3_readItem_55 : decode cX3_readItem 55 = .ok (.iload_n 2, 1) := by decide +kernel
theorem dX3_readItem_56 : decode cX3_readItem 56 = .ok (.invokestatic 55, 3) := by decide +kernel
theorem dX3_readItem_59 : decode cX3_readItem 59 = .ok (.invokevirtual 42, 3) := by decide +kernel
theorem dX3_readItem_62 : decode cX3_readItem 62 = .ok (.ifCond .eq 10, 3) := by decide +kernel
theorem dX3_readItem_65 : decode cX3_readItem 65 = .ok (.aload_n 0, 1) := by decide +kernel
theorem dX3_readItem_66 : decode cX3_readItem 66 = .ok (.aload_n 1, 1) := by decide +kernel
theorem dX3_readItem_67 : decode cX3_readItem 67 = .ok (.iload_n 2, 1) := by decide +kernel
theorem dX3_readItem_68 : decode cX3_readItem 68 = .ok (.invokevirtual 58, 3) := by decide +kernel
theorem dX3_readItem_71 : decode cX3_readItem 71 = .ok (.ireturn, 1) := by decide +kernel
theorem dX3_readItem_72 : decode cX3_readItem 72 = .ok (.iinc 2 1, 3) := by decide +kernel
theorem dX3_readItem_75 : decode cX3_readItem 75 = .ok (.goto (-26), 3) := by decide +kernel
theorem dX3_readItem_78 : decode cX3_readItem 78 = .ok (.iconst 0, 1) := by decide +kernel
theorem dX3_readItem_79 : decode cX3_readItem 79 = .ok (.ireturn, 1) := by decide +kernel
theorem dX3_readSitter_0 : decode cX3_readSitter 0 = .ok (.aload_n 1, 1) := by decide +kernel
theorem dX3_readSitter_1 : decode cX3_readSitter 1 = .ok (.iload_n 2, 1) := by decide +kernel
theorem dX3_readSitter_2 : decode cX3_readSitter 2 = .ok (.invokevirtual 61, 3) := by decide +kernel
theorem dX3_readSitter_5 : decode cX3_readSitter 5 = .ok (.istore_n 3, 1) := by decide +kernel
theorem dX3_readSitter_6 : decode cX3_readSitter 6 = .ok (.iload_n 3, 1) := by decide +kernel
theorem dX3_readSitter_7 : decode cX3_readSitter 7 = .ok (.ifCond .ge 5, 3) := by decide +kernel
theorem dX3_readSitter_10 : decode cX3_readSitter 10 = .ok (.iconst 0, 1) := by decide +kernel
theorem dX3_readSitter_11 : decode cX3_readSitter 11 = .ok (.ireturn, 1) := by decide +kernel
theorem dX3_readSitter_12 : decode cX3_readSitter 12 = .ok (.aload_n 0, 1) := by decide +kernel
theorem dX3_readSitter_13 : decode cX3_readSitter 13 = .ok (.invokevirtual 31, 3) := by decide +kernel
theorem dX3_readSitter_16 : decode cX3_readSitter 16 = .ok (.iconst 1, 1) := by decide +kernel
theorem dX3_readSitter_17 : decode cX3_readSitter 17 = .ok (.istore 4, 2) := by decide +kernel
theorem dX3_readSitter_19 : decode cX3_readSitter 19 = .ok (.iload 4, 2) := by decide +kernel
theorem dX3_readSitter_21 : decode cX3_readSitter 21 = .ok (.iconst 4, 1) := by decide +kernel
theorem dX3_readSitter_22 : decode cX3_readSitter 22 = .ok (.if_icmp .gt 54, 3) := by decide +kernel
theorem dX3_readSitter_25 : decode cX3_readSitter 25 = .ok (.aload_n 0, 1) := by decide +kernel
theorem dX3_readSitter_26 : decode cX3_readSitter 26 = .ok (.iload 4, 2) := by decide +kernel
theorem dX3_readSitter_28 : decode cX3_readSitter 28 = .ok (.invokestatic 67, 3) := by decide +kernel
theorem dX3_readSitter_31 : decode cX3_readSitter 31 = .ok (.invokevirtual 42, 3) := by decide +kernel
theorem dX3_readSitter_34 : decode cX3_readSitter 34 = .ok (.ifCond .eq 36, 3) := by decide +kernel
theorem dX3_readSitter_37 : decode cX3_readSitter 37 = .ok (.aload_n 0, 1) := by decide +kernel
theorem dX3_readSitter_38 : decode cX3_readSitter 38 = .ok (.invokevirtual 31, 3) := by decide +kernel
theorem dX3_readSitter_41 : decode cX3_readSitter 41 = .ok (.aload_n 0, 1) := by decide +kernel
theorem dX3_readSitter_42 : decode cX3_readSitter 42 = .ok (.iload 4, 2) := by decide +kernel
theorem dX3_readSitter_44 : decode cX3_readSitter 44 = .ok (.invokestatic 70, 3) := by decide +kernel
theorem dX3_readSitter_47 : decode cX3_readSitter 47 = .ok (.invokevirtual 75, 3) := by decide +kernel
theorem dX3_readSitter_50 : decode cX3_readSitter 50 = .ok (.ifCond .ne 5, 3) := by decide +kernel
theorem dX3_readSitter_53 : decode cX3_readSitter 53 = .ok (.iconst 0, 1) := by decide +kernel
theorem dX3_readSitter_54 : decode cX3_readSitter 54 = .ok (.ireturn, 1) := by decide +kernel
theorem dX3_readSitter_55 : decode cX3_readSitter 55 = .ok (.aload_n 1, 1) := by decide +kernel
theorem dX3_readSitter_56 : decode cX3_readSitter 56 = .ok (.iload_n 3, 1) := by decide +kernel
theorem dX3_readSitter_57 : decode cX3_readSitter 57 = .ok (.iload 4, 2) := by decide +kernel
theorem dX3_readSitter_59 : decode cX3_readSitter 59 = .ok (.aload_n 0, 1) := by decide +kernel
theorem dX3_readSitter_60 : decode cX3_readSitter 60 = .ok (.getfield 28, 3) := by decide +kernel
theorem dX3_readSitter_63 : decode cX3_readSitter 63 = .ok (.invokevirtual 79, 3) := by decide +kernel
theorem dX3_readSitter_66 : decode cX3_readSitter 66 = .ok (.aload_n 0, 1) := by decide +kernel
theorem dX3_readSitter_67 : decode cX3_readSitter 67 = .ok (.invokevirtual 31, 3) := by decide +kernel
theorem dX3_readSitter_70 : decode cX3_readSitter 70 = .ok (.iinc 4 1, 3) := by decide +kernel
theorem dX3_readSitter_73 : decode cX3_readSitter 73 = .ok (.goto (-54), 3) := by decide +kernel
theorem dX3_readSitter_76 : decode cX3_readSitter 76 = .ok (.iconst 1, 1) := by decide +kernel
theorem dX3_readSitter_77 : decode cX3_readSitter 77 = .ok (.ireturn, 1) := by decide +kernel
theorem dX3_readQueue_0 : decode cX3_readQueue 0 = .ok (.aload_n 0, 1) := by decide +kernel
theorem dX3_readQueue_1 : decode cX3_readQueue 1 = .ok (.invokevirtual 31, 3) := by decide +kernel
theorem dX3_readQueue_4 : decode cX3_readQueue 4 = .ok (.iconst 0, 1) := by decide +kernel
theorem dX3_readQueue_5 : decode cX3_readQueue 5 = .ok (.istore_n 2, 1) := by decide +kernel
theorem dX3_readQueue_6 : decode cX3_readQueue 6 = .ok (.iload_n 2, 1) := by decide +kernel
theorem dX3_readQueue_7 : decode cX3_readQueue 7 = .ok (.bipush 6, 2) := by decide +kernel
theorem dX3_readQueue_9 : decode cX3_readQueue 9 = .ok (.if_icmp .ge 35, 3) := by decide +kernel
theorem dX3_readQueue_12 : decode cX3_readQueue 12 = .ok (.aload_n 0, 1) := by decide +kernel
theorem dX3_readQueue_13 : decode cX3_readQueue 13 = .ok (.aload_n 1, 1) := by decide +kernel
theorem dX3_readQueue_14 : decode cX3_readQueue 14 = .ok (.getfield 83, 3) := by decide +kernel
theorem dX3_readQueue_17 : decode cX3_readQueue 17 = .ok (.iconst 1, 1) := by decide +kernel
theorem dX3_readQueue_18 : decode cX3_readQueue 18 = .ok (.isub, 1) := by decide +kernel
theorem dX3_readQueue_19 : decode cX3_readQueue 19 = .ok (.invokevirtual 75, 3) := by decide +kernel
theorem dX3_readQueue_22 : decode cX3_readQueue 22 = .ok (.ifCond .eq 22, 3) := by decide +kernel
theorem dX3_readQueue_25 : decode cX3_readQueue 25 = .ok (.aload_n 1, 1) := by decide +kernel
theorem dX3_readQueue_26 : decode cX3_readQueue 26 = .ok (.iload_n 2, 1) := by decide +kernel
theorem dX3_readQueue_27 : decode cX3_readQueue 27 = .ok (.aload_n 0, 1) := by decide +kernel
theorem dX3_readQueue_28 : decode cX3_readQueue 28 = .ok (.getfield 28, 3) := by decide +kernel
theorem dX3_readQueue_31 : decode cX3_readQueue 31 = .ok (.invokevirtual 86, 3) := by decide +kernel
theorem dX3_readQueue_34 : decode cX3_readQueue 34 = .ok (.aload_n 0, 1) := by decide +kernel
theorem dX3_readQueue_35 : decode cX3_readQueue 35 = .ok (.invokevirtual 31, 3) := by decide +kernel
theorem dX3_readQueue_38 : decode cX3_readQueue 38 = .ok (.iinc 2 1, 3) := by decide +kernel
theorem dX3_readQueue_41 : decode cX3_readQueue 41 = .ok (.goto (-35), 3) := by decide +kernel
theorem dX3_readQueue_44 : decode cX3_readQueue 44 = .ok (.iload_n 2, 1) := by decide +kernel
theorem dX3_readQueue_45 : decode cX3_readQueue 45 = .ok (.ifCond .le 7, 3) := by decide +kernel
theorem dX3_readQueue_48 : decode cX3_readQueue 48 = .ok (.iconst 1, 1) := by decide +kernel
theorem dX3_readQueue_49 : decode cX3_readQueue 49 = .ok (.goto 4, 3) := by decide +kernel
theorem dX3_readQueue_52 : decode cX3_readQueue 52 = .ok (.iconst 0, 1) := by decide +kernel
theorem dX3_readQueue_53 : decode cX3_readQueue 53 = .ok (.ireturn, 1) := by decide +kernel
theorem dX3_readPart_0 : decode cX3_readPart 0 = .ok (.aload_n 0, 1) := by decide +kernel
theorem dX3_readPart_1 : decode cX3_readPart 1 = .ok (.invokevirtual 31, 3) := by decide +kernel
theorem dX3_readPart_4 : decode cX3_readPart 4 = .ok (.aload_n 0, 1) := by decide +kernel
theorem dX3_readPart_5 : decode cX3_readPart 5 = .ok (.iload_n 2, 1) := by decide +kernel
theorem dX3_readPart_6 : decode cX3_readPart 6 = .ok (.invokestatic 90, 3) := by decide +kernel
theorem dX3_readPart_9 : decode cX3_readPart 9 = .ok (.invokevirtual 75, 3) := by decide +kernel
theorem dX3_readPart_12 : decode cX3_readPart 12 = .ok (.ifCond .ne 5, 3) := by decide +kernel
theorem dX3_readPart_15 : decode cX3_readPart 15 = .ok (.iconst 0, 1) := by decide +kernel
theorem dX3_readPart_16 : decode cX3_readPart 16 = .ok (.ireturn, 1) := by decide +kernel
theorem dX3_readPart_17 : decode cX3_readPart 17 = .ok (.aload_n 1, 1) := by decide +kernel
theorem dX3_readPart_18 : decode cX3_readPart 18 = .ok (.iload_n 2, 1) := by decide +kernel
theorem dX3_readPart_19 : decode cX3_readPart 19 = .ok (.aload_n 0, 1) := by decide +kernel
theorem dX3_readPart_20 : decode cX3_readPart 20 = .ok (.getfield 28, 3) := by decide +kernel
theorem dX3_readPart_23 : decode cX3_readPart 23 = .ok (.invokevirtual 91, 3) := by decide +kernel
theorem dX3_readPart_26 : decode cX3_readPart 26 = .ok (.aload_n 0, 1) := by decide +kernel
theorem dX3_readPart_27 : decode cX3_readPart 27 = .ok (.invokevirtual 31, 3) := by decide +kernel
theorem dX3_readPart_30 : decode cX3_readPart 30 = .ok (.iconst 1, 1) := by decide +kernel
theorem dX3_readPart_31 : decode cX3_readPart 31 = .ok (.ireturn, 1) := by decide +kernel
theorem dX3_nextToken_0 : decode cX3_nextToken 0 = .ok (.aload_n 0, 1) := by decide +kernel
theorem dX3_nextToken_1 : decode cX3_nextToken 1 = .ok (.aload_n 0, 1) := by decide +kernel
theorem dX3_nextToken_2 : decode cX3_nextToken 2 = .ok (.getfield 22, 3) := by decide +kernel
theorem dX3_nextToken_5 : decode cX3_nextToken 5 = .ok (.putfield 19, 3) := by decide +kernel
theorem dX3_nextToken_8 : decode cX3_nextToken 8 = .ok (.aload_n 0, 1) := by decide +kernel
theorem dX3_nextToken_9 : decode cX3_nextToken 9 = .ok (.getfield 19, 3) := by decide +kernel
theorem dX3_nextToken_12 : decode cX3_nextToken 12 = .ok (.aload_n 0, 1) := by decide +kernel
theorem dX3_nextToken_13 : decode cX3_nextToken 13 = .ok (.getfield 15, 3) := by decide +kernel
theorem dX3_nextToken_16 : decode cX3_nextToken 16 = .ok (.if_icmp .ge 29, 3) := by decide +kernel
theorem dX3_nextToken_19 : decode cX3_nextToken 19 = .ok (.aload_n 0, 1) := by decide +kernel
theorem dX3_nextToken_20 : decode cX3_nextToken 20 = .ok (.aload_n 0, 1) := by decide +kernel
theorem dX3_nextToken_21 : decode cX3_nextToken 21 = .ok (.getfield 19, 3) := by decide +kernel
theorem dX3_nextToken_24 : decode cX3_nextToken 24 = .ok (.invokevirtual 94, 3) := by decide +kernel
theorem dX3_nextToken_27 : decode cX3_nextToken 27 = .ok (.bipush 32, 2) := by decide +kernel
theorem dX3_nextToken_29 : decode cX3_nextToken 29 = .ok (.if_icmp .ne 16, 3) := by decide +kernel
theorem dX3_nextToken_32 : decode cX3_nextToken 32 = .ok (.aload_n 0, 1) := by decide +kernel
theorem dX3_nextToken_33 : decode cX3_nextToken 33 = .ok (.dup, 1) := by decide +kernel
theorem dX3_nextToken_34 : decode cX3_nextToken 34 = .ok (.getfield 19, 3) := by decide +kernel
theorem dX3_nextToken_37 : decode cX3_nextToken 37 = .ok (.iconst 1, 1) := by decide +kernel
theorem dX3_nextToken_38 : decode cX3_nextToken 38 = .ok (.iadd, 1) := by decide +kernel
theorem dX3_nextToken_39 : decode cX3_nextToken 39 = .ok (.putfield 19, 3) := by decide +kernel
theorem dX3_nextToken_42 : decode cX3_nextToken 42 = .ok (.goto (-34), 3) := by decide +kernel
theorem dX3_nextToken_45 : decode cX3_nextToken 45 = .ok (.aload_n 0, 1) := by decide +kernel
theorem dX3_nextToken_46 : decode cX3_nextToken 46 = .ok (.aload_n 0, 1) := by decide +kernel
theorem dX3_nextToken_47 : decode cX3_nextToken 47 = .ok (.getfield 19, 3) := by decide +kernel
theorem dX3_nextToken_50 : decode cX3_nextToken 50 = .ok (.putfield 22, 3) := by decide +kernel
theorem dX3_nextToken_53 : decode cX3_nextToken 53 = .ok (.aload_n 0, 1) := by decide +kernel
theorem dX3_nextToken_54 : decode cX3_nextToken 54 = .ok (.aload_n 0, 1) := by decide +kernel
theorem dX3_nextToken_55 : decode cX3_nextToken 55 = .ok (.getfield 19, 3) := by decide +kernel
theorem dX3_nextToken_58 : decode cX3_nextToken 58 = .ok (.invokevirtual 94, 3) := by decide +kernel
theorem dX3_nextToken_61 : decode cX3_nextToken 61 = .ok (.istore_n 1, 1) := by decide +kernel
theorem dX3_nextToken_62 : decode cX3_nextToken 62 = .ok (.iload_n 1, 1) := by decide +kernel
theorem dX3_nextToken_63 : decode cX3_nextToken 63 = .ok (.ifCond .ge 11, 3) := by decide +kernel
theorem dX3_nextToken_66 : decode cX3_nextToken 66 = .ok (.aload_n 0, 1) := by decide +kernel
theorem dX3_nextToken_67 : decode cX3_nextToken 67 = .ok (.iconst 0, 1) := by decide +kernel
theorem dX3_nextToken_68 : decode cX3_nextToken 68 = .ok (.putfield 25, 3) := by decide +kernel
theorem dX3_nextToken_71 : decode cX3_nextToken 71 = .ok (.goto 97, 3) := by decide +kernel
theorem dX3_nextToken_74 : decode cX3_nextToken 74 = .ok (.iload_n 1, 1) := by decide +kernel
theorem dX3_nextToken_75 : decode cX3_nextToken 75 = .ok (.invokestatic 97, 3) := by decide +kernel
theorem dX3_nextToken_78 : decode cX3_nextToken 78 = .ok (.ifCond .eq 46, 3) := by decide +kernel
theorem dX3_nextToken_81 : decode cX3_nextToken 81 = .ok (.aload_n 0, 1) := by decide +kernel
theorem dX3_nextToken_82 : decode cX3_nextToken 82 = .ok (.iconst 1, 1) := by decide +kernel
theorem dX3_nextToken_83 : decode cX3_nextToken 83 = .ok (.putfield 25, 3) := by decide +kernel
theorem dX3_nextToken_86 : decode cX3_nextToken 86 = .ok (.aload_n 0, 1) := by decide +kernel
theorem dX3_nextToken_87 : decode cX3_nextToken 87 = .ok (.getfield 22, 3) := by decide +kernel
theorem dX3_nextToken_90 : decode cX3_nextToken 90 = .ok (.aload_n 0, 1) := by decide +kernel
theorem dX3_nextToken_91 : decode cX3_nextToken 91 = .ok (.getfield 15, 3) := by decide +kernel
theorem dX3_nextToken_94 : decode cX3_nextToken 94 = .ok (.if_icmp .ge 74, 3) := by decide +kernel
theorem dX3_nextToken_97 : decode cX3_nextToken 97 = .ok (.aload_n 0, 1) := by decide +kernel
theorem dX3_nextToken_98 : decode cX3_nextToken 98 = .ok (.aload_n 0, 1) := by decide +kernel
theorem dX3_nextToken_99 : decode cX3_nextToken 99 = .ok (.getfield 22, 3) := by decide +kernel
theorem dX3_nextToken_102 : decode cX3_nextToken 102 = .ok (.invokevirtual 94, 3) := by decide +kernel
theorem dX3_nextToken_105 : decode cX3_nextToken 105 = .ok (.invokestatic 97, 3) := by decide +kernel
theorem dX3_nextToken_108 : decode cX3_nextToken 108 = .ok (.ifCond .eq 60, 3) := by decide +kernel
theorem dX3_nextToken_111 : decode cX3_nextToken 111 = .ok (.aload_n 0, 1) := by decide +kernel
theorem dX3_nextToken_112 : decode cX3_nextToken 112 = .ok (.dup, 1) := by decide +kernel
theorem dX3_nextToken_113 : decode cX3_nextToken 113 = .ok (.getfield 22, 3) := by decide +kernel
theorem dX3_nextToken_116 : decode cX3_nextToken 116 = .ok (.iconst 1, 1) := by decide +kernel
theorem dX3_nextToken_117 : decode cX3_nextToken 117 = .ok (.iadd, 1) := by decide +kernel
theorem dX3_nextToken_118 : decode cX3_nextToken 118 = .ok (.putfield 22, 3) := by decide +kernel
theorem dX3_nextToken_121 : decode cX3_nextToken 121 = .ok (.goto (-35), 3) := by decide +kernel
theorem dX3_nextToken_124 : decode cX3_nextToken 124 = .ok (.iload_n 1, 1) := by decide +kernel
theorem dX3_nextToken_125 : decode cX3_nextToken 125 = .ok (.invokestatic 100, 3) := by decide +kernel
theorem dX3_nextToken_128 : decode cX3_nextToken 128 = .ok (.ifCond .eq 15, 3) := by decide +kernel
theorem dX3_nextToken_131 : decode cX3_nextToken 131 = .ok (.aload_n 0, 1) := by decide +kernel
theorem dX3_nextToken_132 : decode cX3_nextToken 132 = .ok (.iconst 2, 1) := by decide +kernel
theorem dX3_nextToken_133 : decode cX3_nextToken 133 = .ok (.putfield 25, 3) := by decide +kernel
theorem dX3_nextToken_136 : decode cX3_nextToken 136 = .ok (.aload_n 0, 1) := by decide +kernel
theorem dX3_nextToken_137 : decode cX3_nextToken 137 = .ok (.invokevirtual 103, 3) := by decide +kernel
theorem dX3_nextToken_140 : decode cX3_nextToken 140 = .ok (.goto 28, 3) := by decide +kernel
theorem dX3_nextToken_143 : decode cX3_nextToken 143 = .ok (.aload_n 0, 1) := by decide +kernel
theorem dX3_nextToken_144 : decode cX3_nextToken 144 = .ok (.iload_n 1, 1) := by decide +kernel
theorem dX3_nextToken_145 : decode cX3_nextToken 145 = .ok (.bipush 59, 2) := by decide +kernel
theorem dX3_nextToken_147 : decode cX3_nextToken 147 = .ok (.if_icmp .ne 7, 3) := by decide +kernel
theorem dX3_nextToken_150 : decode cX3_nextToken 150 = .ok (.iconst 3, 1) := by decide +kernel
theorem dX3_nextToken_151 : decode cX3_nextToken 151 = .ok (.goto 4, 3) := by decide +kernel
theorem dX3_nextToken_154 : decode cX3_nextToken 154 = .ok (.iconst 4, 1) := by decide +kernel
theorem dX3_nextToken_155 : decode cX3_nextToken 155 = .ok (.putfield 25, 3) := by decide +kernel
theorem dX3_nextToken_158 : decode cX3_nextToken 158 = .ok (.aload_n 0, 1) := by decide +kernel
theorem dX3_nextToken_159 : decode cX3_nextToken 159 = .ok (.dup, 1) := by decide +kernel
theorem dX3_nextToken_160 : decode cX3_nextToken 160 = .ok (.getfield 22, 3) := by decide +kernel
theorem dX3_nextToken_163 : decode cX3_nextToken 163 = .ok (.iconst 1, 1) := by decide +kernel
theorem dX3_nextToken_164 : decode cX3_nextToken 164 = .ok (.iadd, 1) := by decide +kernel
theorem dX3_nextToken_165 : decode cX3_nextToken 165 = .ok (.putfield 22, 3) := by decide +kernel
theorem dX3_nextToken_168 : decode cX3_nextToken 168 = .ok (.return_, 1) := by decide +kernel
theorem dX3_readDigits_0 : decode cX3_readDigits 0 = .ok (.aload_n 0, 1) := by decide +kernel
theorem dX3_readDigits_1 : decode cX3_readDigits 1 = .ok (.iconst 0, 1) := by decide +kernel
theorem dX3_readDigits_2 : decode cX3_readDigits 2 = .ok (.putfield 28, 3) := by decide +kernel
theorem dX3_readDigits_5 : decode cX3_readDigits 5 = .ok (.aload_n 0, 1) := by decide +kernel
theorem dX3_readDigits_6 : decode cX3_readDigits 6 = .ok (.getfield 22, 3) := by decide +kernel
theorem dX3_readDigits_9 : decode cX3_readDigits 9 = .ok (.aload_n 0, 1) := by decide +kernel
theorem dX3_readDigits_10 : decode cX3_readDigits 10 = .ok (.getfield 15, 3) := by decide +kernel
theorem dX3_readDigits_13 : decode cX3_readDigits 13 = .ok (.if_icmp .ge 59, 3) := by decide +kernel
theorem dX3_readDigits_16 : decode cX3_readDigits 16 = .ok (.aload_n 0, 1) := by decide +kernel
theorem dX3_readDigits_17 : decode cX3_readDigits 17 = .ok (.aload_n 0, 1) := by decide +kernel
theorem dX3_readDigits_18 : decode cX3_readDigits 18 = .ok (.getfield 22, 3) := by decide +kernel
theorem dX3_readDigits_21 : decode cX3_readDigits 21 = .ok (.invokevirtual 94, 3) := by decide +kernel
theorem dX3_readDigits_24 : decode cX3_readDigits 24 = .ok (.invokestatic 100, 3) := by decide +kernel
theorem dX3_readDigits_27 : decode cX3_readDigits 27 = .ok (.ifCond .eq 45, 3) := by decide +kernel
theorem dX3_readDigits_30 : decode cX3_readDigits 30 = .ok (.aload_n 0, 1) := by decide +kernel
theorem dX3_readDigits_31 : decode cX3_readDigits 31 = .ok (.aload_n 0, 1) := by decide +kernel
theorem dX3_readDigits_32 : decode cX3_readDigits 32 = .ok (.getfield 28, 3) := by decide +kernel
theorem dX3_readDigits_35 : decode cX3_readDigits 35 = .ok (.bipush 10, 2) := by decide +kernel
theorem dX3_readDigits_37 : decode cX3_readDigits 37 = .ok (.imul, 1) := by decide +kernel
theorem dX3_readDigits_38 : decode cX3_readDigits 38 = .ok (.aload_n 0, 1) := by decide +kernel
theorem dX3_readDigits_39 : decode cX3_readDigits 39 = .ok (.aload_n 0, 1) := by decide +kernel
theorem dX3_readDigits_40 : decode cX3_readDigits 40 = .ok (.getfield 22, 3) := by decide +kernel
theorem dX3_readDigits_43 : decode cX3_readDigits 43 = .ok (.invokevirtual 94, 3) := by decide +kernel
theorem dX3_readDigits_46 : decode cX3_readDigits 46 = .ok (.iadd, 1) := by decide +kernel
theorem dX3_readDigits_47 : decode cX3_readDigits 47 = .ok (.bipush 48, 2) := by decide +kernel
theorem dX3_readDigits_49 : decode cX3_readDigits 49 = .ok (.isub, 1) := by decide +kernel
theorem dX3_readDigits_50 : decode cX3_readDigits 50 = .ok (.sipush 1000, 3) := by decide +kernel
theorem dX3_readDigits_53 : decode cX3_readDigits 53 = .ok (.invokestatic 106, 3) := by decide +kernel
theorem dX3_readDigits_56 : decode cX3_readDigits 56 = .ok (.putfield 28, 3) := by decide +kernel
theorem dX3_readDigits_59 : decode cX3_readDigits 59 = .ok (.aload_n 0, 1) := by decide +kernel
theorem dX3_readDigits_60 : decode cX3_readDigits 60 = .ok (.dup, 1) := by decide +kernel
theorem dX3_readDigits_61 : decode cX3_readDigits 61 = .ok (.getfield 22, 3) := by decide +kernel
theorem dX3_readDigits_64 : decode cX3_readDigits 64 = .ok (.iconst 1, 1) := by decide +kernel
theorem dX3_readDigits_65 : decode cX3_readDigits 65 = .ok (.iadd, 1) := by decide +kernel
theorem dX3_readDigits_66 : decode cX3_readDigits 66 = .ok (.putfield 22, 3) := by decide +kernel
theorem dX3_readDigits_69 : decode cX3_readDigits 69 = .ok (.goto (-64), 3) := by decide +kernel
theorem dX3_readDigits_72 : decode cX3_readDigits 72 = .ok (.return_, 1) := by decide +kernel
theorem dX3_byteAt_0 : decode cX3_byteAt 0 = .ok (.iload_n 1, 1) := by decide +kernel
theorem dX3_byteAt_1 : decode cX3_byteAt 1 = .ok (.ifCond .lt 26, 3) := by decide +kernel
theorem dX3_byteAt_4 : decode cX3_byteAt 4 = .ok (.iload_n 1, 1) := by decide +kernel
theorem dX3_byteAt_5 : decode cX3_byteAt 5 = .ok (.aload_n 0, 1) := by decide +kernel
theorem dX3_byteAt_6 : decode cX3_byteAt 6 = .ok (.getfield 15, 3) := by decide +kernel
theorem dX3_byteAt_9 : decode cX3_byteAt 9 = .ok (.if_icmp .ge 18, 3) := by decide +kernel
theorem dX3_byteAt_12 : decode cX3_byteAt 12 = .ok (.iload_n 1, 1) := by decide +kernel
theorem dX3_byteAt_13 : decode cX3_byteAt 13 = .ok (.bipush 120, 2) := by decide +kernel
theorem dX3_byteAt_15 : decode cX3_byteAt 15 = .ok (.if_icmp .ge 12, 3) := by decide +kernel
theorem dX3_byteAt_18 : decode cX3_byteAt 18 = .ok (.aload_n 0, 1) := by decide +kernel
theorem dX3_byteAt_19 : decode cX3_byteAt 19 = .ok (.getfield 11, 3) := by decide +kernel
theorem dX3_byteAt_22 : decode cX3_byteAt 22 = .ok (.iload_n 1, 1) := by decide +kernel
theorem dX3_byteAt_23 : decode cX3_byteAt 23 = .ok (.iaload, 1) := by decide +kernel
theorem dX3_byteAt_24 : decode cX3_byteAt 24 = .ok (.goto 4, 3) := by decide +kernel
theorem dX3_byteAt_27 : decode cX3_byteAt 27 = .ok (.iconst (-1), 1) := by decide +kernel
theorem dX3_byteAt_28 : decode cX3_byteAt 28 = .ok (.ireturn, 1) := by decide +kernel
theorem dX3_isLetter_0 : decode cX3_isLetter 0 = .ok (.iload_n 0, 1) := by decide +kernel
theorem dX3_isLetter_1 : decode cX3_isLetter 1 = .ok (.bipush 97, 2) := by decide +kernel
theorem dX3_isLetter_3 : decode cX3_isLetter 3 = .ok (.if_icmp .lt 13, 3) := by decide +kernel
theorem dX3_isLetter_6 : decode cX3_isLetter 6 = .ok (.iload_n 0, 1) := by decide +kernel
theorem dX3_isLetter_7 : decode cX3_isLetter 7 = .ok (.bipush 122, 2) := by decide +kernel
theorem dX3_isLetter_9 : decode cX3_isLetter 9 = .ok (.if_icmp .gt 7, 3) := by decide +kernel
theorem dX3_isLetter_12 : decode cX3_isLetter 12 = .ok (.iconst 1, 1) := by decide +kernel
theorem dX3_isLetter_13 : decode cX3_isLetter 13 = .ok (.goto 4, 3) := by decide +kernel
theorem dX3_isLetter_16 : decode cX3_isLetter 16 = .ok (.iconst 0, 1) := by decide +kernel
theorem dX3_isLetter_17 : decode cX3_isLetter 17 = .ok (.ireturn, 1) := by decide +kernel
theorem dX3_isDigit_0 : decode cX3_isDigit 0 = .ok (.iload_n 0, 1) := by decide +kernel
theorem dX3_isDigit_1 : decode cX3_isDigit 1 = .ok (.bipush 48, 2) := by decide +kernel
theorem dX3_isDigit_3 : decode cX3_isDigit 3 = .ok (.if_icmp .lt 13, 3) := by decide +kernel
theorem dX3_isDigit_6 : decode cX3_isDigit 6 = .ok (.iload_n 0, 1) := by decide +kernel
theorem dX3_isDigit_7 : decode cX3_isDigit 7 = .ok (.bipush 57, 2) := by decide +kernel
theorem dX3_isDigit_9 : decode cX3_isDigit 9 = .ok (.if_icmp .gt 7, 3) := by decide +kernel
theorem dX3_isDigit_12 : decode cX3_isDigit 12 = .ok (.iconst 1, 1) := by decide +kernel
theorem dX3_isDigit_13 : decode cX3_isDigit 13 = .ok (.goto 4, 3) := by decide +kernel
theorem dX3_isDigit_16 : decode cX3_isDigit 16 = .ok (.iconst 0, 1) := by decide +kernel
theorem dX3_isDigit_17 : decode cX3_isDigit 17 = .ok (.ireturn, 1) := by decide +kernel
theorem dX3_isNumber_0 : decode cX3_isNumber 0 = .ok (.aload_n 0, 1) := by decide +kernel
theorem dX3_isNumber_1 : decode cX3_isNumber 1 = .ok (.getfield 25, 3) := by decide +kernel
theorem dX3_isNumber_4 : decode cX3_isNumber 4 = .ok (.iconst 2, 1) := by decide +kernel
theorem dX3_isNumber_5 : decode cX3_isNumber 5 = .ok (.if_icmp .ne 15, 3) := by decide +kernel
theorem dX3_isNumber_8 : decode cX3_isNumber 8 = .ok (.aload_n 0, 1) := by decide +kernel
theorem dX3_isNumber_9 : decode cX3_isNumber 9 = .ok (.getfield 28, 3) := by decide +kernel
theorem dX3_isNumber_12 : decode cX3_isNumber 12 = .ok (.iload_n 1, 1) := by decide +kernel
theorem dX3_isNumber_13 : decode cX3_isNumber 13 = .ok (.if_icmp .gt 7, 3) := by decide +kernel
theorem dX3_isNumber_16 : decode cX3_isNumber 16 = .ok (.iconst 1, 1) := by decide +kernel
theorem dX3_isNumber_17 : decode cX3_isNumber 17 = .ok (.goto 4, 3) := by decide +kernel
theorem dX3_isNumber_20 : decode cX3_isNumber 20 = .ok (.iconst 0, 1) := by decide +kernel
theorem dX3_isNumber_21 : decode cX3_isNumber 21 = .ok (.ireturn, 1) := by decide +kernel
theorem dX3_isWord_0 : decode cX3_isWord 0 = .ok (.aload_n 0, 1) := by decide +kernel
theorem dX3_isWord_1 : decode cX3_isWord 1 = .ok (.getfield 25, 3) := by decide +kernel
theorem dX3_isWord_4 : decode cX3_isWord 4 = .ok (.iconst 1, 1) := by decide +kernel
theorem dX3_isWord_5 : decode cX3_isWord 5 = .ok (.if_icmp .ne 19, 3) := by decide +kernel
theorem dX3_isWord_8 : decode cX3_isWord 8 = .ok (.aload_n 0, 1) := by decide +kernel
theorem dX3_isWord_9 : decode cX3_isWord 9 = .ok (.getfield 22, 3) := by decide +kernel
theorem dX3_isWord_12 : decode cX3_isWord 12 = .ok (.aload_n 0, 1) := by decide +kernel
theorem dX3_isWord_13 : decode cX3_isWord 13 = .ok (.getfield 19, 3) := by decide +kernel
theorem dX3_isWord_16 : decode cX3_isWord 16 = .ok (.isub, 1) := by decide +kernel
theorem dX3_isWord_17 : decode cX3_isWord 17 = .ok (.aload_n 1, 1) := by decide +kernel
theorem dX3_isWord_18 : decode cX3_isWord 18 = .ok (.invokevirtual 112, 3) := by decide +kernel
theorem dX3_isWord_21 : decode cX3_isWord 21 = .ok (.if_icmp .eq 5, 3) := by decide +kernel
theorem dX3_isWord_24 : decode cX3_isWord 24 = .ok (.iconst 0, 1) := by decide +kernel
theorem dX3_isWord_25 : decode cX3_isWord 25 = .ok (.ireturn, 1) := by decide +kernel
theorem dX3_isWord_26 : decode cX3_isWord 26 = .ok (.iconst 0, 1) := by decide +kernel
theorem dX3_isWord_27 : decode cX3_isWord 27 = .ok (.istore_n 2, 1) := by decide +kernel
theorem dX3_isWord_28 : decode cX3_isWord 28 = .ok (.iload_n 2, 1) := by decide +kernel
theorem dX3_isWord_29 : decode cX3_isWord 29 = .ok (.aload_n 1, 1) := by decide +kernel
theorem dX3_isWord_30 : decode cX3_isWord 30 = .ok (.invokevirtual 112, 3) := by decide +kernel
theorem dX3_isWord_33 : decode cX3_isWord 33 = .ok (.if_icmp .ge 29, 3) := by decide +kernel
theorem dX3_isWord_36 : decode cX3_isWord 36 = .ok (.aload_n 0, 1) := by decide +kernel
theorem dX3_isWord_37 : decode cX3_isWord 37 = .ok (.aload_n 0, 1) := by decide +kernel
theorem dX3_isWord_38 : decode cX3_isWord 38 = .ok (.getfield 19, 3) := by decide +kernel
theorem dX3_isWord_41 : decode cX3_isWord 41 = .ok (.iload_n 2, 1) := by decide +kernel
theorem dX3_isWord_42 : decode cX3_isWord 42 = .ok (.iadd, 1) := by decide +kernel
theorem dX3_isWord_43 : decode cX3_isWord 43 = .ok (.invokevirtual 94, 3) := by decide +kernel
theorem dX3_isWord_46 : decode cX3_isWord 46 = .ok (.aload_n 1, 1) := by decide +kernel
theorem dX3_isWord_47 : decode cX3_isWord 47 = .ok (.iload_n 2, 1) := by decide +kernel
theorem dX3_isWord_48 : decode cX3_isWord 48 = .ok (.invokevirtual 118, 3) := by decide +kernel
theorem dX3_isWord_51 : decode cX3_isWord 51 = .ok (.if_icmp .eq 5, 3) := by decide +kernel
theorem dX3_isWord_54 : decode cX3_isWord 54 = .ok (.iconst 0, 1) := by decide +kernel
theorem dX3_isWord_55 : decode cX3_isWord 55 = .ok (.ireturn, 1) := by decide +kernel
theorem dX3_isWord_56 : decode cX3_isWord 56 = .ok (.iinc 2 1, 3) := by decide +kernel
theorem dX3_isWord_59 : decode cX3_isWord 59 = .ok (.goto (-31), 3) := by decide +kernel
theorem dX3_isWord_62 : decode cX3_isWord 62 = .ok (.iconst 1, 1) := by decide +kernel
theorem dX3_isWord_63 : decode cX3_isWord 63 = .ok (.ireturn, 1) := by decide +kernel
theorem dX3_wordOfKind_0 : decode cX3_wordOfKind 0 = .ok (.iload_n 0, 1) := by decide +kernel
theorem dX3_wordOfKind_1 : decode cX3_wordOfKind 1 = .ok (.tableswitch 57 1 6 #[39, 42, 45, 48, 51, 54], 39) := by decide +kernel
theorem dX3_wordOfKind_40 : decode cX3_wordOfKind 40 = .ok (.ldc 122, 2) := by decide +kernel
theorem dX3_wordOfKind_42 : decode cX3_wordOfKind 42 = .ok (.areturn, 1) := by decide +kernel
theorem dX3_wordOfKind_43 : decode cX3_wordOfKind 43 = .ok (.ldc 124, 2) := by decide +kernel
theorem dX3_wordOfKind_45 : decode cX3_wordOfKind 45 = .ok (.areturn, 1) := by decide +kernel
theorem dX3_wordOfKind_46 : decode cX3_wordOfKind 46 = .ok (.ldc 126, 2) := by decide +kernel
theorem dX3_wordOfKind_48 : decode cX3_wordOfKind 48 = .ok (.areturn, 1) := by decide +kernel
theorem dX3_wordOfKind_49 : decode cX3_wordOfKind 49 = .ok (.ldc 128, 2) := by decide +kernel
theorem dX3_wordOfKind_51 : decode cX3_wordOfKind 51 = .ok (.areturn, 1) := by decide +kernel
theorem dX3_wordOfKind_52 : decode cX3_wordOfKind 52 = .ok (.ldc 130, 2) := by decide +kernel
theorem dX3_wordOfKind_54 : decode cX3_wordOfKind 54 = .ok (.areturn, 1) := by decide +kernel
theorem dX3_wordOfKind_55 : decode cX3_wordOfKind 55 = .ok (.ldc 132, 2) := by decide +kernel
theorem dX3_wordOfKind_57 : decode cX3_wordOfKind 57 = .ok (.areturn, 1) := by decide +kernel
theorem dX3_wordOfKind_58 : decode cX3_wordOfKind 58 = .ok (.ldc 134, 2) := by decide +kernel
theorem dX3_wordOfKind_60 : decode cX3_wordOfKind 60 = .ok (.areturn, 1) := by decide +kernel
theorem dX3_wordOfPart_0 : decode cX3_wordOfPart 0 = .ok (.iload_n 0, 1) := by decide +kernel
theorem dX3_wordOfPart_1 : decode cX3_wordOfPart 1 = .ok (.lookupswitch 33 #[(1, 27), (2, 30)], 27) := by decide +kernel
theorem dX3_wordOfPart_28 : decode cX3_wordOfPart 28 = .ok (.ldc 136, 2) := by decide +kernel
theorem dX3_wordOfPart_30 : decode cX3_wordOfPart 30 = .ok (.areturn, 1) := by decide +kernel
theorem dX3_wordOfPart_31 : decode cX3_wordOfPart 31 = .ok (.ldc 138, 2) := by decide +kernel
theorem dX3_wordOfPart_33 : decode cX3_wordOfPart 33 = .ok (.areturn, 1) := by decide +kernel
theorem dX3_wordOfPart_34 : decode cX3_wordOfPart 34 = .ok (.ldc 140, 2) := by decide +kernel
theorem dX3_wordOfPart_36 : decode cX3_wordOfPart 36 = .ok (.areturn, 1) := by decide +kernel
theorem dX3_wordOfTrait_0 : decode cX3_wordOfTrait 0 = .ok (.iload_n 0, 1) := by decide +kernel
theorem dX3_wordOfTrait_1 : decode cX3_wordOfTrait 1 = .ok (.tableswitch 36 2 4 #[27, 30, 33], 27) := by decide +kernel
theorem dX3_wordOfTrait_28 : decode cX3_wordOfTrait 28 = .ok (.ldc 142, 2) := by decide +kernel
theorem dX3_wordOfTrait_30 : decode cX3_wordOfTrait 30 = .ok (.areturn, 1) := by decide +kernel
theorem dX3_wordOfTrait_31 : decode cX3_wordOfTrait 31 = .ok (.ldc 144, 2) := by decide +kernel
theorem dX3_wordOfTrait_33 : decode cX3_wordOfTrait 33 = .ok (.areturn, 1) := by decide +kernel
theorem dX3_wordOfTrait_34 : decode cX3_wordOfTrait 34 = .ok (.ldc 146, 2) := by decide +kernel
theorem dX3_wordOfTrait_36 : decode cX3_wordOfTrait 36 = .ok (.areturn, 1) := by decide +kernel
theorem dX3_wordOfTrait_37 : decode cX3_wordOfTrait 37 = .ok (.ldc 148, 2) := by decide +kernel
theorem dX3_wordOfTrait_39 : decode cX3_wordOfTrait 39 = .ok (.areturn, 1) := by decide +kernel
theorem dX4_init_0 : decode cX4_init 0 = .ok (.aload_n 0, 1) := by decide +kernel
theorem dX4_init_1 : decode cX4_init 1 = .ok (.invokespecial 1, 3) := by decide +kernel
theorem dX4_init_4 : decode cX4_init 4 = .ok (.aload_n 0, 1) := by decide +kernel
theorem dX4_init_5 : decode cX4_init 5 = .ok (.new 7, 3) := by decide +kernel
theorem dX4_init_8 : decode cX4_init 8 = .ok (.dup, 1) := by decide +kernel
theorem dX4_init_9 : decode cX4_init 9 = .ok (.invokespecial 9, 3) := by decide +kernel
theorem dX4_init_12 : decode cX4_init 12 = .ok (.putfield 10, 3) := by decide +kernel
theorem dX4_init_15 : decode cX4_init 15 = .ok (.aload_n 0, 1) := by decide +kernel
theorem dX4_init_16 : decode cX4_init 16 = .ok (.new 7, 3) := by decide +kernel
theorem dX4_init_19 : decode cX4_init 19 = .ok (.dup, 1) := by decide +kernel
theorem dX4_init_20 : decode cX4_init 20 = .ok (.invokespecial 9, 3) := by decide +kernel
theorem dX4_init_23 : decode cX4_init 23 = .ok (.putfield 16, 3) := by decide +kernel
theorem dX4_init_26 : decode cX4_init 26 = .ok (.aload_n 0, 1) := by decide +kernel
theorem dX4_init_27 : decode cX4_init 27 = .ok (.new 7, 3) := by decide +kernel
theorem dX4_init_30 : decode cX4_init 30 = .ok (.dup, 1) := by decide +kernel
theorem dX4_init_31 : decode cX4_init 31 = .ok (.invokespecial 9, 3) := by decide +kernel
theorem dX4_init_34 : decode cX4_init 34 = .ok (.putfield 19, 3) := by decide +kernel
theorem dX4_init_37 : decode cX4_init 37 = .ok (.aload_n 0, 1) := by decide +kernel
theorem dX4_init_38 : decode cX4_init 38 = .ok (.iconst 0, 1) := by decide +kernel
theorem dX4_init_39 : decode cX4_init 39 = .ok (.putfield 22, 3) := by decide +kernel
theorem dX4_init_42 : decode cX4_init 42 = .ok (.aload_n 0, 1) := by decide +kernel
theorem dX4_init_43 : decode cX4_init 43 = .ok (.new 26, 3) := by decide +kernel
theorem dX4_init_46 : decode cX4_init 46 = .ok (.dup, 1) := by decide +kernel
theorem dX4_init_47 : decode cX4_init 47 = .ok (.invokespecial 28, 3) := by decide +kernel
theorem dX4_init_50 : decode cX4_init 50 = .ok (.putfield 29, 3) := by decide +kernel
theorem dX4_init_53 : decode cX4_init 53 = .ok (.aload_n 0, 1) := by decide +kernel
theorem dX4_init_54 : decode cX4_init 54 = .ok (.iconst 4, 1) := by decide +kernel
theorem dX4_init_55 : decode cX4_init 55 = .ok (.anewarray 33, 3) := by decide +kernel
theorem dX4_init_58 : decode cX4_init 58 = .ok (.putfield 35, 3) := by decide +kernel
theorem dX4_init_61 : decode cX4_init 61 = .ok (.iconst 0, 1) := by decide +kernel
theorem dX4_init_62 : decode cX4_init 62 = .ok (.istore_n 1, 1) := by decide +kernel
theorem dX4_init_63 : decode cX4_init 63 = .ok (.iload_n 1, 1) := by decide +kernel
theorem dX4_init_64 : decode cX4_init 64 = .ok (.iconst 4, 1) := by decide +kernel
theorem dX4_init_65 : decode cX4_init 65 = .ok (.if_icmp .ge 22, 3) := by decide +kernel
theorem dX4_init_68 : decode cX4_init 68 = .ok (.aload_n 0, 1) := by decide +kernel
theorem dX4_init_69 : decode cX4_init 69 = .ok (.getfield 35, 3) := by decide +kernel
theorem dX4_init_72 : decode cX4_init 72 = .ok (.iload_n 1, 1) := by decide +kernel
theorem dX4_init_73 : decode cX4_init 73 = .ok (.new 33, 3) := by decide +kernel
theorem dX4_init_76 : decode cX4_init 76 = .ok (.dup, 1) := by decide +kernel
theorem dX4_init_77 : decode cX4_init 77 = .ok (.invokespecial 39, 3) := by decide +kernel
theorem dX4_init_80 : decode cX4_init 80 = .ok (.aastore, 1) := by decide +kernel
theorem dX4_init_81 : decode cX4_init 81 = .ok (.iinc 1 1, 3) := by decide +kernel
theorem dX4_init_84 : decode cX4_init 84 = .ok (.goto (-21), 3) := by decide +kernel
theorem dX4_init_87 : decode cX4_init 87 = .ok (.aload_n 0, 1) := by decide +kernel
theorem dX4_init_88 : decode cX4_init 88 = .ok (.bipush 7, 2) := by decide +kernel
theorem dX4_init_90 : decode cX4_init 90 = .ok (.newarray .int, 2) := by decide +kernel
theorem dX4_init_92 : decode cX4_init 92 = .ok (.putfield 40, 3) := by decide +kernel
theorem dX4_init_95 : decode cX4_init 95 = .ok (.return_, 1) := by decide +kernel
theorem dX4_set_0 : decode cX4_set 0 = .ok (.iload_n 1, 1) := by decide +kernel
theorem dX4_set_1 : decode cX4_set 1 = .ok (.invokestatic 44, 3) := by decide +kernel
theorem dX4_set_4 : decode cX4_set 4 = .ok (.ifCond .eq 14, 3) := by decide +kernel
theorem dX4_set_7 : decode cX4_set 7 = .ok (.iload_n 2, 1) := by decide +kernel
theorem dX4_set_8 : decode cX4_set 8 = .ok (.iload_n 1, 1) := by decide +kernel
theorem dX4_set_9 : decode cX4_set 9 = .ok (.invokestatic 48, 3) := by decide +kernel
theorem dX4_set_12 : decode cX4_set 12 = .ok (.invokestatic 52, 3) := by decide +kernel
theorem dX4_set_15 : decode cX4_set 15 = .ok (.ifCond .ne 10, 3) := by decide +kernel
theorem dX4_set_18 : decode cX4_set 18 = .ok (.aload_n 0, 1) := by decide +kernel
theorem dX4_set_19 : decode cX4_set 19 = .ok (.ldc 56, 2) := by decide +kernel
theorem dX4_set_21 : decode cX4_set 21 = .ok (.invokevirtual 57, 3) := by decide +kernel
theorem dX4_set_24 : decode cX4_set 24 = .ok (.ireturn, 1) := by decide +kernel
theorem dX4_set_25 : decode cX4_set 25 = .ok (.aload_n 0, 1) := by decide +kernel
theorem dX4_set_26 : decode cX4_set 26 = .ok (.getfield 10, 3) := by decide +kernel
theorem dX4_set_29 : decode cX4_set 29 = .ok (.iload_n 1, 1) := by decide +kernel
theorem dX4_set_30 : decode cX4_set 30 = .ok (.invokevirtual 60, 3) := by decide +kernel
theorem dX4_set_33 : decode cX4_set 33 = .ok (.istore_n 3, 1) := by decide +kernel
theorem dX4_set_34 : decode cX4_set 34 = .ok (.aload_n 0, 1) := by decide +kernel
theorem dX4_set_35 : decode cX4_set 35 = .ok (.getfield 10, 3) := by decide +kernel
theorem dX4_set_38 : decode cX4_set 38 = .ok (.iload_n 1, 1) := by decide +kernel
theorem dX4_set_39 : decode cX4_set 39 = .ok (.iload_n 2, 1) := by decide +kernel
theorem dX4_set_40 : decode cX4_set 40 = .ok (.invokevirtual 63, 3) := by decide +kernel
theorem dX4_set_43 : decode cX4_set 43 = .ok (.iload_n 3, 1) := by decide +kernel
theorem dX4_set_44 : decode cX4_set 44 = .ok (.ireturn, 1) := by decide +kernel
theorem dX4_booth_0 : decode cX4_booth 0 = .ok (.iload_n 1, 1) := by decide +kernel
theorem dX4_booth_1 : decode cX4_booth 1 = .ok (.invokestatic 44, 3) := by decide +kernel
theorem dX4_booth_4 : decode cX4_booth 4 = .ok (.ifCond .eq 14, 3) := by decide +kernel
theorem dX4_booth_7 : decode cX4_booth 7 = .ok (.aload_n 0, 1) := by decide +kernel
theorem dX4_booth_8 : decode cX4_booth 8 = .ok (.getfield 10, 3) := by decide +kernel
theorem dX4_booth_11 : decode cX4_booth 11 = .ok (.iload_n 1, 1) := by decide +kernel
theorem dX4_booth_12 : decode cX4_booth 12 = .ok (.invokevirtual 60, 3) := by decide +kernel
theorem dX4_booth_15 : decode cX4_booth 15 = .ok (.goto 9, 3) := by decide +kernel
theorem dX4_booth_18 : decode cX4_booth 18 = .ok (.aload_n 0, 1) := by decide +kernel
theorem dX4_booth_19 : decode cX4_booth 19 = .ok (.ldc 56, 2) := by decide +kernel
theorem dX4_booth_21 : decode cX4_booth 21 = .ok (.invokevirtual 57, 3) := by decide +kernel
theorem dX4_booth_24 : decode cX4_booth 24 = .ok (.ireturn, 1) := by decide +kernel
theorem dX4_queue_0 : decode cX4_queue 0 = .ok (.iload_n 1, 1) := by decide +kernel
theorem dX4_queue_1 : decode cX4_queue 1 = .ok (.invokestatic 67, 3) := by decide +kernel
theorem dX4_queue_4 : decode cX4_queue 4 = .ok (.ifCond .eq 14, 3) := by decide +kernel
theorem dX4_queue_7 : decode cX4_queue 7 = .ok (.aload_n 0, 1) := by decide +kernel
theorem dX4_queue_8 : decode cX4_queue 8 = .ok (.getfield 10, 3) := by decide +kernel
theorem dX4_queue_11 : decode cX4_queue 11 = .ok (.iload_n 2, 1) := by decide +kernel
theorem dX4_queue_12 : decode cX4_queue 12 = .ok (.invokevirtual 70, 3) := by decide +kernel
theorem dX4_queue_15 : decode cX4_queue 15 = .ok (.ifCond .ne 10, 3) := by decide +kernel
theorem dX4_queue_18 : decode cX4_queue 18 = .ok (.aload_n 0, 1) := by decide +kernel
theorem dX4_queue_19 : decode cX4_queue 19 = .ok (.ldc 56, 2) := by decide +kernel
theorem dX4_queue_21 : decode cX4_queue 21 = .ok (.invokevirtual 57, 3) := by decide +kernel
theorem dX4_queue_24 : decode cX4_queue 24 = .ok (.ireturn, 1) := by decide +kernel
theorem dX4_queue_25 : decode cX4_queue 25 = .ok (.aload_n 0, 1) := by decide +kernel
theorem dX4_queue_26 : decode cX4_queue 26 = .ok (.getfield 10, 3) := by decide +kernel
theorem dX4_queue_29 : decode cX4_queue 29 = .ok (.iload_n 1, 1) := by decide +kernel
theorem dX4_queue_30 : decode cX4_queue 30 = .ok (.invokevirtual 73, 3) := by decide +kernel
theorem dX4_queue_33 : decode cX4_queue 33 = .ok (.istore_n 3, 1) := by decide +kernel
theorem dX4_queue_34 : decode cX4_queue 34 = .ok (.aload_n 0, 1) := by decide +kernel
theorem dX4_queue_35 : decode cX4_queue 35 = .ok (.getfield 10, 3) := by decide +kernel
theorem dX4_queue_38 : decode cX4_queue 38 = .ok (.iload_n 1, 1) := by decide +kernel
theorem dX4_queue_39 : decode cX4_queue 39 = .ok (.iload_n 2, 1) := by decide +kernel
theorem dX4_queue_40 : decode cX4_queue 40 = .ok (.invokevirtual 76, 3) := by decide +kernel
theorem dX4_queue_43 : decode cX4_queue 43 = .ok (.iload_n 3, 1) := by decide +kernel
theorem dX4_queue_44 : decode cX4_queue 44 = .ok (.ireturn, 1) := by decide +kernel
theorem dX4_place_0 : decode cX4_place 0 = .ok (.iload_n 1, 1) := by decide +kernel
theorem dX4_place_1 : decode cX4_place 1 = .ok (.invokestatic 67, 3) := by decide +kernel
theorem dX4_place_4 : decode cX4_place 4 = .ok (.ifCond .eq 14, 3) := by decide +kernel
theorem dX4_place_7 : decode cX4_place 7 = .ok (.aload_n 0, 1) := by decide +kernel
theorem dX4_place_8 : decode cX4_place 8 = .ok (.getfield 10, 3) := by decide +kernel
theorem dX4_place_11 : decode cX4_place 11 = .ok (.iload_n 1, 1) := by decide +kernel
theorem dX4_place_12 : decode cX4_place 12 = .ok (.invokevirtual 73, 3) := by decide +kernel
theorem dX4_place_15 : decode cX4_place 15 = .ok (.goto 9, 3) := by decide +kernel
theorem dX4_place_18 : decode cX4_place 18 = .ok (.aload_n 0, 1) := by decide +kernel
theorem dX4_place_19 : decode cX4_place 19 = .ok (.ldc 56, 2) := by decide +kernel
theorem dX4_place_21 : decode cX4_place 21 = .ok (.invokevirtual 57, 3) := by decide +kernel
theorem dX4_place_24 : decode cX4_place 24 = .ok (.ireturn, 1) := by decide +kernel
theorem dX4_sitter_0 : decode cX4_sitter 0 = .ok (.iload_n 1, 1) := by decide +kernel
theorem dX4_sitter_1 : decode cX4_sitter 1 = .ok (.bipush 6, 2) := by decide +kernel
theorem dX4_sitter_3 : decode cX4_sitter 3 = .ok (.invokestatic 52, 3) := by decide +kernel
theorem dX4_sitter_6 : decode cX4_sitter 6 = .ok (.ifCond .eq 14, 3) := by decide +kernel
theorem dX4_sitter_9 : decode cX4_sitter 9 = .ok (.iload_n 2, 1) := by decide +kernel
theorem dX4_sitter_10 : decode cX4_sitter 10 = .ok (.iconst 1, 1) := by decide +kernel
theorem dX4_sitter_11 : decode cX4_sitter 11 = .ok (.invokestatic 79, 3) := by decide +kernel
theorem dX4_sitter_14 : decode cX4_sitter 14 = .ok (.invokestatic 52, 3) := by decide +kernel
theorem dX4_sitter_17 : decode cX4_sitter 17 = .ok (.ifCond .ne 10, 3) := by decide +kernel
theorem dX4_sitter_20 : decode cX4_sitter 20 = .ok (.aload_n 0, 1) := by decide +kernel
theorem dX4_sitter_21 : decode cX4_sitter 21 = .ok (.ldc 56, 2) := by decide +kernel
theorem dX4_sitter_23 : decode cX4_sitter 23 = .ok (.invokevirtual 57, 3) := by decide +kernel
theorem dX4_sitter_26 : decode cX4_sitter 26 = .ok (.ireturn, 1) := by decide +kernel
theorem dX4_sitter_27 : decode cX4_sitter 27 = .ok (.aload_n 0, 1) := by decide +kernel
theorem dX4_sitter_28 : decode cX4_sitter 28 = .ok (.getfield 10, 3) := by decide +kernel
theorem dX4_sitter_31 : decode cX4_sitter 31 = .ok (.iload_n 1, 1) := by decide +kernel
theorem dX4_sitter_32 : decode cX4_sitter 32 = .ok (.invokevirtual 82, 3) := by decide +kernel
theorem dX4_sitter_35 : decode cX4_sitter 35 = .ok (.istore_n 3, 1) := by decide +kernel
theorem dX4_sitter_36 : decode cX4_sitter 36 = .ok (.iload_n 3, 1) := by decide +kernel
theorem dX4_sitter_37 : decode cX4_sitter 37 = .ok (.ifCond .ge 10, 3) := by decide +kernel
theorem dX4_sitter_40 : decode cX4_sitter 40 = .ok (.aload_n 0, 1) := by decide +kernel
theorem dX4_sitter_41 : decode cX4_sitter 41 = .ok (.ldc 85, 2) := by decide +kernel
theorem dX4_sitter_43 : decode cX4_sitter 43 = .ok (.invokevirtual 57, 3) := by decide +kernel
theorem dX4_sitter_46 : decode cX4_sitter 46 = .ok (.ireturn, 1) := by decide +kernel
theorem dX4_sitter_47 : decode cX4_sitter 47 = .ok (.aload_n 0, 1) := by decide +kernel
theorem dX4_sitter_48 : decode cX4_sitter 48 = .ok (.getfield 10, 3) := by decide +kernel
theorem dX4_sitter_51 : decode cX4_sitter 51 = .ok (.iload_n 3, 1) := by decide +kernel
theorem dX4_sitter_52 : decode cX4_sitter 52 = .ok (.iconst 1, 1) := by decide +kernel
theorem dX4_sitter_53 : decode cX4_sitter 53 = .ok (.iload_n 2, 1) := by decide +kernel
theorem dX4_sitter_54 : decode cX4_sitter 54 = .ok (.invokevirtual 86, 3) := by decide +kernel
theorem dX4_sitter_57 : decode cX4_sitter 57 = .ok (.iload_n 3, 1) := by decide +kernel
theorem dX4_sitter_58 : decode cX4_sitter 58 = .ok (.ireturn, 1) := by decide +kernel
theorem dX4_of_0 : decode cX4_of 0 = .ok (.aload_n 0, 1) := by decide +kernel
theorem dX4_of_1 : decode cX4_of 1 = .ok (.getfield 10, 3) := by decide +kernel
theorem dX4_of_4 : decode cX4_of 4 = .ok (.iload_n 1, 1) := by decide +kernel
theorem dX4_of_5 : decode cX4_of 5 = .ok (.invokevirtual 90, 3) := by decide +kernel
theorem dX4_of_8 : decode cX4_of 8 = .ok (.astore_n 3, 1) := by decide +kernel
theorem dX4_of_9 : decode cX4_of 9 = .ok (.aload_n 3, 1) := by decide +kernel
theorem dX4_of_10 : decode cX4_of 10 = .ok (.ifnull 12, 3) := by decide +kernel
theorem dX4_of_13 : decode cX4_of 13 = .ok (.iload_n 2, 1) := by decide +kernel
theorem dX4_of_14 : decode cX4_of 14 = .ok (.bipush 8, 2) := by decide +kernel
theorem dX4_of_16 : decode cX4_of 16 = .ok (.invokestatic 52, 3) := by decide +kernel
theorem dX4_of_19 : decode cX4_of 19 = .ok (.ifCond .ne 10, 3) := by decide +kernel
theorem dX4_of_22 : decode cX4_of 22 = .ok (.aload_n 0, 1) := by decide +kernel
theorem dX4_of_23 : decode cX4_of 23 = .ok (.ldc 56, 2) := by decide +kernel
theorem dX4_of_25 : decode cX4_of 25 = .ok (.invokevirtual 57, 3) := by decide +kernel
theorem dX4_of_28 : decode cX4_of 28 = .ok (.ireturn, 1) := by decide +kernel
theorem dX4_of_29 : decode cX4_of 29 = .ok (.iload_n 2, 1) := by decide +kernel
theorem dX4_of_30 : decode cX4_of 30 = .ok (.bipush 7, 2) := by decide +kernel
theorem dX4_of_32 : decode cX4_of 32 = .ok (.if_icmp .ne 15, 3) := by decide +kernel
theorem dX4_of_35 : decode cX4_of 35 = .ok (.aload_n 3, 1) := by decide +kernel
theorem dX4_of_36 : decode cX4_of 36 = .ok (.aload_n 0, 1) := by decide +kernel
theorem dX4_of_37 : decode cX4_of 37 = .ok (.getfield 10, 3) := by decide +kernel
theorem dX4_of_40 : decode cX4_of 40 = .ok (.getfield 94, 3) := by decide +kernel
theorem dX4_of_43 : decode cX4_of 43 = .ok (.invokevirtual 98, 3) := by decide +kernel
theorem dX4_of_46 : decode cX4_of 46 = .ok (.ireturn, 1) := by decide +kernel
theorem dX4_of_47 : decode cX4_of 47 = .ok (.iload_n 2, 1) := by decide +kernel
theorem dX4_of_48 : decode cX4_of 48 = .ok (.bipush 8, 2) := by decide +kernel
theorem dX4_of_50 : decode cX4_of 50 = .ok (.if_icmp .ne 10, 3) := by decide +kernel
theorem dX4_of_53 : decode cX4_of 53 = .ok (.aload_n 3, 1) := by decide +kernel
theorem dX4_of_54 : decode cX4_of 54 = .ok (.invokevirtual 101, 3) := by decide +kernel
theorem dX4_of_57 : decode cX4_of 57 = .ok (.goto 8, 3) := by decide +kernel
theorem dX4_of_60 : decode cX4_of 60 = .ok (.aload_n 3, 1) := by decide +kernel
theorem dX4_of_61 : decode cX4_of 61 = .ok (.iload_n 2, 1) := by decide +kernel
theorem dX4_of_62 : decode cX4_of 62 = .ok (.invokevirtual 105, 3) := by decide +kernel
theorem dX4_of_65 : decode cX4_of 65 = .ok (.ireturn, 1) := by decide +kernel
theorem dX4_change_0 : decode cX4_change 0 = .ok (.aload_n 0, 1) := by decide +kernel
theorem dX4_change_1 : decode cX4_change 1 = .ok (.getfield 10, 3) := by decide +kernel
theorem dX4_change_4 : decode cX4_change 4 = .ok (.iload_n 1, 1) := by decide +kernel
theorem dX4_change_5 : decode cX4_change 5 = .ok (.invokevirtual 90, 3) := by decide +kernel
theorem dX4_change_8 : decode cX4_change 8 = .ok (.astore 4, 2) := by decide +kernel
theorem dX4_change_10 : decode cX4_change 10 = .ok (.aload 4, 2) := by decide +kernel
theorem dX4_change_12 : decode cX4_change 12 = .ok (.ifnull 23, 3) := by decide +kernel
theorem dX4_change_15 : decode cX4_change 15 = .ok (.iload_n 2, 1) := by decide +kernel
theorem dX4_change_16 : decode cX4_change 16 = .ok (.bipush 6, 2) := by decide +kernel
theorem dX4_change_18 : decode cX4_change 18 = .ok (.invokestatic 52, 3) := by decide +kernel
theorem dX4_change_21 : decode cX4_change 21 = .ok (.ifCond .eq 14, 3) := by decide +kernel
theorem dX4_change_24 : decode cX4_change 24 = .ok (.iload_n 3, 1) := by decide +kernel
theorem dX4_change_25 : decode cX4_change 25 = .ok (.iload_n 2, 1) := by decide +kernel
theorem dX4_change_26 : decode cX4_change 26 = .ok (.invokestatic 79, 3) := by decide +kernel
theorem dX4_change_29 : decode cX4_change 29 = .ok (.invokestatic 52, 3) := by decide +kernel
theorem dX4_change_32 : decode cX4_change 32 = .ok (.ifCond .ne 10, 3) := by decide +kernel
theorem dX4_change_35 : decode cX4_change 35 = .ok (.aload_n 0, 1) := by decide +kernel
theorem dX4_change_36 : decode cX4_change 36 = .ok (.ldc 56, 2) := by decide +kernel
theorem dX4_change_38 : decode cX4_change 38 = .ok (.invokevirtual 57, 3) := by decide +kernel
theorem dX4_change_41 : decode cX4_change 41 = .ok (.ireturn, 1) := by decide +kernel
theorem dX4_change_42 : decode cX4_change 42 = .ok (.aload 4, 2) := by decide +kernel
theorem dX4_change_44 : decode cX4_change 44 = .ok (.iload_n 2, 1) := by decide +kernel
theorem dX4_change_45 : decode cX4_change 45 = .ok (.invokevirtual 105, 3) := by decide +kernel
theorem dX4_change_48 : decode cX4_change 48 = .ok (.istore 5, 2) := by decide +kernel
theorem dX4_change_50 : decode cX4_change 50 = .ok (.aload 4, 2) := by decide +kernel
theorem dX4_change_52 : decode cX4_change 52 = .ok (.iload_n 2, 1) := by decide +kernel
theorem dX4_change_53 : decode cX4_change 53 = .ok (.iload_n 3, 1) := by decide +kernel
theorem dX4_change_54 : decode cX4_change 54 = .ok (.invokevirtual 106, 3) := by decide +kernel
theorem dX4_change_57 : decode cX4_change 57 = .ok (.iload 5, 2) := by decide +kernel
theorem dX4_change_59 : decode cX4_change 59 = .ok (.ireturn, 1) := by decide +kernel
theorem dX4_faults_0 : decode cX4_faults 0 = .ok (.aload_n 0, 1) := by decide +kernel
theorem dX4_faults_1 : decode cX4_faults 1 = .ok (.getfield 10, 3) := by decide +kernel
theorem dX4_faults_4 : decode cX4_faults 4 = .ok (.iload_n 1, 1) := by decide +kernel
theorem dX4_faults_5 : decode cX4_faults 5 = .ok (.invokevirtual 90, 3) := by decide +kernel
theorem dX4_faults_8 : decode cX4_faults 8 = .ok (.astore_n 3, 1) := by decide +kernel
theorem dX4_faults_9 : decode cX4_faults 9 = .ok (.aload_n 3, 1) := by decide +kernel
theorem dX4_faults_10 : decode cX4_faults 10 = .ok (.ifnull 11, 3) := by decide +kernel
theorem dX4_faults_13 : decode cX4_faults 13 = .ok (.iload_n 2, 1) := by decide +kernel
theorem dX4_faults_14 : decode cX4_faults 14 = .ok (.iconst 3, 1) := by decide +kernel
theorem dX4_faults_15 : decode cX4_faults 15 = .ok (.invokestatic 52, 3) := by decide +kernel
theorem dX4_faults_18 : decode cX4_faults 18 = .ok (.ifCond .ne 10, 3) := by decide +kernel
theorem dX4_faults_21 : decode cX4_faults 21 = .ok (.aload_n 0, 1) := by decide +kernel
theorem dX4_faults_22 : decode cX4_faults 22 = .ok (.ldc 56, 2) := by decide +kernel
theorem dX4_faults_24 : decode cX4_faults 24 = .ok (.invokevirtual 57, 3) := by decide +kernel
theorem dX4_faults_27 : decode cX4_faults 27 = .ok (.ireturn, 1) := by decide +kernel
theorem dX4_faults_28 : decode cX4_faults 28 = .ok (.aload_n 0, 1) := by decide +kernel
theorem dX4_faults_29 : decode cX4_faults 29 = .ok (.getfield 10, 3) := by decide +kernel
theorem dX4_faults_32 : decode cX4_faults 32 = .ok (.aload_n 3, 1) := by decide +kernel
theorem dX4_faults_33 : decode cX4_faults 33 = .ok (.iload_n 2, 1) := by decide +kernel
theorem dX4_faults_34 : decode cX4_faults 34 = .ok (.invokevirtual 107, 3) := by decide +kernel
theorem dX4_faults_37 : decode cX4_faults 37 = .ok (.ireturn, 1) := by decide +kernel
theorem dX4_best_0 : decode cX4_best 0 = .ok (.aload_n 0, 1) := by decide +kernel
theorem dX4_best_1 : decode cX4_best 1 = .ok (.getfield 10, 3) := by decide +kernel
theorem dX4_best_4 : decode cX4_best 4 = .ok (.iload_n 1, 1) := by decide +kernel
theorem dX4_best_5 : decode cX4_best 5 = .ok (.invokevirtual 90, 3) := by decide +kernel
theorem dX4_best_8 : decode cX4_best 8 = .ok (.astore_n 2, 1) := by decide +kernel
theorem dX4_best_9 : decode cX4_best 9 = .ok (.aload_n 2, 1) := by decide +kernel
theorem dX4_best_10 : decode cX4_best 10 = .ok (.ifnonnull 10, 3) := by decide +kernel
theorem dX4_best_13 : decode cX4_best 13 = .ok (.aload_n 0, 1) := by decide +kernel
theorem dX4_best_14 : decode cX4_best 14 = .ok (.ldc 56, 2) := by decide +kernel
theorem dX4_best_16 : decode cX4_best 16 = .ok (.invokevirtual 57, 3) := by decide +kernel
theorem dX4_best_19 : decode cX4_best 19 = .ok (.ireturn, 1) := by decide +kernel
theorem dX4_best_20 : decode cX4_best 20 = .ok (.iconst 0, 1) := by decide +kernel
theorem dX4_best_21 : decode cX4_best 21 = .ok (.istore_n 3, 1) := by decide +kernel
theorem dX4_best_22 : decode cX4_best 22 = .ok (.iconst 1, 1) := by decide +kernel
theorem dX4_best_23 : decode cX4_best 23 = .ok (.istore 4, 2) := by decide +kernel
theorem dX4_best_25 : decode cX4_best 25 = .ok (.iload 4, 2) := by decide +kernel
theorem dX4_best_27 : decode cX4_best 27 = .ok (.iconst 4, 1) := by decide +kernel
theorem dX4_best_28 : decode cX4_best 28 = .ok (.if_icmp .ge 40, 3) := by decide +kernel
theorem dX4_best_31 : decode cX4_best 31 = .ok (.aload_n 0, 1) := by decide +kernel
theorem dX4_best_32 : decode cX4_best 32 = .ok (.getfield 10, 3) := by decide +kernel
theorem dX4_best_35 : decode cX4_best 35 = .ok (.aload_n 2, 1) := by decide +kernel
theorem dX4_best_36 : decode cX4_best 36 = .ok (.iload 4, 2) := by decide +kernel
theorem dX4_best_38 : decode cX4_best 38 = .ok (.invokevirtual 107, 3) := by decide +kernel
theorem dX4_best_41 : decode cX4_best 41 = .ok (.invokestatic 111, 3) := by decide +kernel
theorem dX4_best_44 : decode cX4_best 44 = .ok (.aload_n 0, 1) := by decide +kernel
theorem dX4_best_45 : decode cX4_best 45 = .ok (.getfield 10, 3) := by decide +kernel
theorem dX4_best_48 : decode cX4_best 48 = .ok (.aload_n 2, 1) := by decide +kernel
theorem dX4_best_49 : decode cX4_best 49 = .ok (.iload_n 3, 1) := by decide +kernel
theorem dX4_best_50 : decode cX4_best 50 = .ok (.invokevirtual 107, 3) := by decide +kernel
theorem dX4_best_53 : decode cX4_best 53 = .ok (.invokestatic 111, 3) := by decide +kernel
theorem dX4_best_56 : decode cX4_best 56 = .ok (.if_icmp .ge 6, 3) := by decide +kernel
theorem dX4_best_59 : decode cX4_best 59 = .ok (.iload 4, 2) := by decide +kernel
theorem dX4_best_61 : decode cX4_best 61 = .ok (.istore_n 3, 1) := by decide +kernel
theorem dX4_best_62 : decode cX4_best 62 = .ok (.iinc 4 1, 3) := by decide +kernel
theorem dX4_best_65 : decode cX4_best 65 = .ok (.goto (-40), 3) := by decide +kernel
theorem dX4_best_68 : decode cX4_best 68 = .ok (.iload_n 3, 1) := by decide +kernel
theorem dX4_best_69 : decode cX4_best 69 = .ok (.ireturn, 1) := by decide +kernel
theorem dX4_go_0 : decode cX4_go 0 = .ok (.iload_n 1, 1) := by decide +kernel
theorem dX4_go_1 : decode cX4_go 1 = .ok (.iconst 1, 1) := by decide +kernel
theorem dX4_go_2 : decode cX4_go 2 = .ok (.if_icmp .lt 9, 3) := by decide +kernel
theorem dX4_go_5 : decode cX4_go 5 = .ok (.iload_n 1, 1) := by decide +kernel
theorem dX4_go_6 : decode cX4_go 6 = .ok (.bipush 100, 2) := by decide +kernel
theorem dX4_go_8 : decode cX4_go 8 = .ok (.if_icmp .le 10, 3) := by decide +kernel
theorem dX4_go_11 : decode cX4_go 11 = .ok (.aload_n 0, 1) := by decide +kernel
theorem dX4_go_12 : decode cX4_go 12 = .ok (.ldc 56, 2) := by decide +kernel
theorem dX4_go_14 : decode cX4_go 14 = .ok (.invokevirtual 57, 3) := by decide +kernel
theorem dX4_go_17 : decode cX4_go 17 = .ok (.ireturn, 1) := by decide +kernel
theorem dX4_go_18 : decode cX4_go 18 = .ok (.aload_n 0, 1) := by decide +kernel
theorem dX4_go_19 : decode cX4_go 19 = .ok (.getfield 10, 3) := by decide +kernel
theorem dX4_go_22 : decode cX4_go 22 = .ok (.getfield 116, 3) := by decide +kernel
theorem dX4_go_25 : decode cX4_go 25 = .ok (.iload_n 1, 1) := by decide +kernel
theorem dX4_go_26 : decode cX4_go 26 = .ok (.iadd, 1) := by decide +kernel
theorem dX4_go_27 : decode cX4_go 27 = .ok (.ldc 119, 2) := by decide +kernel
theorem dX4_go_29 : decode cX4_go 29 = .ok (.if_icmp .le 10, 3) := by decide +kernel
theorem dX4_go_32 : decode cX4_go 32 = .ok (.aload_n 0, 1) := by decide +kernel
theorem dX4_go_33 : decode cX4_go 33 = .ok (.ldc 120, 2) := by decide +kernel
theorem dX4_go_35 : decode cX4_go 35 = .ok (.invokevirtual 57, 3) := by decide +kernel
theorem dX4_go_38 : decode cX4_go 38 = .ok (.ireturn, 1) := by decide +kernel
theorem dX4_go_39 : decode cX4_go 39 = .ok (.aload_n 0, 1) := by decide +kernel
theorem dX4_go_40 : decode cX4_go 40 = .ok (.getfield 10, 3) := by decide +kernel
theorem dX4_go_43 : decode cX4_go 43 = .ok (.iload_n 1, 1) := by decide +kernel
theorem dX4_go_44 : decode cX4_go 44 = .ok (.invokevirtual 121, 3) := by decide +kernel
theorem dX4_go_47 : decode cX4_go 47 = .ok (.aload_n 0, 1) := by decide +kernel
theorem dX4_go_48 : decode cX4_go 48 = .ok (.getfield 10, 3) := by decide +kernel
theorem dX4_go_51 : decode cX4_go 51 = .ok (.iconst 5, 1) := by decide +kernel
theorem dX4_go_52 : decode cX4_go 52 = .ok (.invokevirtual 125, 3) := by decide +kernel
theorem dX4_go_55 : decode cX4_go 55 = .ok (.ireturn, 1) := by decide +kernel
theorem dX4_now_0 : decode cX4_now 0 = .ok (.iload_n 1, 1) := by decide +kernel
theorem dX4_now_1 : decode cX4_now 1 = .ok (.tableswitch 110 0 6 #[43, 51, 60, 70, 79, 94, 102], 43) := by decide +kernel
theorem dX4_now_44 : decode cX4_now 44 = .ok (.aload_n 0, 1) := by decide +kernel
theorem dX4_now_45 : decode cX4_now 45 = .ok (.getfield 10, 3) := by decide +kernel
theorem dX4_now_48 : decode cX4_now 48 = .ok (.getfield 116, 3) := by decide +kernel
theorem dX4_now_51 : decode cX4_now 51 = .ok (.ireturn, 1) := by decide +kernel
theorem dX4_now_52 : decode cX4_now 52 = .ok (.aload_n 0, 1) := by decide +kernel
theorem dX4_now_53 : decode cX4_now 53 = .ok (.getfield 10, 3) := by decide +kernel
theorem dX4_now_56 : decode cX4_now 56 = .ok (.iconst 5, 1) := by decide +kernel
theorem dX4_now_57 : decode cX4_now 57 = .ok (.invokevirtual 125, 3) := by decide +kernel
theorem dX4_now_60 : decode cX4_now 60 = .ok (.ireturn, 1) := by decide +kernel
theorem dX4_now_61 : decode cX4_now 61 = .ok (.aload_n 0, 1) := by decide +kernel
theorem dX4_now_62 : decode cX4_now 62 = .ok (.getfield 10, 3) := by decide +kernel
theorem dX4_now_65 : decode cX4_now 65 = .ok (.bipush 6, 2) := by decide +kernel
theorem dX4_now_67 : decode cX4_now 67 = .ok (.invokevirtual 125, 3) := by decide +kernel
theorem dX4_now_70 : decode cX4_now 70 = .ok (.ireturn, 1) := by decide +kernel
theorem dX4_now_71 : decode cX4_now 71 = .ok (.aload_n 0, 1) := by decide +kernel
theorem dX4_now_72 : decode cX4_now 72 = .ok (.getfield 10, 3) := by decide +kernel
theorem dX4_now_75 : decode cX4_now 75 = .ok (.iconst 4, 1) := by decide +kernel
theorem dX4_now_76 : decode cX4_now 76 = .ok (.invokevirtual 125, 3) := by decide +kernel
theorem dX4_now_79 : decode cX4_now 79 = .ok (.ireturn, 1) := by decide +kernel
theorem dX4_now_80 : decode cX4_now 80 = .ok (.aload_n 0, 1) := by decide +kernel
theorem dX4_now_81 : decode cX4_now 81 = .ok (.getfield 10, 3) := by decide +kernel
theorem dX4_now_84 : decode cX4_now 84 = .ok (.aload_n 0, 1) := by decide +kernel
theorem dX4_now_85 : decode cX4_now 85 = .ok (.getfield 10, 3) := by decide +kernel
theorem dX4_now_88 : decode cX4_now 88 = .ok (.invokevirtual 128, 3) := by decide +kernel
theorem dX4_now_91 : decode cX4_now 91 = .ok (.invokevirtual 73, 3) := by decide +kernel
theorem dX4_now_94 : decode cX4_now 94 = .ok (.ireturn, 1) := by decide +kernel
theorem dX4_now_95 : decode cX4_now 95 = .ok (.aload_n 0, 1) := by decide +kernel
theorem dX4_now_96 : decode cX4_now 96 = .ok (.getfield 10, 3) := by decide +kernel
theorem dX4_now_99 : decode cX4_now 99 = .ok (.invokevirtual 131, 3) := by decide +kernel
theorem dX4_now_102 : decode cX4_now 102 = .ok (.ireturn, 1) := by decide +kernel
theorem dX4_now_103 : decode cX4_now 103 = .ok (.aload_n 0, 1) := by decide +kernel
theorem dX4_now_104 : decode cX4_now 104 = .ok (.getfield 10, 3) := by decide +kernel
theorem dX4_now_107 : decode cX4_now 107 = .ok (.invokevirtual 134, 3) := by decide +kernel
theorem dX4_now_110 : decode cX4_now 110 = .ok (.ireturn, 1) := by decide +kernel
theorem dX4_now_111 : decode cX4_now 111 = .ok (.aload_n 0, 1) := by decide +kernel
theorem dX4_now_112 : decode cX4_now 112 = .ok (.ldc 56, 2) := by decide +kernel
theorem dX4_now_114 : decode cX4_now 114 = .ok (.invokevirtual 57, 3) := by decide +kernel
theorem dX4_now_117 : decode cX4_now 117 = .ok (.ireturn, 1) := by decide +kernel
theorem dX4_ahead_0 : decode cX4_ahead 0 = .ok (.aload_n 0, 1) := by decide +kernel
theorem dX4_ahead_1 : decode cX4_ahead 1 = .ok (.getfield 10, 3) := by decide +kernel
theorem dX4_ahead_4 : decode cX4_ahead 4 = .ok (.iload_n 1, 1) := by decide +kernel
theorem dX4_ahead_5 : decode cX4_ahead 5 = .ok (.invokevirtual 137, 3) := by decide +kernel
theorem dX4_ahead_8 : decode cX4_ahead 8 = .ok (.ifCond .eq 24, 3) := by decide +kernel
theorem dX4_ahead_11 : decode cX4_ahead 11 = .ok (.iload_n 2, 1) := by decide +kernel
theorem dX4_ahead_12 : decode cX4_ahead 12 = .ok (.iconst 2, 1) := by decide +kernel
theorem dX4_ahead_13 : decode cX4_ahead 13 = .ok (.if_icmp .lt 19, 3) := by decide +kernel
theorem dX4_ahead_16 : decode cX4_ahead 16 = .ok (.iload_n 2, 1) := by decide +kernel
theorem dX4_ahead_17 : decode cX4_ahead 17 = .ok (.bipush 6, 2) := by decide +kernel
theorem dX4_ahead_19 : decode cX4_ahead 19 = .ok (.if_icmp .gt 13, 3) := by decide +kernel
theorem dX4_ahead_22 : decode cX4_ahead 22 = .ok (.iload_n 3, 1) := by decide +kernel
theorem dX4_ahead_23 : decode cX4_ahead 23 = .ok (.sipush 200, 3) := by decide +kernel
theorem dX4_ahead_26 : decode cX4_ahead 26 = .ok (.invokestatic 52, 3) := by decide +kernel
theorem dX4_ahead_29 : decode cX4_ahead 29 = .ok (.ifCond .ne 10, 3) := by decide +kernel
theorem dX4_ahead_32 : decode cX4_ahead 32 = .ok (.aload_n 0, 1) := by decide +kernel
theorem dX4_ahead_33 : decode cX4_ahead 33 = .ok (.ldc 56, 2) := by decide +kernel
theorem dX4_ahead_35 : decode cX4_ahead 35 = .ok (.invokevirtual 57, 3) := by decide +kernel
theorem dX4_ahead_38 : decode cX4_ahead 38 = .ok (.ireturn, 1) := by decide +kernel
theorem dX4_ahead_39 : decode cX4_ahead 39 = .ok (.aload_n 0, 1) := by decide +kernel
theorem dX4_ahead_40 : decode cX4_ahead 40 = .ok (.getfield 16, 3) := by decide +kernel
theorem dX4_ahead_43 : decode cX4_ahead 43 = .ok (.aload_n 0, 1) := by decide +kernel
theorem dX4_ahead_44 : decode cX4_ahead 44 = .ok (.getfield 10, 3) := by decide +kernel
theorem dX4_ahead_47 : decode cX4_ahead 47 = .ok (.invokevirtual 140, 3) := by decide +kernel
theorem dX4_ahead_50 : decode cX4_ahead 50 = .ok (.aload_n 0, 1) := by decide +kernel
theorem dX4_ahead_51 : decode cX4_ahead 51 = .ok (.getfield 16, 3) := by decide +kernel
theorem dX4_ahead_54 : decode cX4_ahead 54 = .ok (.iload_n 3, 1) := by decide +kernel
theorem dX4_ahead_55 : decode cX4_ahead 55 = .ok (.invokevirtual 121, 3) := by decide +kernel
theorem dX4_ahead_58 : decode cX4_ahead 58 = .ok (.aload_n 0, 1) := by decide +kernel
theorem dX4_ahead_59 : decode cX4_ahead 59 = .ok (.getfield 16, 3) := by decide +kernel
theorem dX4_ahead_62 : decode cX4_ahead 62 = .ok (.iload_n 1, 1) := by decide +kernel
theorem dX4_ahead_63 : decode cX4_ahead 63 = .ok (.iload_n 2, 1) := by decide +kernel
theorem dX4_ahead_64 : decode cX4_ahead 64 = .ok (.invokevirtual 144, 3) := by decide +kernel
theorem dX4_ahead_67 : decode cX4_ahead 67 = .ok (.ireturn, 1) := by decide +kernel
theorem dX4_later_0 : decode cX4_later 0 = .ok (.iload_n 1, 1) := by decide +kernel
theorem dX4_later_1 : decode cX4_later 1 = .ok (.ifCond .eq 8, 3) := by decide +kernel
theorem dX4_later_4 : decode cX4_later 4 = .ok (.iload_n 1, 1) := by decide +kernel
theorem dX4_later_5 : decode cX4_later 5 = .ok (.iconst 3, 1) := by decide +kernel
theorem dX4_later_6 : decode cX4_later 6 = .ok (.if_icmp .ne 13, 3) := by decide +kernel
theorem dX4_later_9 : decode cX4_later 9 = .ok (.iload_n 2, 1) := by decide +kernel
theorem dX4_later_10 : decode cX4_later 10 = .ok (.sipush 200, 3) := by decide +kernel
theorem dX4_later_13 : decode cX4_later 13 = .ok (.invokestatic 52, 3) := by decide +kernel
theorem dX4_later_16 : decode cX4_later 16 = .ok (.ifCond .ne 10, 3) := by decide +kernel
theorem dX4_later_19 : decode cX4_later 19 = .ok (.aload_n 0, 1) := by decide +kernel
theorem dX4_later_20 : decode cX4_later 20 = .ok (.ldc 56, 2) := by decide +kernel
theorem dX4_later_22 : decode cX4_later 22 = .ok (.invokevirtual 57, 3) := by decide +kernel
theorem dX4_later_25 : decode cX4_later 25 = .ok (.ireturn, 1) := by decide +kernel
theorem dX4_later_26 : decode cX4_later 26 = .ok (.aload_n 0, 1) := by decide +kernel
theorem dX4_later_27 : decode cX4_later 27 = .ok (.getfield 16, 3) := by decide +kernel
theorem dX4_later_30 : decode cX4_later 30 = .ok (.aload_n 0, 1) := by decide +kernel
theorem dX4_later_31 : decode cX4_later 31 = .ok (.getfield 10, 3) := by decide +kernel
theorem dX4_later_34 : decode cX4_later 34 = .ok (.invokevirtual 140, 3) := by decide +kernel
theorem dX4_later_37 : decode cX4_later 37 = .ok (.aload_n 0, 1) := by decide +kernel
theorem dX4_later_38 : decode cX4_later 38 = .ok (.getfield 16, 3) := by decide +kernel
theorem dX4_later_41 : decode cX4_later 41 = .ok (.iload_n 2, 1) := by decide +kernel
theorem dX4_later_42 : decode cX4_later 42 = .ok (.invokevirtual 121, 3) := by decide +kernel
theorem dX4_later_45 : decode cX4_later 45 = .ok (.aload_n 0, 1) := by decide +kernel
theorem dX4_later_46 : decode cX4_later 46 = .ok (.getfield 16, 3) := by decide +kernel
theorem dX4_later_49 : decode cX4_later 49 = .ok (.iload_n 1, 1) := by decide +kernel
theorem dX4_later_50 : decode cX4_later 50 = .ok (.invokevirtual 60, 3) := by decide +kernel
theorem dX4_later_53 : decode cX4_later 53 = .ok (.ireturn, 1) := by decide +kernel
theorem dX4_when_0 : decode cX4_when 0 = .ok (.aload_n 0, 1) := by decide +kernel
theorem dX4_when_1 : decode cX4_when 1 = .ok (.getfield 10, 3) := by decide +kernel
theorem dX4_when_4 : decode cX4_when 4 = .ok (.iload_n 1, 1) := by decide +kernel
theorem dX4_when_5 : decode cX4_when 5 = .ok (.invokevirtual 137, 3) := by decide +kernel
theorem dX4_when_8 : decode cX4_when 8 = .ok (.ifCond .eq 14, 3) := by decide +kernel
theorem dX4_when_11 : decode cX4_when 11 = .ok (.iload_n 2, 1) := by decide +kernel
theorem dX4_when_12 : decode cX4_when 12 = .ok (.iconst 5, 1) := by decide +kernel
theorem dX4_when_13 : decode cX4_when 13 = .ok (.invokestatic 79, 3) := by decide +kernel
theorem dX4_when_16 : decode cX4_when 16 = .ok (.invokestatic 52, 3) := by decide +kernel
theorem dX4_when_19 : decode cX4_when 19 = .ok (.ifCond .ne 10, 3) := by decide +kernel
theorem dX4_when_22 : decode cX4_when 22 = .ok (.aload_n 0, 1) := by decide +kernel
theorem dX4_when_23 : decode cX4_when 23 = .ok (.ldc 56, 2) := by decide +kernel
theorem dX4_when_25 : decode cX4_when 25 = .ok (.invokevirtual 57, 3) := by decide +kernel
theorem dX4_when_28 : decode cX4_when 28 = .ok (.ireturn, 1) := by decide +kernel
theorem dX4_when_29 : decode cX4_when 29 = .ok (.aload_n 0, 1) := by decide +kernel
theorem dX4_when_30 : decode cX4_when 30 = .ok (.getfield 16, 3) := by decide +kernel
theorem dX4_when_33 : decode cX4_when 33 = .ok (.aload_n 0, 1) := by decide +kernel
theorem dX4_when_34 : decode cX4_when 34 = .ok (.getfield 10, 3) := by decide +kernel
theorem dX4_when_37 : decode cX4_when 37 = .ok (.invokevirtual 140, 3) := by decide +kernel
theorem dX4_when_40 : decode cX4_when 40 = .ok (.iconst 0, 1) := by decide +kernel
theorem dX4_when_41 : decode cX4_when 41 = .ok (.istore_n 3, 1) := by decide +kernel
theorem dX4_when_42 : decode cX4_when 42 = .ok (.iload_n 3, 1) := by decide +kernel
theorem dX4_when_43 : decode cX4_when 43 = .ok (.sipush 200, 3) := by decide +kernel
theorem dX4_when_46 : decode cX4_when 46 = .ok (.if_icmp .gt 31, 3) := by decide +kernel
theorem dX4_when_49 : decode cX4_when 49 = .ok (.aload_n 0, 1) := by decide +kernel
theorem dX4_when_50 : decode cX4_when 50 = .ok (.getfield 16, 3) := by decide +kernel
theorem dX4_when_53 : decode cX4_when 53 = .ok (.iload_n 1, 1) := by decide +kernel
theorem dX4_when_54 : decode cX4_when 54 = .ok (.iconst 5, 1) := by decide +kernel
theorem dX4_when_55 : decode cX4_when 55 = .ok (.invokevirtual 144, 3) := by decide +kernel
theorem dX4_when_58 : decode cX4_when 58 = .ok (.iload_n 2, 1) := by decide +kernel
theorem dX4_when_59 : decode cX4_when 59 = .ok (.if_icmp .lt 5, 3) := by decide +kernel
theorem dX4_when_62 : decode cX4_when 62 = .ok (.iload_n 3, 1) := by decide +kernel
theorem dX4_when_63 : decode cX4_when 63 = .ok (.ireturn, 1) := by decide +kernel
theorem dX4_when_64 : decode cX4_when 64 = .ok (.aload_n 0, 1) := by decide +kernel
theorem dX4_when_65 : decode cX4_when 65 = .ok (.getfield 16, 3) := by decide +kernel
theorem dX4_when_68 : decode cX4_when 68 = .ok (.invokevirtual 148, 3) := by decide +kernel
theorem dX4_when_71 : decode cX4_when 71 = .ok (.iinc 3 1, 3) := by decide +kernel
theorem dX4_when_74 : decode cX4_when 74 = .ok (.goto (-32), 3) := by decide +kernel
theorem dX4_when_77 : decode cX4_when 77 = .ok (.aload_n 0, 1) := by decide +kernel
theorem dX4_when_78 : decode cX4_when 78 = .ok (.ldc 151, 2) := by decide +kernel
theorem dX4_when_80 : decode cX4_when 80 = .ok (.invokevirtual 57, 3) := by decide +kernel
theorem dX4_when_83 : decode cX4_when 83 = .ok (.ireturn, 1) := by decide +kernel
theorem dX4_broke_0 : decode cX4_broke 0 = .ok (.aload_n 0, 1) := by decide +kernel
theorem dX4_broke_1 : decode cX4_broke 1 = .ok (.getfield 10, 3) := by decide +kernel
theorem dX4_broke_4 : decode cX4_broke 4 = .ok (.iload_n 1, 1) := by decide +kernel
theorem dX4_broke_5 : decode cX4_broke 5 = .ok (.invokevirtual 137, 3) := by decide +kernel
theorem dX4_broke_8 : decode cX4_broke 8 = .ok (.ifCond .ne 10, 3) := by decide +kernel
theorem dX4_broke_11 : decode cX4_broke 11 = .ok (.aload_n 0, 1) := by decide +kernel
theorem dX4_broke_12 : decode cX4_broke 12 = .ok (.ldc 56, 2) := by decide +kernel
theorem dX4_broke_14 : decode cX4_broke 14 = .ok (.invokevirtual 57, 3) := by decide +kernel
theorem dX4_broke_17 : decode cX4_broke 17 = .ok (.ireturn, 1) := by decide +kernel
theorem dX4_broke_18 : decode cX4_broke 18 = .ok (.aload_n 0, 1) := by decide +kernel
theorem dX4_broke_19 : decode cX4_broke 19 = .ok (.getfield 16, 3) := by decide +kernel
theorem dX4_broke_22 : decode cX4_broke 22 = .ok (.aload_n 0, 1) := by decide +kernel
theorem dX4_broke_23 : decode cX4_broke 23 = .ok (.getfield 10, 3) := by decide +kernel
theorem dX4_broke_26 : decode cX4_broke 26 = .ok (.invokevirtual 140, 3) := by decide +kernel
theorem dX4_broke_29 : decode cX4_broke 29 = .ok (.iconst 0, 1) := by decide +kernel
theorem dX4_broke_30 : decode cX4_broke 30 = .ok (.istore_n 2, 1) := by decide +kernel
theorem dX4_broke_31 : decode cX4_broke 31 = .ok (.iload_n 2, 1) := by decide +kernel
theorem dX4_broke_32 : decode cX4_broke 32 = .ok (.sipush 200, 3) := by decide +kernel
theorem dX4_broke_35 : decode cX4_broke 35 = .ok (.if_icmp .gt 37, 3) := by decide +kernel
theorem dX4_broke_38 : decode cX4_broke 38 = .ok (.aload_n 0, 1) := by decide +kernel
theorem dX4_broke_39 : decode cX4_broke 39 = .ok (.getfield 16, 3) := by decide +kernel
theorem dX4_broke_42 : decode cX4_broke 42 = .ok (.iload_n 1, 1) := by decide +kernel
theorem dX4_broke_43 : decode cX4_broke 43 = .ok (.iconst 4, 1) := by decide +kernel
theorem dX4_broke_44 : decode cX4_broke 44 = .ok (.invokevirtual 144, 3) := by decide +kernel
theorem dX4_broke_47 : decode cX4_broke 47 = .ok (.aload_n 0, 1) := by decide +kernel
theorem dX4_broke_48 : decode cX4_broke 48 = .ok (.getfield 16, 3) := by decide +kernel
theorem dX4_broke_51 : decode cX4_broke 51 = .ok (.getfield 152, 3) := by decide +kernel
theorem dX4_broke_54 : decode cX4_broke 54 = .ok (.if_icmp .ge 5, 3) := by decide +kernel
theorem dX4_broke_57 : decode cX4_broke 57 = .ok (.iload_n 2, 1) := by decide +kernel
theorem dX4_broke_58 : decode cX4_broke 58 = .ok (.ireturn, 1) := by decide +kernel
theorem dX4_broke_59 : decode cX4_broke 59 = .ok (.aload_n 0, 1) := by decide +kernel
theorem dX4_broke_60 : decode cX4_broke 60 = .ok (.getfield 16, 3) := by decide +kernel
theorem dX4_broke_63 : decode cX4_broke 63 = .ok (.invokevirtual 148, 3) := by decide +kernel
theorem dX4_broke_66 : decode cX4_broke 66 = .ok (.iinc 2 1, 3) := by decide +kernel
theorem dX4_broke_69 : decode cX4_broke 69 = .ok (.goto (-38), 3) := by decide +kernel
theorem dX4_broke_72 : decode cX4_broke 72 = .ok (.aload_n 0, 1) := by decide +kernel
theorem dX4_broke_73 : decode cX4_broke 73 = .ok (.ldc 151, 2) := by decide +kernel
theorem dX4_broke_75 : decode cX4_broke 75 = .ok (.invokevirtual 57, 3) := by decide +kernel
theorem dX4_broke_78 : decode cX4_broke 78 = .ok (.ireturn, 1) := by decide +kernel
theorem dX4_all_0 : decode cX4_all 0 = .ok (.aload_n 0, 1) := by decide +kernel
theorem dX4_all_1 : decode cX4_all 1 = .ok (.getfield 10, 3) := by decide +kernel
theorem dX4_all_4 : decode cX4_all 4 = .ok (.getfield 155, 3) := by decide +kernel
theorem dX4_all_7 : decode cX4_all 7 = .ok (.ifCond .ne 10, 3) := by decide +kernel
theorem dX4_all_10 : decode cX4_all 10 = .ok (.aload_n 0, 1) := by decide +kernel
theorem dX4_all_11 : decode cX4_all 11 = .ok (.ldc 120, 2) := by decide +kernel
theorem dX4_all_13 : decode cX4_all 13 = .ok (.invokevirtual 57, 3) := by decide +kernel
theorem dX4_all_16 : decode cX4_all 16 = .ok (.ireturn, 1) := by decide +kernel
theorem dX4_all_17 : decode cX4_all 17 = .ok (.aload_n 0, 1) := by decide +kernel
theorem dX4_all_18 : decode cX4_all 18 = .ok (.getfield 16, 3) := by decide +kernel
theorem dX4_all_21 : decode cX4_all 21 = .ok (.aload_n 0, 1) := by decide +kernel
theorem dX4_all_22 : decode cX4_all 22 = .ok (.getfield 10, 3) := by decide +kernel
theorem dX4_all_25 : decode cX4_all 25 = .ok (.invokevirtual 140, 3) := by decide +kernel
theorem dX4_all_28 : decode cX4_all 28 = .ok (.iconst 0, 1) := by decide +kernel
theorem dX4_all_29 : decode cX4_all 29 = .ok (.istore_n 1, 1) := by decide +kernel
theorem dX4_all_30 : decode cX4_all 30 = .ok (.iload_n 1, 1) := by decide +kernel
theorem dX4_all_31 : decode cX4_all 31 = .ok (.sipush 200, 3) := by decide +kernel
theorem dX4_all_34 : decode cX4_all 34 = .ok (.if_icmp .gt 28, 3) := by decide +kernel
theorem dX4_all_37 : decode cX4_all 37 = .ok (.aload_n 0, 1) := by decide +kernel
theorem dX4_all_38 : decode cX4_all 38 = .ok (.getfield 16, 3) := by decide +kernel
theorem dX4_all_41 : decode cX4_all 41 = .ok (.invokevirtual 158, 3) := by decide +kernel
theorem dX4_all_44 : decode cX4_all 44 = .ok (.ifCond .eq 5, 3) := by decide +kernel
theorem dX4_all_47 : decode cX4_all 47 = .ok (.iload_n 1, 1) := by decide +kernel
theorem dX4_all_48 : decode cX4_all 48 = .ok (.ireturn, 1) := by decide +kernel
theorem dX4_all_49 : decode cX4_all 49 = .ok (.aload_n 0, 1) := by decide +kernel
theorem dX4_all_50 : decode cX4_all 50 = .ok (.getfield 16, 3) := by decide +kernel
theorem dX4_all_53 : decode cX4_all 53 = .ok (.invokevirtual 148, 3) := by decide +kernel
theorem dX4_all_56 : decode cX4_all 56 = .ok (.iinc 1 1, 3) := by decide +kernel
theorem dX4_all_59 : decode cX4_all 59 = .ok (.goto (-29), 3) := by decide +kernel
theorem dX4_all_62 : decode cX4_all 62 = .ok (.aload_n 0, 1) := by decide +kernel
theorem dX4_all_63 : decode cX4_all 63 = .ok (.ldc 151, 2) := by decide +kernel
theorem dX4_all_65 : decode cX4_all 65 = .ok (.invokevirtual 57, 3) := by decide +kernel
theorem dX4_all_68 : decode cX4_all 68 = .ok (.ireturn, 1) := by decide +kernel
theorem dX4_stoolFor_0 : decode cX4_stoolFor 0 = .ok (.aload_n 0, 1) := by decide +kernel
theorem dX4_stoolFor_1 : decode cX4_stoolFor 1 = .ok (.getfield 10, 3) := by decide +kernel
theorem dX4_stoolFor_4 : decode cX4_stoolFor 4 = .ok (.iload_n 1, 1) := by decide +kernel
theorem dX4_stoolFor_5 : decode cX4_stoolFor 5 = .ok (.invokevirtual 137, 3) := by decide +kernel
theorem dX4_stoolFor_8 : decode cX4_stoolFor 8 = .ok (.ifCond .ne 10, 3) := by decide +kernel
theorem dX4_stoolFor_11 : decode cX4_stoolFor 11 = .ok (.aload_n 0, 1) := by decide +kernel
theorem dX4_stoolFor_12 : decode cX4_stoolFor 12 = .ok (.ldc 56, 2) := by decide +kernel
theorem dX4_stoolFor_14 : decode cX4_stoolFor 14 = .ok (.invokevirtual 57, 3) := by decide +kernel
theorem dX4_stoolFor_17 : decode cX4_stoolFor 17 = .ok (.ireturn, 1) := by decide +kernel
theorem dX4_stoolFor_18 : decode cX4_stoolFor 18 = .ok (.aload_n 0, 1) := by decide +kernel
theorem dX4_stoolFor_19 : decode cX4_stoolFor 19 = .ok (.getfield 16, 3) := by decide +kernel
theorem dX4_stoolFor_22 : decode cX4_stoolFor 22 = .ok (.aload_n 0, 1) := by decide +kernel
theorem dX4_stoolFor_23 : decode cX4_stoolFor 23 = .ok (.getfield 10, 3) := by decide +kernel
theorem dX4_stoolFor_26 : decode cX4_stoolFor 26 = .ok (.invokevirtual 140, 3) := by decide +kernel
theorem dX4_stoolFor_29 : decode cX4_stoolFor 29 = .ok (.iconst 0, 1) := by decide +kernel
theorem dX4_stoolFor_30 : decode cX4_stoolFor 30 = .ok (.istore_n 2, 1) := by decide +kernel
theorem dX4_stoolFor_31 : decode cX4_stoolFor 31 = .ok (.iconst (-1), 1) := by decide +kernel
theorem dX4_stoolFor_32 : decode cX4_stoolFor 32 = .ok (.istore_n 3, 1) := by decide +kernel
theorem dX4_stoolFor_33 : decode cX4_stoolFor 33 = .ok (.iconst 0, 1) := by decide +kernel
theorem dX4_stoolFor_34 : decode cX4_stoolFor 34 = .ok (.istore 4, 2) := by decide +kernel
theorem dX4_stoolFor_36 : decode cX4_stoolFor 36 = .ok (.iload 4, 2) := by decide +kernel
theorem dX4_stoolFor_38 : decode cX4_stoolFor 38 = .ok (.iconst 0, 1) := by decide +kernel
theorem dX4_stoolFor_39 : decode cX4_stoolFor 39 = .ok (.invokestatic 48, 3) := by decide +kernel
theorem dX4_stoolFor_42 : decode cX4_stoolFor 42 = .ok (.if_icmp .gt 44, 3) := by decide +kernel
theorem dX4_stoolFor_45 : decode cX4_stoolFor 45 = .ok (.aload_n 0, 1) := by decide +kernel
theorem dX4_stoolFor_46 : decode cX4_stoolFor 46 = .ok (.getfield 16, 3) := by decide +kernel
theorem dX4_stoolFor_49 : decode cX4_stoolFor 49 = .ok (.iload 4, 2) := by decide +kernel
theorem dX4_stoolFor_51 : decode cX4_stoolFor 51 = .ok (.putfield 94, 3) := by decide +kernel
theorem dX4_stoolFor_54 : decode cX4_stoolFor 54 = .ok (.aload_n 0, 1) := by decide +kernel
theorem dX4_stoolFor_55 : decode cX4_stoolFor 55 = .ok (.getfield 16, 3) := by decide +kernel
theorem dX4_stoolFor_58 : decode cX4_stoolFor 58 = .ok (.iload_n 1, 1) := by decide +kernel
theorem dX4_stoolFor_59 : decode cX4_stoolFor 59 = .ok (.invokevirtual 162, 3) := by decide +kernel
theorem dX4_stoolFor_62 : decode cX4_stoolFor 62 = .ok (.istore 5, 2) := by decide +kernel
theorem dX4_stoolFor_64 : decode cX4_stoolFor 64 = .ok (.iload_n 3, 1) := by decide +kernel
theorem dX4_stoolFor_65 : decode cX4_stoolFor 65 = .ok (.ifCond .lt 9, 3) := by decide +kernel
theorem dX4_stoolFor_68 : decode cX4_stoolFor 68 = .ok (.iload 5, 2) := by decide +kernel
theorem dX4_stoolFor_70 : decode cX4_stoolFor 70 = .ok (.iload_n 3, 1) := by decide +kernel
theorem dX4_stoolFor_71 : decode cX4_stoolFor 71 = .ok (.if_icmp .ge 9, 3) := by decide +kernel
theorem dX4_stoolFor_74 : decode cX4_stoolFor 74 = .ok (.iload 5, 2) := by decide +kernel
theorem dX4_stoolFor_76 : decode cX4_stoolFor 76 = .ok (.istore_n 3, 1) := by decide +kernel
theorem dX4_stoolFor_77 : decode cX4_stoolFor 77 = .ok (.iload 4, 2) := by decide +kernel
theorem dX4_stoolFor_79 : decode cX4_stoolFor 79 = .ok (.istore_n 2, 1) := by decide +kernel
theorem dX4_stoolFor_80 : decode cX4_stoolFor 80 = .ok (.iinc 4 1, 3) := by decide +kernel
theorem dX4_stoolFor_83 : decode cX4_stoolFor 83 = .ok (.goto (-47), 3) := by decide +kernel
theorem dX4_stoolFor_86 : decode cX4_stoolFor 86 = .ok (.iload_n 2, 1) := by decide +kernel
theorem dX4_stoolFor_87 : decode cX4_stoolFor 87 = .ok (.ireturn, 1) := by decide +kernel
theorem dX4_lightFor_0 : decode cX4_lightFor 0 = .ok (.aload_n 0, 1) := by decide +kernel
theorem dX4_lightFor_1 : decode cX4_lightFor 1 = .ok (.getfield 10, 3) := by decide +kernel
theorem dX4_lightFor_4 : decode cX4_lightFor 4 = .ok (.iload_n 1, 1) := by decide +kernel
theorem dX4_lightFor_5 : decode cX4_lightFor 5 = .ok (.invokevirtual 137, 3) := by decide +kernel
theorem dX4_lightFor_8 : decode cX4_lightFor 8 = .ok (.ifCond .eq 12, 3) := by decide +kernel
theorem dX4_lightFor_11 : decode cX4_lightFor 11 = .ok (.iload_n 2, 1) := by decide +kernel
theorem dX4_lightFor_12 : decode cX4_lightFor 12 = .ok (.bipush 60, 2) := by decide +kernel
theorem dX4_lightFor_14 : decode cX4_lightFor 14 = .ok (.invokestatic 52, 3) := by decide +kernel
theorem dX4_lightFor_17 : decode cX4_lightFor 17 = .ok (.ifCond .ne 10, 3) := by decide +kernel
theorem dX4_lightFor_20 : decode cX4_lightFor 20 = .ok (.aload_n 0, 1) := by decide +kernel
theorem dX4_lightFor_21 : decode cX4_lightFor 21 = .ok (.ldc 56, 2) := by decide +kernel
theorem dX4_lightFor_23 : decode cX4_lightFor 23 = .ok (.invokevirtual 57, 3) := by decide +kernel
theorem dX4_lightFor_26 : decode cX4_lightFor 26 = .ok (.ireturn, 1) := by decide +kernel
theorem dX4_lightFor_27 : decode cX4_lightFor 27 = .ok (.aload_n 0, 1) := by decide +kernel
theorem dX4_lightFor_28 : decode cX4_lightFor 28 = .ok (.getfield 10, 3) := by decide +kernel
theorem dX4_lightFor_31 : decode cX4_lightFor 31 = .ok (.iload_n 1, 1) := by decide +kernel
theorem dX4_lightFor_32 : decode cX4_lightFor 32 = .ok (.iconst 5, 1) := by decide +kernel
theorem dX4_lightFor_33 : decode cX4_lightFor 33 = .ok (.invokevirtual 144, 3) := by decide +kernel
theorem dX4_lightFor_36 : decode cX4_lightFor 36 = .ok (.istore_n 3, 1) := by decide +kernel
theorem dX4_lightFor_37 : decode cX4_lightFor 37 = .ok (.iconst 0, 1) := by decide +kernel
theorem dX4_lightFor_38 : decode cX4_lightFor 38 = .ok (.istore 4, 2) := by decide +kernel
theorem dX4_lightFor_40 : decode cX4_lightFor 40 = .ok (.iload 4, 2) := by decide +kernel
theorem dX4_lightFor_42 : decode cX4_lightFor 42 = .ok (.iconst 1, 1) := by decide +kernel
theorem dX4_lightFor_43 : decode cX4_lightFor 43 = .ok (.invokestatic 48, 3) := by decide +kernel
theorem dX4_lightFor_46 : decode cX4_lightFor 46 = .ok (.if_icmp .gt 53, 3) := by decide +kernel
theorem dX4_lightFor_49 : decode cX4_lightFor 49 = .ok (.aload_n 0, 1) := by decide +kernel
theorem dX4_lightFor_50 : decode cX4_lightFor 50 = .ok (.getfield 16, 3) := by decide +kernel
theorem dX4_lightFor_53 : decode cX4_lightFor 53 = .ok (.aload_n 0, 1) := by decide +kernel
theorem dX4_lightFor_54 : decode cX4_lightFor 54 = .ok (.getfield 10, 3) := by decide +kernel
theorem dX4_lightFor_57 : decode cX4_lightFor 57 = .ok (.invokevirtual 140, 3) := by decide +kernel
theorem dX4_lightFor_60 : decode cX4_lightFor 60 = .ok (.aload_n 0, 1) := by decide +kernel
theorem dX4_lightFor_61 : decode cX4_lightFor 61 = .ok (.getfield 16, 3) := by decide +kernel
theorem dX4_lightFor_64 : decode cX4_lightFor 64 = .ok (.iload 4, 2) := by decide +kernel
theorem dX4_lightFor_66 : decode cX4_lightFor 66 = .ok (.putfield 165, 3) := by decide +kernel
theorem dX4_lightFor_69 : decode cX4_lightFor 69 = .ok (.aload_n 0, 1) := by decide +kernel
theorem dX4_lightFor_70 : decode cX4_lightFor 70 = .ok (.getfield 16, 3) := by decide +kernel
theorem dX4_lightFor_73 : decode cX4_lightFor 73 = .ok (.iload_n 2, 1) := by decide +kernel
theorem dX4_lightFor_74 : decode cX4_lightFor 74 = .ok (.invokevirtual 121, 3) := by decide +kernel
theorem dX4_lightFor_77 : decode cX4_lightFor 77 = .ok (.aload_n 0, 1) := by decide +kernel
theorem dX4_lightFor_78 : decode cX4_lightFor 78 = .ok (.getfield 16, 3) := by decide +kernel
theorem dX4_lightFor_81 : decode cX4_lightFor 81 = .ok (.iload_n 1, 1) := by decide +kernel
theorem dX4_lightFor_82 : decode cX4_lightFor 82 = .ok (.iconst 5, 1) := by decide +kernel
theorem dX4_lightFor_83 : decode cX4_lightFor 83 = .ok (.invokevirtual 144, 3) := by decide +kernel
theorem dX4_lightFor_86 : decode cX4_lightFor 86 = .ok (.iload_n 3, 1) := by decide +kernel
theorem dX4_lightFor_87 : decode cX4_lightFor 87 = .ok (.if_icmp .le 6, 3) := by decide +kernel
theorem dX4_lightFor_90 : decode cX4_lightFor 90 = .ok (.iload 4, 2) := by decide +kernel
theorem dX4_lightFor_92 : decode cX4_lightFor 92 = .ok (.ireturn, 1) := by decide +kernel
theorem dX4_lightFor_93 : decode cX4_lightFor 93 = .ok (.iinc 4 1, 3) := by decide +kernel
theorem dX4_lightFor_96 : decode cX4_lightFor 96 = .ok (.goto (-56), 3) := by decide +kernel
theorem dX4_lightFor_99 : decode cX4_lightFor 99 = .ok (.aload_n 0, 1) := by decide +kernel
theorem dX4_lightFor_100 : decode cX4_lightFor 100 = .ok (.ldc 151, 2) := by decide +kernel
theorem dX4_lightFor_102 : decode cX4_lightFor 102 = .ok (.invokevirtual 57, 3) := by decide +kernel
theorem dX4_lightFor_105 : decode cX4_lightFor 105 = .ok (.ireturn, 1) := by decide +kernel
theorem dX4_turnFor_0 : decode cX4_turnFor 0 = .ok (.aload_n 0, 1) := by decide +kernel
theorem dX4_turnFor_1 : decode cX4_turnFor 1 = .ok (.getfield 10, 3) := by decide +kernel
theorem dX4_turnFor_4 : decode cX4_turnFor 4 = .ok (.iload_n 1, 1) := by decide +kernel
theorem dX4_turnFor_5 : decode cX4_turnFor 5 = .ok (.invokevirtual 137, 3) := by decide +kernel
theorem dX4_turnFor_8 : decode cX4_turnFor 8 = .ok (.ifCond .eq 12, 3) := by decide +kernel
theorem dX4_turnFor_11 : decode cX4_turnFor 11 = .ok (.iload_n 2, 1) := by decide +kernel
theorem dX4_turnFor_12 : decode cX4_turnFor 12 = .ok (.bipush 60, 2) := by decide +kernel
theorem dX4_turnFor_14 : decode cX4_turnFor 14 = .ok (.invokestatic 52, 3) := by decide +kernel
theorem dX4_turnFor_17 : decode cX4_turnFor 17 = .ok (.ifCond .ne 10, 3) := by decide +kernel
theorem dX4_turnFor_20 : decode cX4_turnFor 20 = .ok (.aload_n 0, 1) := by decide +kernel
theorem dX4_turnFor_21 : decode cX4_turnFor 21 = .ok (.ldc 56, 2) := by decide +kernel
theorem dX4_turnFor_23 : decode cX4_turnFor 23 = .ok (.invokevirtual 57, 3) := by decide +kernel
theorem dX4_turnFor_26 : decode cX4_turnFor 26 = .ok (.ireturn, 1) := by decide +kernel
theorem dX4_turnFor_27 : decode cX4_turnFor 27 = .ok (.iconst 0, 1) := by decide +kernel
theorem dX4_turnFor_28 : decode cX4_turnFor 28 = .ok (.istore_n 3, 1) := by decide +kernel
theorem dX4_turnFor_29 : decode cX4_turnFor 29 = .ok (.iconst (-1), 1) := by decide +kernel
theorem dX4_turnFor_30 : decode cX4_turnFor 30 = .ok (.istore 4, 2) := by decide +kernel
theorem dX4_turnFor_32 : decode cX4_turnFor 32 = .ok (.iconst 0, 1) := by decide +kernel
theorem dX4_turnFor_33 : decode cX4_turnFor 33 = .ok (.istore 5, 2) := by decide +kernel
theorem dX4_turnFor_35 : decode cX4_turnFor 35 = .ok (.iload 5, 2) := by decide +kernel
theorem dX4_turnFor_37 : decode cX4_turnFor 37 = .ok (.bipush 6, 2) := by decide +kernel
theorem dX4_turnFor_39 : decode cX4_turnFor 39 = .ok (.if_icmp .ge 63, 3) := by decide +kernel
theorem dX4_turnFor_42 : decode cX4_turnFor 42 = .ok (.aload_n 0, 1) := by decide +kernel
theorem dX4_turnFor_43 : decode cX4_turnFor 43 = .ok (.getfield 16, 3) := by decide +kernel
theorem dX4_turnFor_46 : decode cX4_turnFor 46 = .ok (.aload_n 0, 1) := by decide +kernel
theorem dX4_turnFor_47 : decode cX4_turnFor 47 = .ok (.getfield 10, 3) := by decide +kernel
theorem dX4_turnFor_50 : decode cX4_turnFor 50 = .ok (.invokevirtual 140, 3) := by decide +kernel
theorem dX4_turnFor_53 : decode cX4_turnFor 53 = .ok (.aload_n 0, 1) := by decide +kernel
theorem dX4_turnFor_54 : decode cX4_turnFor 54 = .ok (.getfield 16, 3) := by decide +kernel
theorem dX4_turnFor_57 : decode cX4_turnFor 57 = .ok (.iload 5, 2) := by decide +kernel
theorem dX4_turnFor_59 : decode cX4_turnFor 59 = .ok (.iload_n 1, 1) := by decide +kernel
theorem dX4_turnFor_60 : decode cX4_turnFor 60 = .ok (.invokevirtual 76, 3) := by decide +kernel
theorem dX4_turnFor_63 : decode cX4_turnFor 63 = .ok (.aload_n 0, 1) := by decide +kernel
theorem dX4_turnFor_64 : decode cX4_turnFor 64 = .ok (.getfield 16, 3) := by decide +kernel
theorem dX4_turnFor_67 : decode cX4_turnFor 67 = .ok (.iload_n 2, 1) := by decide +kernel
theorem dX4_turnFor_68 : decode cX4_turnFor 68 = .ok (.invokevirtual 121, 3) := by decide +kernel
theorem dX4_turnFor_71 : decode cX4_turnFor 71 = .ok (.aload_n 0, 1) := by decide +kernel
theorem dX4_turnFor_72 : decode cX4_turnFor 72 = .ok (.getfield 16, 3) := by decide +kernel
theorem dX4_turnFor_75 : decode cX4_turnFor 75 = .ok (.iload_n 1, 1) := by decide +kernel
theorem dX4_turnFor_76 : decode cX4_turnFor 76 = .ok (.iconst 5, 1) := by decide +kernel
theorem dX4_turnFor_77 : decode cX4_turnFor 77 = .ok (.invokevirtual 144, 3) := by decide +kernel
theorem dX4_turnFor_80 : decode cX4_turnFor 80 = .ok (.istore 6, 2) := by decide +kernel
theorem dX4_turnFor_82 : decode cX4_turnFor 82 = .ok (.iload 6, 2) := by decide +kernel
theorem dX4_turnFor_84 : decode cX4_turnFor 84 = .ok (.iload 4, 2) := by decide +kernel
theorem dX4_turnFor_86 : decode cX4_turnFor 86 = .ok (.if_icmp .le 10, 3) := by decide +kernel
theorem dX4_turnFor_89 : decode cX4_turnFor 89 = .ok (.iload 6, 2) := by decide +kernel
theorem dX4_turnFor_91 : decode cX4_turnFor 91 = .ok (.istore 4, 2) := by decide +kernel
theorem dX4_turnFor_93 : decode cX4_turnFor 93 = .ok (.iload 5, 2) := by decide +kernel
theorem dX4_turnFor_95 : decode cX4_turnFor 95 = .ok (.istore_n 3, 1) := by decide +kernel
theorem dX4_turnFor_96 : decode cX4_turnFor 96 = .ok (.iinc 5 1, 3) := by decide +kernel
theorem dX4_turnFor_99 : decode cX4_turnFor 99 = .ok (.goto (-64), 3) := by decide +kernel
theorem dX4_turnFor_102 : decode cX4_turnFor 102 = .ok (.iload_n 3, 1) := by decide +kernel
theorem dX4_turnFor_103 : decode cX4_turnFor 103 = .ok (.ireturn, 1) := by decide +kernel
theorem dX4_kindFor_0 : decode cX4_kindFor 0 = .ok (.aload_n 0, 1) := by decide +kernel
theorem dX4_kindFor_1 : decode cX4_kindFor 1 = .ok (.getfield 10, 3) := by decide +kernel
theorem dX4_kindFor_4 : decode cX4_kindFor 4 = .ok (.iload_n 1, 1) := by decide +kernel
theorem dX4_kindFor_5 : decode cX4_kindFor 5 = .ok (.invokevirtual 137, 3) := by decide +kernel
theorem dX4_kindFor_8 : decode cX4_kindFor 8 = .ok (.ifCond .eq 12, 3) := by decide +kernel
theorem dX4_kindFor_11 : decode cX4_kindFor 11 = .ok (.iload_n 2, 1) := by decide +kernel
theorem dX4_kindFor_12 : decode cX4_kindFor 12 = .ok (.bipush 60, 2) := by decide +kernel
theorem dX4_kindFor_14 : decode cX4_kindFor 14 = .ok (.invokestatic 52, 3) := by decide +kernel
theorem dX4_kindFor_17 : decode cX4_kindFor 17 = .ok (.ifCond .ne 10, 3) := by decide +kernel
theorem dX4_kindFor_20 : decode cX4_kindFor 20 = .ok (.aload_n 0, 1) := by decide +kernel
theorem dX4_kindFor_21 : decode cX4_kindFor 21 = .ok (.ldc 56, 2) := by decide +kernel
theorem dX4_kindFor_23 : decode cX4_kindFor 23 = .ok (.invokevirtual 57, 3) := by decide +kernel
theorem dX4_kindFor_26 : decode cX4_kindFor 26 = .ok (.ireturn, 1) := by decide +kernel
theorem dX4_kindFor_27 : decode cX4_kindFor 27 = .ok (.iconst 0, 1) := by decide +kernel
theorem dX4_kindFor_28 : decode cX4_kindFor 28 = .ok (.istore_n 3, 1) := by decide +kernel
theorem dX4_kindFor_29 : decode cX4_kindFor 29 = .ok (.iconst (-1), 1) := by decide +kernel
theorem dX4_kindFor_30 : decode cX4_kindFor 30 = .ok (.istore 4, 2) := by decide +kernel
theorem dX4_kindFor_32 : decode cX4_kindFor 32 = .ok (.iconst 0, 1) := by decide +kernel
theorem dX4_kindFor_33 : decode cX4_kindFor 33 = .ok (.istore 5, 2) := by decide +kernel
theorem dX4_kindFor_35 : decode cX4_kindFor 35 = .ok (.iload 5, 2) := by decide +kernel
theorem dX4_kindFor_37 : decode cX4_kindFor 37 = .ok (.bipush 6, 2) := by decide +kernel
theorem dX4_kindFor_39 : decode cX4_kindFor 39 = .ok (.if_icmp .gt 64, 3) := by decide +kernel
theorem dX4_kindFor_42 : decode cX4_kindFor 42 = .ok (.aload_n 0, 1) := by decide +kernel
theorem dX4_kindFor_43 : decode cX4_kindFor 43 = .ok (.getfield 16, 3) := by decide +kernel
theorem dX4_kindFor_46 : decode cX4_kindFor 46 = .ok (.aload_n 0, 1) := by decide +kernel
theorem dX4_kindFor_47 : decode cX4_kindFor 47 = .ok (.getfield 10, 3) := by decide +kernel
theorem dX4_kindFor_50 : decode cX4_kindFor 50 = .ok (.invokevirtual 140, 3) := by decide +kernel
theorem dX4_kindFor_53 : decode cX4_kindFor 53 = .ok (.aload_n 0, 1) := by decide +kernel
theorem dX4_kindFor_54 : decode cX4_kindFor 54 = .ok (.getfield 16, 3) := by decide +kernel
theorem dX4_kindFor_57 : decode cX4_kindFor 57 = .ok (.iload_n 1, 1) := by decide +kernel
theorem dX4_kindFor_58 : decode cX4_kindFor 58 = .ok (.iconst 0, 1) := by decide +kernel
theorem dX4_kindFor_59 : decode cX4_kindFor 59 = .ok (.iload 5, 2) := by decide +kernel
theorem dX4_kindFor_61 : decode cX4_kindFor 61 = .ok (.invokevirtual 86, 3) := by decide +kernel
theorem dX4_kindFor_64 : decode cX4_kindFor 64 = .ok (.aload_n 0, 1) := by decide +kernel
theorem dX4_kindFor_65 : decode cX4_kindFor 65 = .ok (.getfield 16, 3) := by decide +kernel
theorem dX4_kindFor_68 : decode cX4_kindFor 68 = .ok (.iload_n 2, 1) := by decide +kernel
theorem dX4_kindFor_69 : decode cX4_kindFor 69 = .ok (.invokevirtual 121, 3) := by decide +kernel
theorem dX4_kindFor_72 : decode cX4_kindFor 72 = .ok (.aload_n 0, 1) := by decide +kernel
theorem dX4_kindFor_73 : decode cX4_kindFor 73 = .ok (.getfield 16, 3) := by decide +kernel
theorem dX4_kindFor_76 : decode cX4_kindFor 76 = .ok (.iload_n 1, 1) := by decide +kernel
theorem dX4_kindFor_77 : decode cX4_kindFor 77 = .ok (.iconst 5, 1) := by decide +kernel
theorem dX4_kindFor_78 : decode cX4_kindFor 78 = .ok (.invokevirtual 144, 3) := by decide +kernel
theorem dX4_kindFor_81 : decode cX4_kindFor 81 = .ok (.istore 6, 2) := by decide +kernel
theorem dX4_kindFor_83 : decode cX4_kindFor 83 = .ok (.iload 6, 2) := by decide +kernel
theorem dX4_kindFor_85 : decode cX4_kindFor 85 = .ok (.iload 4, 2) := by decide +kernel
theorem dX4_kindFor_87 : decode cX4_kindFor 87 = .ok (.if_icmp .le 10, 3) := by decide +kernel
theorem dX4_kindFor_90 : decode cX4_kindFor 90 = .ok (.iload 6, 2) := by decide +kernel
theorem dX4_kindFor_92 : decode cX4_kindFor 92 = .ok (.istore 4, 2) := by decide +kernel
theorem dX4_kindFor_94 : decode cX4_kindFor 94 = .ok (.iload 5, 2) := by decide +kernel
theorem dX4_kindFor_96 : decode cX4_kindFor 96 = .ok (.istore_n 3, 1) := by decide +kernel
theorem dX4_kindFor_97 : decode cX4_kindFor 97 = .ok (.iinc 5 1, 3) := by decide +kernel
theorem dX4_kindFor_100 : decode cX4_kindFor 100 = .ok (.goto (-65), 3) := by decide +kernel
theorem dX4_kindFor_103 : decode cX4_kindFor 103 = .ok (.iload_n 3, 1) := by decide +kernel
theorem dX4_kindFor_104 : decode cX4_kindFor 104 = .ok (.ireturn, 1) := by decide +kernel
theorem dX4_merryFor_0 : decode cX4_merryFor 0 = .ok (.aload_n 0, 1) := by decide +kernel
theorem dX4_merryFor_1 : decode cX4_merryFor 1 = .ok (.getfield 10, 3) := by decide +kernel
theorem dX4_merryFor_4 : decode cX4_merryFor 4 = .ok (.iload_n 1, 1) := by decide +kernel
theorem dX4_merryFor_5 : decode cX4_merryFor 5 = .ok (.invokevirtual 137, 3) := by decide +kernel
theorem dX4_merryFor_8 : decode cX4_merryFor 8 = .ok (.ifCond .eq 12, 3) := by decide +kernel
theorem dX4_merryFor_11 : decode cX4_merryFor 11 = .ok (.iload_n 2, 1) := by decide +kernel
theorem dX4_merryFor_12 : decode cX4_merryFor 12 = .ok (.bipush 60, 2) := by decide +kernel
theorem dX4_merryFor_14 : decode cX4_merryFor 14 = .ok (.invokestatic 52, 3) := by decide +kernel
theorem dX4_merryFor_17 : decode cX4_merryFor 17 = .ok (.ifCond .ne 10, 3) := by decide +kernel
theorem dX4_merryFor_20 : decode cX4_merryFor 20 = .ok (.aload_n 0, 1) := by decide +kernel
theorem dX4_merryFor_21 : decode cX4_merryFor 21 = .ok (.ldc 56, 2) := by decide +kernel
theorem dX4_merryFor_23 : decode cX4_merryFor 23 = .ok (.invokevirtual 57, 3) := by decide +kernel
theorem dX4_merryFor_26 : decode cX4_merryFor 26 = .ok (.ireturn, 1) := by decide +kernel
theorem dX4_merryFor_27 : decode cX4_merryFor 27 = .ok (.aload_n 0, 1) := by decide +kernel
theorem dX4_merryFor_28 : decode cX4_merryFor 28 = .ok (.getfield 10, 3) := by decide +kernel
theorem dX4_merryFor_31 : decode cX4_merryFor 31 = .ok (.iload_n 1, 1) := by decide +kernel
theorem dX4_merryFor_32 : decode cX4_merryFor 32 = .ok (.iconst 5, 1) := by decide +kernel
theorem dX4_merryFor_33 : decode cX4_merryFor 33 = .ok (.invokevirtual 144, 3) := by decide +kernel
theorem dX4_merryFor_36 : decode cX4_merryFor 36 = .ok (.istore_n 3, 1) := by decide +kernel
theorem dX4_merryFor_37 : decode cX4_merryFor 37 = .ok (.iconst 3, 1) := by decide +kernel
theorem dX4_merryFor_38 : decode cX4_merryFor 38 = .ok (.invokestatic 79, 3) := by decide +kernel
theorem dX4_merryFor_41 : decode cX4_merryFor 41 = .ok (.istore 4, 2) := by decide +kernel
theorem dX4_merryFor_43 : decode cX4_merryFor 43 = .ok (.iload 4, 2) := by decide +kernel
theorem dX4_merryFor_45 : decode cX4_merryFor 45 = .ok (.ifCond .lt 55, 3) := by decide +kernel
theorem dX4_merryFor_48 : decode cX4_merryFor 48 = .ok (.aload_n 0, 1) := by decide +kernel
theorem dX4_merryFor_49 : decode cX4_merryFor 49 = .ok (.getfield 16, 3) := by decide +kernel
theorem dX4_merryFor_52 : decode cX4_merryFor 52 = .ok (.aload_n 0, 1) := by decide +kernel
theorem dX4_merryFor_53 : decode cX4_merryFor 53 = .ok (.getfield 10, 3) := by decide +kernel
theorem dX4_merryFor_56 : decode cX4_merryFor 56 = .ok (.invokevirtual 140, 3) := by decide +kernel
theorem dX4_merryFor_59 : decode cX4_merryFor 59 = .ok (.aload_n 0, 1) := by decide +kernel
theorem dX4_merryFor_60 : decode cX4_merryFor 60 = .ok (.getfield 16, 3) := by decide +kernel
theorem dX4_merryFor_63 : decode cX4_merryFor 63 = .ok (.iload_n 1, 1) := by decide +kernel
theorem dX4_merryFor_64 : decode cX4_merryFor 64 = .ok (.iconst 3, 1) := by decide +kernel
theorem dX4_merryFor_65 : decode cX4_merryFor 65 = .ok (.iload 4, 2) := by decide +kernel
theorem dX4_merryFor_67 : decode cX4_merryFor 67 = .ok (.invokevirtual 86, 3) := by decide +kernel
theorem dX4_merryFor_70 : decode cX4_merryFor 70 = .ok (.aload_n 0, 1) := by decide +kernel
theorem dX4_merryFor_71 : decode cX4_merryFor 71 = .ok (.getfield 16, 3) := by decide +kernel
theorem dX4_merryFor_74 : decode cX4_merryFor 74 = .ok (.iload_n 2, 1) := by decide +kernel
theorem dX4_merryFor_75 : decode cX4_merryFor 75 = .ok (.invokevirtual 121, 3) := by decide +kernel
theorem dX4_merryFor_78 : decode cX4_merryFor 78 = .ok (.aload_n 0, 1) := by decide +kernel
theorem dX4_merryFor_79 : decode cX4_merryFor 79 = .ok (.getfield 16, 3) := by decide +kernel
theorem dX4_merryFor_82 : decode cX4_merryFor 82 = .ok (.iload_n 1, 1) := by decide +kernel
theorem dX4_merryFor_83 : decode cX4_merryFor 83 = .ok (.iconst 5, 1) := by decide +kernel
theorem dX4_merryFor_84 : decode cX4_merryFor 84 = .ok (.invokevirtual 144, 3) := by decide +kernel
theorem dX4_merryFor_87 : decode cX4_merryFor 87 = .ok (.iload_n 3, 1) := by decide +kernel
theorem dX4_merryFor_88 : decode cX4_merryFor 88 = .ok (.if_icmp .le 6, 3) := by decide +kernel
theorem dX4_merryFor_91 : decode cX4_merryFor 91 = .ok (.iload 4, 2) := by decide +kernel
theorem dX4_merryFor_93 : decode cX4_merryFor 93 = .ok (.ireturn, 1) := by decide +kernel
theorem dX4_merryFor_94 : decode cX4_merryFor 94 = .ok (.iinc 4 (-1), 3) := by decide +kernel
theorem dX4_merryFor_97 : decode cX4_merryFor 97 = .ok (.goto (-54), 3) := by decide +kernel
theorem dX4_merryFor_100 : decode cX4_merryFor 100 = .ok (.aload_n 0, 1) := by decide +kernel
theorem dX4_merryFor_101 : decode cX4_merryFor 101 = .ok (.ldc 151, 2) := by decide +kernel
theorem dX4_merryFor_103 : decode cX4_merryFor 103 = .ok (.invokevirtual 57, 3) := by decide +kernel
theorem dX4_merryFor_106 : decode cX4_merryFor 106 = .ok (.ireturn, 1) := by decide +kernel
theorem dX4_priceFor_0 : decode cX4_priceFor 0 = .ok (.iload_n 1, 1) := by decide +kernel
theorem dX4_priceFor_1 : decode cX4_priceFor 1 = .ok (.bipush 60, 2) := by decide +kernel
theorem dX4_priceFor_3 : decode cX4_priceFor 3 = .ok (.invokestatic 52, 3) := by decide +kernel
theorem dX4_priceFor_6 : decode cX4_priceFor 6 = .ok (.ifCond .ne 10, 3) := by decide +kernel
theorem dX4_priceFor_9 : decode cX4_priceFor 9 = .ok (.aload_n 0, 1) := by decide +kernel
theorem dX4_priceFor_10 : decode cX4_priceFor 10 = .ok (.ldc 56, 2) := by decide +kernel
theorem dX4_priceFor_12 : decode cX4_priceFor 12 = .ok (.invokevirtual 57, 3) := by decide +kernel
theorem dX4_priceFor_15 : decode cX4_priceFor 15 = .ok (.ireturn, 1) := by decide +kernel
theorem dX4_priceFor_16 : decode cX4_priceFor 16 = .ok (.iconst 0, 1) := by decide +kernel
theorem dX4_priceFor_17 : decode cX4_priceFor 17 = .ok (.istore_n 2, 1) := by decide +kernel
theorem dX4_priceFor_18 : decode cX4_priceFor 18 = .ok (.iconst (-1), 1) := by decide +kernel
theorem dX4_priceFor_19 : decode cX4_priceFor 19 = .ok (.istore_n 3, 1) := by decide +kernel
theorem dX4_priceFor_20 : decode cX4_priceFor 20 = .ok (.iconst 0, 1) := by decide +kernel
theorem dX4_priceFor_21 : decode cX4_priceFor 21 = .ok (.istore 4, 2) := by decide +kernel
theorem dX4_priceFor_23 : decode cX4_priceFor 23 = .ok (.iload 4, 2) := by decide +kernel
theorem dX4_priceFor_25 : decode cX4_priceFor 25 = .ok (.iconst 2, 1) := by decide +kernel
theorem dX4_priceFor_26 : decode cX4_priceFor 26 = .ok (.invokestatic 48, 3) := by decide +kernel
theorem dX4_priceFor_29 : decode cX4_priceFor 29 = .ok (.if_icmp .gt 59, 3) := by decide +kernel
theorem dX4_priceFor_32 : decode cX4_priceFor 32 = .ok (.aload_n 0, 1) := by decide +kernel
theorem dX4_priceFor_33 : decode cX4_priceFor 33 = .ok (.getfield 16, 3) := by decide +kernel
theorem dX4_priceFor_36 : decode cX4_priceFor 36 = .ok (.aload_n 0, 1) := by decide +kernel
theorem dX4_priceFor_37 : decode cX4_priceFor 37 = .ok (.getfield 10, 3) := by decide +kernel
theorem dX4_priceFor_40 : decode cX4_priceFor 40 = .ok (.invokevirtual 140, 3) := by decide +kernel
theorem dX4_priceFor_43 : decode cX4_priceFor 43 = .ok (.aload_n 0, 1) := by decide +kernel
theorem dX4_priceFor_44 : decode cX4_priceFor 44 = .ok (.getfield 16, 3) := by decide +kernel
theorem dX4_priceFor_47 : decode cX4_priceFor 47 = .ok (.iload 4, 2) := by decide +kernel
theorem dX4_priceFor_49 : decode cX4_priceFor 49 = .ok (.putfield 152, 3) := by decide +kernel
theorem dX4_priceFor_52 : decode cX4_priceFor 52 = .ok (.aload_n 0, 1) := by decide +kernel
theorem dX4_priceFor_53 : decode cX4_priceFor 53 = .ok (.getfield 16, 3) := by decide +kernel
theorem dX4_priceFor_56 : decode cX4_priceFor 56 = .ok (.iload_n 1, 1) := by decide +kernel
theorem dX4_priceFor_57 : decode cX4_priceFor 57 = .ok (.invokevirtual 121, 3) := by decide +kernel
theorem dX4_priceFor_60 : decode cX4_priceFor 60 = .ok (.aload_n 0, 1) := by decide +kernel
theorem dX4_priceFor_61 : decode cX4_priceFor 61 = .ok (.getfield 16, 3) := by decide +kernel
theorem dX4_priceFor_64 : decode cX4_priceFor 64 = .ok (.getfield 168, 3) := by decide +kernel
theorem dX4_priceFor_67 : decode cX4_priceFor 67 = .ok (.iload_n 3, 1) := by decide +kernel
theorem dX4_priceFor_68 : decode cX4_priceFor 68 = .ok (.if_icmp .le 14, 3) := by decide +kernel
theorem dX4_priceFor_71 : decode cX4_priceFor 71 = .ok (.aload_n 0, 1) := by decide +kernel
theorem dX4_priceFor_72 : decode cX4_priceFor 72 = .ok (.getfield 16, 3) := by decide +kernel
theorem dX4_priceFor_75 : decode cX4_priceFor 75 = .ok (.getfield 168, 3) := by decide +kernel
theorem dX4_priceFor_78 : decode cX4_priceFor 78 = .ok (.istore_n 3, 1) := by decide +kernel
theorem dX4_priceFor_79 : decode cX4_priceFor 79 = .ok (.iload 4, 2) := by decide +kernel
theorem dX4_priceFor_81 : decode cX4_priceFor 81 = .ok (.istore_n 2, 1) := by decide +kernel
theorem dX4_priceFor_82 : decode cX4_priceFor 82 = .ok (.iinc 4 1, 3) := by decide +kernel
theorem dX4_priceFor_85 : decode cX4_priceFor 85 = .ok (.goto (-62), 3) := by decide +kernel
theorem dX4_priceFor_88 : decode cX4_priceFor 88 = .ok (.iload_n 2, 1) := by decide +kernel
theorem dX4_priceFor_89 : decode cX4_priceFor 89 = .ok (.ireturn, 1) := by decide +kernel
theorem dX4_away_0 : decode cX4_away 0 = .ok (.aload_n 0, 1) := by decide +kernel
theorem dX4_away_1 : decode cX4_away 1 = .ok (.getfield 10, 3) := by decide +kernel
theorem dX4_away_4 : decode cX4_away 4 = .ok (.iload_n 1, 1) := by decide +kernel
theorem dX4_away_5 : decode cX4_away 5 = .ok (.invokevirtual 137, 3) := by decide +kernel
theorem dX4_away_8 : decode cX4_away 8 = .ok (.ifCond .eq 23, 3) := by decide +kernel
theorem dX4_away_11 : decode cX4_away 11 = .ok (.iload_n 2, 1) := by decide +kernel
theorem dX4_away_12 : decode cX4_away 12 = .ok (.iconst 5, 1) := by decide +kernel
theorem dX4_away_13 : decode cX4_away 13 = .ok (.invokestatic 79, 3) := by decide +kernel
theorem dX4_away_16 : decode cX4_away 16 = .ok (.invokestatic 52, 3) := by decide +kernel
theorem dX4_away_19 : decode cX4_away 19 = .ok (.ifCond .eq 12, 3) := by decide +kernel
theorem dX4_away_22 : decode cX4_away 22 = .ok (.iload_n 3, 1) := by decide +kernel
theorem dX4_away_23 : decode cX4_away 23 = .ok (.bipush 20, 2) := by decide +kernel
theorem dX4_away_25 : decode cX4_away 25 = .ok (.invokestatic 52, 3) := by decide +kernel
theorem dX4_away_28 : decode cX4_away 28 = .ok (.ifCond .ne 10, 3) := by decide +kernel
theorem dX4_away_31 : decode cX4_away 31 = .ok (.aload_n 0, 1) := by decide +kernel
theorem dX4_away_32 : decode cX4_away 32 = .ok (.ldc 56, 2) := by decide +kernel
theorem dX4_away_34 : decode cX4_away 34 = .ok (.invokevirtual 57, 3) := by decide +kernel
theorem dX4_away_37 : decode cX4_away 37 = .ok (.ireturn, 1) := by decide +kernel
theorem dX4_away_38 : decode cX4_away 38 = .ok (.aload_n 0, 1) := by decide +kernel
theorem dX4_away_39 : decode cX4_away 39 = .ok (.getfield 10, 3) := by decide +kernel
theorem dX4_away_42 : decode cX4_away 42 = .ok (.invokevirtual 171, 3) := by decide +kernel
theorem dX4_away_45 : decode cX4_away 45 = .ok (.iconst 1, 1) := by decide +kernel
theorem dX4_away_46 : decode cX4_away 46 = .ok (.iload_n 1, 1) := by decide +kernel
theorem dX4_away_47 : decode cX4_away 47 = .ok (.ishl, 1) := by decide +kernel
theorem dX4_away_48 : decode cX4_away 48 = .ok (.iconst (-1), 1) := by decide +kernel
theorem dX4_away_49 : decode cX4_away 49 = .ok (.ixor, 1) := by decide +kernel
theorem dX4_away_50 : decode cX4_away 50 = .ok (.iand, 1) := by decide +kernel
theorem dX4_away_51 : decode cX4_away 51 = .ok (.istore 4, 2) := by decide +kernel
theorem dX4_away_53 : decode cX4_away 53 = .ok (.iconst (-1), 1) := by decide +kernel
theorem dX4_away_54 : decode cX4_away 54 = .ok (.istore 5, 2) := by decide +kernel
theorem dX4_away_56 : decode cX4_away 56 = .ok (.iconst 0, 1) := by decide +kernel
theorem dX4_away_57 : decode cX4_away 57 = .ok (.istore 6, 2) := by decide +kernel
theorem dX4_away_59 : decode cX4_away 59 = .ok (.iload 6, 2) := by decide +kernel
theorem dX4_away_61 : decode cX4_away 61 = .ok (.iload 4, 2) := by decide +kernel
theorem dX4_away_63 : decode cX4_away 63 = .ok (.if_icmp .gt 111, 3) := by decide +kernel
theorem dX4_away_66 : decode cX4_away 66 = .ok (.iload 6, 2) := by decide +kernel
theorem dX4_away_68 : decode cX4_away 68 = .ok (.iload 4, 2) := by decide +kernel
theorem dX4_away_70 : decode cX4_away 70 = .ok (.iconst (-1), 1) := by decide +kernel
theorem dX4_away_71 : decode cX4_away 71 = .ok (.ixor, 1) := by decide +kernel
theorem dX4_away_72 : decode cX4_away 72 = .ok (.iand, 1) := by decide +kernel
theorem dX4_away_73 : decode cX4_away 73 = .ok (.ifCond .ne 7, 3) := by decide +kernel
theorem dX4_away_76 : decode cX4_away 76 = .ok (.iconst 1, 1) := by decide +kernel
theorem dX4_away_77 : decode cX4_away 77 = .ok (.goto 4, 3) := by decide +kernel
theorem dX4_away_80 : decode cX4_away 80 = .ok (.iconst 0, 1) := by decide +kernel
theorem dX4_away_81 : decode cX4_away 81 = .ok (.istore 7, 2) := by decide +kernel
theorem dX4_away_83 : decode cX4_away 83 = .ok (.iload 5, 2) := by decide +kernel
theorem dX4_away_85 : decode cX4_away 85 = .ok (.ifCond .lt 16, 3) := by decide +kernel
theorem dX4_away_88 : decode cX4_away 88 = .ok (.iload 6, 2) := by decide +kernel
theorem dX4_away_90 : decode cX4_away 90 = .ok (.invokestatic 111, 3) := by decide +kernel
theorem dX4_away_93 : decode cX4_away 93 = .ok (.iload 5, 2) := by decide +kernel
theorem dX4_away_95 : decode cX4_away 95 = .ok (.invokestatic 111, 3) := by decide +kernel
theorem dX4_away_98 : decode cX4_away 98 = .ok (.if_icmp .ge 7, 3) := by decide +kernel
theorem dX4_away_101 : decode cX4_away 101 = .ok (.iconst 1, 1) := by decide +kernel
theorem dX4_away_102 : decode cX4_away 102 = .ok (.goto 4, 3) := by decide +kernel
theorem dX4_away_105 : decode cX4_away 105 = .ok (.iconst 0, 1) := by decide +kernel
theorem dX4_away_106 : decode cX4_away 106 = .ok (.istore 8, 2) := by decide +kernel
theorem dX4_away_108 : decode cX4_away 108 = .ok (.iload 7, 2) := by decide +kernel
theorem dX4_away_110 : decode cX4_away 110 = .ok (.ifCond .eq 58, 3) := by decide +kernel
theorem dX4_away_113 : decode cX4_away 113 = .ok (.iload 8, 2) := by decide +kernel
theorem dX4_away_115 : decode cX4_away 115 = .ok (.ifCond .eq 53, 3) := by decide +kernel
theorem dX4_away_118 : decode cX4_away 118 = .ok (.aload_n 0, 1) := by decide +kernel
theorem dX4_away_119 : decode cX4_away 119 = .ok (.getfield 16, 3) := by decide +kernel
theorem dX4_away_122 : decode cX4_away 122 = .ok (.aload_n 0, 1) := by decide +kernel
theorem dX4_away_123 : decode cX4_away 123 = .ok (.getfield 10, 3) := by decide +kernel
theorem dX4_away_126 : decode cX4_away 126 = .ok (.invokevirtual 140, 3) := by decide +kernel
theorem dX4_away_129 : decode cX4_away 129 = .ok (.aload_n 0, 1) := by decide +kernel
theorem dX4_away_130 : decode cX4_away 130 = .ok (.getfield 16, 3) := by decide +kernel
theorem dX4_away_133 : decode cX4_away 133 = .ok (.iload 6, 2) := by decide +kernel
theorem dX4_away_135 : decode cX4_away 135 = .ok (.invokevirtual 174, 3) := by decide +kernel
theorem dX4_away_138 : decode cX4_away 138 = .ok (.aload_n 0, 1) := by decide +kernel
theorem dX4_away_139 : decode cX4_away 139 = .ok (.getfield 16, 3) := by decide +kernel
theorem dX4_away_142 : decode cX4_away 142 = .ok (.iload_n 3, 1) := by decide +kernel
theorem dX4_away_143 : decode cX4_away 143 = .ok (.invokevirtual 121, 3) := by decide +kernel
theorem dX4_away_146 : decode cX4_away 146 = .ok (.aload_n 0, 1) := by decide +kernel
theorem dX4_away_147 : decode cX4_away 147 = .ok (.getfield 16, 3) := by decide +kernel
theorem dX4_away_150 : decode cX4_away 150 = .ok (.iload_n 1, 1) := by decide +kernel
theorem dX4_away_151 : decode cX4_away 151 = .ok (.iconst 5, 1) := by decide +kernel
theorem dX4_away_152 : decode cX4_away 152 = .ok (.invokevirtual 144, 3) := by decide +kernel
theorem dX4_away_155 : decode cX4_away 155 = .ok (.iload_n 2, 1) := by decide +kernel
theorem dX4_away_156 : decode cX4_away 156 = .ok (.if_icmp .lt 8, 3) := by decide +kernel
theorem dX4_away_159 : decode cX4_away 159 = .ok (.iload 6, 2) := by decide +kernel
theorem dX4_away_161 : decode cX4_away 161 = .ok (.goto 5, 3) := by decide +kernel
theorem dX4_away_164 : decode cX4_away 164 = .ok (.iload 5, 2) := by decide +kernel
theorem dX4_away_166 : decode cX4_away 166 = .ok (.istore 5, 2) := by decide +kernel
theorem dX4_away_168 : decode cX4_away 168 = .ok (.iinc 6 1, 3) := by decide +kernel
theorem dX4_away_171 : decode cX4_away 171 = .ok (.goto (-112), 3) := by decide +kernel
theorem dX4_away_174 : decode cX4_away 174 = .ok (.iload 5, 2) := by decide +kernel
theorem dX4_away_176 : decode cX4_away 176 = .ok (.ifCond .ge 12, 3) := by decide +kernel
theorem dX4_away_179 : decode cX4_away 179 = .ok (.aload_n 0, 1) := by decide +kernel
theorem dX4_away_180 : decode cX4_away 180 = .ok (.ldc 151, 2) := by decide +kernel
theorem dX4_away_182 : decode cX4_away 182 = .ok (.invokevirtual 57, 3) := by decide +kernel
theorem dX4_away_185 : decode cX4_away 185 = .ok (.goto 5, 3) := by decide +kernel
theorem dX4_away_188 : decode cX4_away 188 = .ok (.iload 5, 2) := by decide +kernel
theorem dX4_away_190 : decode cX4_away 190 = .ok (.ireturn, 1) := by decide +kernel
theorem dX4_fits_0 : decode cX4_fits 0 = .ok (.aload_n 0, 1) := by decide +kernel
theorem dX4_fits_1 : decode cX4_fits 1 = .ok (.iload_n 1, 1) := by decide +kernel
theorem dX4_fits_2 : decode cX4_fits 2 = .ok (.invokevirtual 177, 3) := by decide +kernel
theorem dX4_fits_5 : decode cX4_fits 5 = .ok (.astore_n 3, 1) := by decide +kernel
theorem dX4_fits_6 : decode cX4_fits 6 = .ok (.aload_n 3, 1) := by decide +kernel
theorem dX4_fits_7 : decode cX4_fits 7 = .ok (.ifnull 21, 3) := by decide +kernel
theorem dX4_fits_10 : decode cX4_fits 10 = .ok (.aload_n 3, 1) := by decide +kernel
theorem dX4_fits_11 : decode cX4_fits 11 = .ok (.invokevirtual 181, 3) := by decide +kernel
theorem dX4_fits_14 : decode cX4_fits 14 = .ok (.ifCond .ne 14, 3) := by decide +kernel
theorem dX4_fits_17 : decode cX4_fits 17 = .ok (.aload_n 0, 1) := by decide +kernel
theorem dX4_fits_18 : decode cX4_fits 18 = .ok (.getfield 10, 3) := by decide +kernel
theorem dX4_fits_21 : decode cX4_fits 21 = .ok (.iload_n 2, 1) := by decide +kernel
theorem dX4_fits_22 : decode cX4_fits 22 = .ok (.invokevirtual 137, 3) := by decide +kernel
theorem dX4_fits_25 : decode cX4_fits 25 = .ok (.ifCond .ne 12, 3) := by decide +kernel
theorem dX4_fits_28 : decode cX4_fits 28 = .ok (.aload_n 0, 1) := by decide +kernel
theorem dX4_fits_29 : decode cX4_fits 29 = .ok (.aload_n 3, 1) := by decide +kernel
theorem dX4_fits_30 : decode cX4_fits 30 = .ok (.invokestatic 184, 3) := by decide +kernel
theorem dX4_fits_33 : decode cX4_fits 33 = .ok (.invokevirtual 57, 3) := by decide +kernel
theorem dX4_fits_36 : decode cX4_fits 36 = .ok (.ireturn, 1) := by decide +kernel
theorem dX4_fits_37 : decode cX4_fits 37 = .ok (.aload_n 0, 1) := by decide +kernel
theorem dX4_fits_38 : decode cX4_fits 38 = .ok (.getfield 16, 3) := by decide +kernel
theorem dX4_fits_41 : decode cX4_fits 41 = .ok (.aload_n 0, 1) := by decide +kernel
theorem dX4_fits_42 : decode cX4_fits 42 = .ok (.getfield 10, 3) := by decide +kernel
theorem dX4_fits_45 : decode cX4_fits 45 = .ok (.invokevirtual 140, 3) := by decide +kernel
theorem dX4_fits_48 : decode cX4_fits 48 = .ok (.iconst 0, 1) := by decide +kernel
theorem dX4_fits_49 : decode cX4_fits 49 = .ok (.istore 4, 2) := by decide +kernel
theorem dX4_fits_51 : decode cX4_fits 51 = .ok (.iconst 0, 1) := by decide +kernel
theorem dX4_fits_52 : decode cX4_fits 52 = .ok (.istore 5, 2) := by decide +kernel
theorem dX4_fits_54 : decode cX4_fits 54 = .ok (.iload 5, 2) := by decide +kernel
theorem dX4_fits_56 : decode cX4_fits 56 = .ok (.iconst 1, 1) := by decide +kernel
theorem dX4_fits_57 : decode cX4_fits 57 = .ok (.invokestatic 79, 3) := by decide +kernel
theorem dX4_fits_60 : decode cX4_fits 60 = .ok (.if_icmp .gt 23, 3) := by decide +kernel
theorem dX4_fits_63 : decode cX4_fits 63 = .ok (.aload_n 0, 1) := by decide +kernel
theorem dX4_fits_64 : decode cX4_fits 64 = .ok (.aload_n 3, 1) := by decide +kernel
theorem dX4_fits_65 : decode cX4_fits 65 = .ok (.iload_n 2, 1) := by decide +kernel
theorem dX4_fits_66 : decode cX4_fits 66 = .ok (.iload 5, 2) := by decide +kernel
theorem dX4_fits_68 : decode cX4_fits 68 = .ok (.invokevirtual 188, 3) := by decide +kernel
theorem dX4_fits_71 : decode cX4_fits 71 = .ok (.ifCond .eq 6, 3) := by decide +kernel
theorem dX4_fits_74 : decode cX4_fits 74 = .ok (.iinc 4 1, 3) := by decide +kernel
theorem dX4_fits_77 : decode cX4_fits 77 = .ok (.iinc 5 1, 3) := by decide +kernel
theorem dX4_fits_80 : decode cX4_fits 80 = .ok (.goto (-26), 3) := by decide +kernel
theorem dX4_fits_83 : decode cX4_fits 83 = .ok (.iload 4, 2) := by decide +kernel
theorem dX4_fits_85 : decode cX4_fits 85 = .ok (.ireturn, 1) := by decide +kernel
theorem dX4_tall_0 : decode cX4_tall 0 = .ok (.aload_n 0, 1) := by decide +kernel
theorem dX4_tall_1 : decode cX4_tall 1 = .ok (.iload_n 1, 1) := by decide +kernel
theorem dX4_tall_2 : decode cX4_tall 2 = .ok (.invokevirtual 177, 3) := by decide +kernel
theorem dX4_tall_5 : decode cX4_tall 5 = .ok (.astore_n 3, 1) := by decide +kernel
theorem dX4_tall_6 : decode cX4_tall 6 = .ok (.aload_n 3, 1) := by decide +kernel
theorem dX4_tall_7 : decode cX4_tall 7 = .ok (.ifnull 21, 3) := by decide +kernel
theorem dX4_tall_10 : decode cX4_tall 10 = .ok (.aload_n 3, 1) := by decide +kernel
theorem dX4_tall_11 : decode cX4_tall 11 = .ok (.invokevirtual 181, 3) := by decide +kernel
theorem dX4_tall_14 : decode cX4_tall 14 = .ok (.ifCond .ne 14, 3) := by decide +kernel
theorem dX4_tall_17 : decode cX4_tall 17 = .ok (.aload_n 0, 1) := by decide +kernel
theorem dX4_tall_18 : decode cX4_tall 18 = .ok (.getfield 10, 3) := by decide +kernel
theorem dX4_tall_21 : decode cX4_tall 21 = .ok (.iload_n 2, 1) := by decide +kernel
theorem dX4_tall_22 : decode cX4_tall 22 = .ok (.invokevirtual 137, 3) := by decide +kernel
theorem dX4_tall_25 : decode cX4_tall 25 = .ok (.ifCond .ne 12, 3) := by decide +kernel
theorem dX4_tall_28 : decode cX4_tall 28 = .ok (.aload_n 0, 1) := by decide +kernel
theorem dX4_tall_29 : decode cX4_tall 29 = .ok (.aload_n 3, 1) := by decide +kernel
theorem dX4_tall_30 : decode cX4_tall 30 = .ok (.invokestatic 184, 3) := by decide +kernel
theorem dX4_tall_33 : decode cX4_tall 33 = .ok (.invokevirtual 57, 3) := by decide +kernel
theorem dX4_tall_36 : decode cX4_tall 36 = .ok (.ireturn, 1) := by decide +kernel
theorem dX4_tall_37 : decode cX4_tall 37 = .ok (.aload_n 0, 1) := by decide +kernel
theorem dX4_tall_38 : decode cX4_tall 38 = .ok (.getfield 16, 3) := by decide +kernel
theorem dX4_tall_41 : decode cX4_tall 41 = .ok (.aload_n 0, 1) := by decide +kernel
theorem dX4_tall_42 : decode cX4_tall 42 = .ok (.getfield 10, 3) := by decide +kernel
theorem dX4_tall_45 : decode cX4_tall 45 = .ok (.invokevirtual 140, 3) := by decide +kernel
theorem dX4_tall_48 : decode cX4_tall 48 = .ok (.iconst 0, 1) := by decide +kernel
theorem dX4_tall_49 : decode cX4_tall 49 = .ok (.istore 4, 2) := by decide +kernel
theorem dX4_tall_51 : decode cX4_tall 51 = .ok (.iload 4, 2) := by decide +kernel
theorem dX4_tall_53 : decode cX4_tall 53 = .ok (.iconst 1, 1) := by decide +kernel
theorem dX4_tall_54 : decode cX4_tall 54 = .ok (.invokestatic 79, 3) := by decide +kernel
theorem dX4_tall_57 : decode cX4_tall 57 = .ok (.if_icmp .gt 23, 3) := by decide +kernel
theorem dX4_tall_60 : decode cX4_tall 60 = .ok (.aload_n 0, 1) := by decide +kernel
theorem dX4_tall_61 : decode cX4_tall 61 = .ok (.aload_n 3, 1) := by decide +kernel
theorem dX4_tall_62 : decode cX4_tall 62 = .ok (.iload_n 2, 1) := by decide +kernel
theorem dX4_tall_63 : decode cX4_tall 63 = .ok (.iload 4, 2) := by decide +kernel
theorem dX4_tall_65 : decode cX4_tall 65 = .ok (.invokevirtual 188, 3) := by decide +kernel
theorem dX4_tall_68 : decode cX4_tall 68 = .ok (.ifCond .eq 6, 3) := by decide +kernel
theorem dX4_tall_71 : decode cX4_tall 71 = .ok (.iload 4, 2) := by decide +kernel
theorem dX4_tall_73 : decode cX4_tall 73 = .ok (.ireturn, 1) := by decide +kernel
theorem dX4_tall_74 : decode cX4_tall 74 = .ok (.iinc 4 1, 3) := by decide +kernel
theorem dX4_tall_77 : decode cX4_tall 77 = .ok (.goto (-26), 3) := by decide +kernel
theorem dX4_tall_80 : decode cX4_tall 80 = .ok (.aload_n 0, 1) := by decide +kernel
theorem dX4_tall_81 : decode cX4_tall 81 = .ok (.ldc 151, 2) := by decide +kernel
theorem dX4_tall_83 : decode cX4_tall 83 = .ok (.invokevirtual 57, 3) := by decide +kernel
theorem dX4_tall_86 : decode cX4_tall 86 = .ok (.ireturn, 1) := by decide +kernel
theorem dX4_kinds_0 : decode cX4_kinds 0 = .ok (.aload_n 0, 1) := by decide +kernel
theorem dX4_kinds_1 : decode cX4_kinds 1 = .ok (.iload_n 1, 1) := by decide +kernel
theorem dX4_kinds_2 : decode cX4_kinds 2 = .ok (.invokevirtual 177, 3) := by decide +kernel
theorem dX4_kinds_5 : decode cX4_kinds 5 = .ok (.astore_n 3, 1) := by decide +kernel
theorem dX4_kinds_6 : decode cX4_kinds 6 = .ok (.aload_n 3, 1) := by decide +kernel
theorem dX4_kinds_7 : decode cX4_kinds 7 = .ok (.ifnull 21, 3) := by decide +kernel
theorem dX4_kinds_10 : decode cX4_kinds 10 = .ok (.aload_n 3, 1) := by decide +kernel
theorem dX4_kinds_11 : decode cX4_kinds 11 = .ok (.invokevirtual 181, 3) := by decide +kernel
theorem dX4_kinds_14 : decode cX4_kinds 14 = .ok (.ifCond .ne 14, 3) := by decide +kernel
theorem dX4_kinds_17 : decode cX4_kinds 17 = .ok (.aload_n 0, 1) := by decide +kernel
theorem dX4_kinds_18 : decode cX4_kinds 18 = .ok (.getfield 10, 3) := by decide +kernel
theorem dX4_kinds_21 : decode cX4_kinds 21 = .ok (.iload_n 2, 1) := by decide +kernel
theorem dX4_kinds_22 : decode cX4_kinds 22 = .ok (.invokevirtual 137, 3) := by decide +kernel
theorem dX4_kinds_25 : decode cX4_kinds 25 = .ok (.ifCond .ne 12, 3) := by decide +kernel
theorem dX4_kinds_28 : decode cX4_kinds 28 = .ok (.aload_n 0, 1) := by decide +kernel
theorem dX4_kinds_29 : decode cX4_kinds 29 = .ok (.aload_n 3, 1) := by decide +kernel
theorem dX4_kinds_30 : decode cX4_kinds 30 = .ok (.invokestatic 184, 3) := by decide +kernel
theorem dX4_kinds_33 : decode cX4_kinds 33 = .ok (.invokevirtual 57, 3) := by decide +kernel
theorem dX4_kinds_36 : decode cX4_kinds 36 = .ok (.ireturn, 1) := by decide +kernel
theorem dX4_kinds_37 : decode cX4_kinds 37 = .ok (.iconst 0, 1) := by decide +kernel
theorem dX4_kinds_38 : decode cX4_kinds 38 = .ok (.istore 4, 2) := by decide +kernel
theorem dX4_kinds_40 : decode cX4_kinds 40 = .ok (.iconst 0, 1) := by decide +kernel
theorem dX4_kinds_41 : decode cX4_kinds 41 = .ok (.istore 5, 2) := by decide +kernel
theorem dX4_kinds_43 : decode cX4_kinds 43 = .ok (.iload 5, 2) := by decide +kernel
theorem dX4_kinds_45 : decode cX4_kinds 45 = .ok (.bipush 6, 2) := by decide +kernel
theorem dX4_kinds_47 : decode cX4_kinds 47 = .ok (.if_icmp .gt 29, 3) := by decide +kernel
theorem dX4_kinds_50 : decode cX4_kinds 50 = .ok (.aload_n 0, 1) := by decide +kernel
theorem dX4_kinds_51 : decode cX4_kinds 51 = .ok (.aload_n 3, 1) := by decide +kernel
theorem dX4_kinds_52 : decode cX4_kinds 52 = .ok (.iload_n 2, 1) := by decide +kernel
theorem dX4_kinds_53 : decode cX4_kinds 53 = .ok (.iload 5, 2) := by decide +kernel
theorem dX4_kinds_55 : decode cX4_kinds 55 = .ok (.invokevirtual 192, 3) := by decide +kernel
theorem dX4_kinds_58 : decode cX4_kinds 58 = .ok (.ifCond .eq 12, 3) := by decide +kernel
theorem dX4_kinds_61 : decode cX4_kinds 61 = .ok (.iload 4, 2) := by decide +kernel
theorem dX4_kinds_63 : decode cX4_kinds 63 = .ok (.iconst 1, 1) := by decide +kernel
theorem dX4_kinds_64 : decode cX4_kinds 64 = .ok (.iload 5, 2) := by decide +kernel
theorem dX4_kinds_66 : decode cX4_kinds 66 = .ok (.ishl, 1) := by decide +kernel
theorem dX4_kinds_67 : decode cX4_kinds 67 = .ok (.ior, 1) := by decide +kernel
theorem dX4_kinds_68 : decode cX4_kinds 68 = .ok (.istore 4, 2) := by decide +kernel
theorem dX4_kinds_70 : decode cX4_kinds 70 = .ok (.iinc 5 1, 3) := by decide +kernel
theorem dX4_kinds_73 : decode cX4_kinds 73 = .ok (.goto (-30), 3) := by decide +kernel
theorem dX4_kinds_76 : decode cX4_kinds 76 = .ok (.iload 4, 2) := by decide +kernel
theorem dX4_kinds_78 : decode cX4_kinds 78 = .ok (.ireturn, 1) := by decide +kernel
theorem dX4_lamps_0 : decode cX4_lamps 0 = .ok (.iload_n 1, 1) := by decide +kernel
theorem dX4_lamps_1 : decode cX4_lamps 1 = .ok (.iconst 1, 1) := by decide +kernel
theorem dX4_lamps_2 : decode cX4_lamps 2 = .ok (.if_icmp .lt 9, 3) := by decide +kernel
theorem dX4_lamps_5 : decode cX4_lamps 5 = .ok (.iload_n 1, 1) := by decide +kernel
theorem dX4_lamps_6 : decode cX4_lamps 6 = .ok (.bipush 20, 2) := by decide +kernel
theorem dX4_lamps_8 : decode cX4_lamps 8 = .ok (.if_icmp .le 10, 3) := by decide +kernel
theorem dX4_lamps_11 : decode cX4_lamps 11 = .ok (.aload_n 0, 1) := by decide +kernel
theorem dX4_lamps_12 : decode cX4_lamps 12 = .ok (.ldc 56, 2) := by decide +kernel
theorem dX4_lamps_14 : decode cX4_lamps 14 = .ok (.invokevirtual 57, 3) := by decide +kernel
theorem dX4_lamps_17 : decode cX4_lamps 17 = .ok (.ireturn, 1) := by decide +kernel
theorem dX4_lamps_18 : decode cX4_lamps 18 = .ok (.aload_n 0, 1) := by decide +kernel
theorem dX4_lamps_19 : decode cX4_lamps 19 = .ok (.getfield 10, 3) := by decide +kernel
theorem dX4_lamps_22 : decode cX4_lamps 22 = .ok (.getfield 116, 3) := by decide +kernel
theorem dX4_lamps_25 : decode cX4_lamps 25 = .ok (.iload_n 1, 1) := by decide +kernel
theorem dX4_lamps_26 : decode cX4_lamps 26 = .ok (.iadd, 1) := by decide +kernel
theorem dX4_lamps_27 : decode cX4_lamps 27 = .ok (.ldc 119, 2) := by decide +kernel
theorem dX4_lamps_29 : decode cX4_lamps 29 = .ok (.if_icmp .le 10, 3) := by decide +kernel
theorem dX4_lamps_32 : decode cX4_lamps 32 = .ok (.aload_n 0, 1) := by decide +kernel
theorem dX4_lamps_33 : decode cX4_lamps 33 = .ok (.ldc 120, 2) := by decide +kernel
theorem dX4_lamps_35 : decode cX4_lamps 35 = .ok (.invokevirtual 57, 3) := by decide +kernel
theorem dX4_lamps_38 : decode cX4_lamps 38 = .ok (.ireturn, 1) := by decide +kernel
theorem dX4_lamps_39 : decode cX4_lamps 39 = .ok (.iconst 0, 1) := by decide +kernel
theorem dX4_lamps_40 : decode cX4_lamps 40 = .ok (.istore_n 2, 1) := by decide +kernel
theorem dX4_lamps_41 : decode cX4_lamps 41 = .ok (.iload_n 2, 1) := by decide +kernel
theorem dX4_lamps_42 : decode cX4_lamps 42 = .ok (.iload_n 1, 1) := by decide +kernel
theorem dX4_lamps_43 : decode cX4_lamps 43 = .ok (.if_icmp .ge 70, 3) := by decide +kernel
theorem dX4_lamps_46 : decode cX4_lamps 46 = .ok (.aload_n 0, 1) := by decide +kernel
theorem dX4_lamps_47 : decode cX4_lamps 47 = .ok (.getfield 10, 3) := by decide +kernel
theorem dX4_lamps_50 : decode cX4_lamps 50 = .ok (.aload_n 0, 1) := by decide +kernel
theorem dX4_lamps_51 : decode cX4_lamps 51 = .ok (.getfield 10, 3) := by decide +kernel
theorem dX4_lamps_54 : decode cX4_lamps 54 = .ok (.invokevirtual 195, 3) := by decide +kernel
theorem dX4_lamps_57 : decode cX4_lamps 57 = .ok (.bipush 10, 2) := by decide +kernel
theorem dX4_lamps_59 : decode cX4_lamps 59 = .ok (.irem, 1) := by decide +kernel
theorem dX4_lamps_60 : decode cX4_lamps 60 = .ok (.putfield 165, 3) := by decide +kernel
theorem dX4_lamps_63 : decode cX4_lamps 63 = .ok (.aload_n 0, 1) := by decide +kernel
theorem dX4_lamps_64 : decode cX4_lamps 64 = .ok (.getfield 10, 3) := by decide +kernel
theorem dX4_lamps_67 : decode cX4_lamps 67 = .ok (.invokevirtual 195, 3) := by decide +kernel
theorem dX4_lamps_70 : decode cX4_lamps 70 = .ok (.bipush 8, 2) := by decide +kernel
theorem dX4_lamps_72 : decode cX4_lamps 72 = .ok (.irem, 1) := by decide +kernel
theorem dX4_lamps_73 : decode cX4_lamps 73 = .ok (.istore_n 3, 1) := by decide +kernel
theorem dX4_lamps_74 : decode cX4_lamps 74 = .ok (.aload_n 0, 1) := by decide +kernel
theorem dX4_lamps_75 : decode cX4_lamps 75 = .ok (.getfield 10, 3) := by decide +kernel
theorem dX4_lamps_78 : decode cX4_lamps 78 = .ok (.iload_n 3, 1) := by decide +kernel
theorem dX4_lamps_79 : decode cX4_lamps 79 = .ok (.invokevirtual 137, 3) := by decide +kernel
theorem dX4_lamps_82 : decode cX4_lamps 82 = .ok (.ifCond .eq 18, 3) := by decide +kernel
theorem dX4_lamps_85 : decode cX4_lamps 85 = .ok (.aload_n 0, 1) := by decide +kernel
theorem dX4_lamps_86 : decode cX4_lamps 86 = .ok (.getfield 10, 3) := by decide +kernel
theorem dX4_lamps_89 : decode cX4_lamps 89 = .ok (.aload_n 0, 1) := by decide +kernel
theorem dX4_lamps_90 : decode cX4_lamps 90 = .ok (.getfield 10, 3) := by decide +kernel
theorem dX4_lamps_93 : decode cX4_lamps 93 = .ok (.invokevirtual 128, 3) := by decide +kernel
theorem dX4_lamps_96 : decode cX4_lamps 96 = .ok (.iload_n 3, 1) := by decide +kernel
theorem dX4_lamps_97 : decode cX4_lamps 97 = .ok (.invokevirtual 76, 3) := by decide +kernel
theorem dX4_lamps_100 : decode cX4_lamps 100 = .ok (.aload_n 0, 1) := by decide +kernel
theorem dX4_lamps_101 : decode cX4_lamps 101 = .ok (.getfield 10, 3) := by decide +kernel
theorem dX4_lamps_104 : decode cX4_lamps 104 = .ok (.invokevirtual 148, 3) := by decide +kernel
theorem dX4_lamps_107 : decode cX4_lamps 107 = .ok (.iinc 2 1, 3) := by decide +kernel
theorem dX4_lamps_110 : decode cX4_lamps 110 = .ok (.goto (-69), 3) := by decide +kernel
theorem dX4_lamps_113 : decode cX4_lamps 113 = .ok (.aload_n 0, 1) := by decide +kernel
theorem dX4_lamps_114 : decode cX4_lamps 114 = .ok (.getfield 10, 3) := by decide +kernel
theorem dX4_lamps_117 : decode cX4_lamps 117 = .ok (.iconst 5, 1) := by decide +kernel
theorem dX4_lamps_118 : decode cX4_lamps 118 = .ok (.invokevirtual 125, 3) := by decide +kernel
theorem dX4_lamps_121 : decode cX4_lamps 121 = .ok (.ireturn, 1) := by decide +kernel
theorem dX4_odds_0 : decode cX4_odds 0 = .ok (.aload_n 0, 1) := by decide +kernel
theorem dX4_odds_1 : decode cX4_odds 1 = .ok (.getfield 10, 3) := by decide +kernel
theorem dX4_odds_4 : decode cX4_odds 4 = .ok (.iload_n 1, 1) := by decide +kernel
theorem dX4_odds_5 : decode cX4_odds 5 = .ok (.invokevirtual 137, 3) := by decide +kernel
theorem dX4_odds_8 : decode cX4_odds 8 = .ok (.ifCond .eq 29, 3) := by decide +kernel
theorem dX4_odds_11 : decode cX4_odds 11 = .ok (.iload_n 2, 1) := by decide +kernel
theorem dX4_odds_12 : decode cX4_odds 12 = .ok (.iconst 3, 1) := by decide +kernel
theorem dX4_odds_13 : decode cX4_odds 13 = .ok (.invokestatic 52, 3) := by decide +kernel
theorem dX4_odds_16 : decode cX4_odds 16 = .ok (.ifCond .eq 21, 3) := by decide +kernel
theorem dX4_odds_19 : decode cX4_odds 19 = .ok (.iload_n 3, 1) := by decide +kernel
theorem dX4_odds_20 : decode cX4_odds 20 = .ok (.bipush 18, 2) := by decide +kernel
theorem dX4_odds_22 : decode cX4_odds 22 = .ok (.invokestatic 52, 3) := by decide +kernel
theorem dX4_odds_25 : decode cX4_odds 25 = .ok (.ifCond .eq 12, 3) := by decide +kernel
theorem dX4_odds_28 : decode cX4_odds 28 = .ok (.iload 4, 2) := by decide +kernel
theorem dX4_odds_30 : decode cX4_odds 30 = .ok (.iconst 1, 1) := by decide +kernel
theorem dX4_odds_31 : decode cX4_odds 31 = .ok (.invokestatic 52, 3) := by decide +kernel
theorem dX4_odds_34 : decode cX4_odds 34 = .ok (.ifCond .ne 11, 3) := by decide +kernel
theorem dX4_odds_37 : decode cX4_odds 37 = .ok (.aload_n 0, 1) := by decide +kernel
theorem dX4_odds_38 : decode cX4_odds 38 = .ok (.ldc 56, 2) := by decide +kernel
theorem dX4_odds_40 : decode cX4_odds 40 = .ok (.invokevirtual 57, 3) := by decide +kernel
theorem dX4_odds_43 : decode cX4_odds 43 = .ok (.i2l, 1) := by decide +kernel
theorem dX4_odds_44 : decode cX4_odds 44 = .ok (.lreturn, 1) := by decide +kernel
theorem dX4_odds_45 : decode cX4_odds 45 = .ok (.aload_n 0, 1) := by decide +kernel
theorem dX4_odds_46 : decode cX4_odds 46 = .ok (.iload_n 1, 1) := by decide +kernel
theorem dX4_odds_47 : decode cX4_odds 47 = .ok (.iload_n 2, 1) := by decide +kernel
theorem dX4_odds_48 : decode cX4_odds 48 = .ok (.invokevirtual 198, 3) := by decide +kernel
theorem dX4_odds_51 : decode cX4_odds 51 = .ok (.istore 5, 2) := by decide +kernel
theorem dX4_odds_53 : decode cX4_odds 53 = .ok (.bipush 10, 2) := by decide +kernel
theorem dX4_odds_55 : decode cX4_odds 55 = .ok (.istore 6, 2) := by decide +kernel
theorem dX4_odds_57 : decode cX4_odds 57 = .ok (.bipush 10, 2) := by decide +kernel
theorem dX4_odds_59 : decode cX4_odds 59 = .ok (.istore 7, 2) := by decide +kernel
theorem dX4_odds_61 : decode cX4_odds 61 = .ok (.iload 7, 2) := by decide +kernel
theorem dX4_odds_63 : decode cX4_odds 63 = .ok (.iconst 1, 1) := by decide +kernel
theorem dX4_odds_64 : decode cX4_odds 64 = .ok (.if_icmp .le 39, 3) := by decide +kernel
theorem dX4_odds_67 : decode cX4_odds 67 = .ok (.iload 5, 2) := by decide +kernel
theorem dX4_odds_69 : decode cX4_odds 69 = .ok (.iload 7, 2) := by decide +kernel
theorem dX4_odds_71 : decode cX4_odds 71 = .ok (.irem, 1) := by decide +kernel
theorem dX4_odds_72 : decode cX4_odds 72 = .ok (.ifCond .ne 25, 3) := by decide +kernel
theorem dX4_odds_75 : decode cX4_odds 75 = .ok (.iload 6, 2) := by decide +kernel
theorem dX4_odds_77 : decode cX4_odds 77 = .ok (.iload 7, 2) := by decide +kernel
theorem dX4_odds_79 : decode cX4_odds 79 = .ok (.irem, 1) := by decide +kernel
theorem dX4_odds_80 : decode cX4_odds 80 = .ok (.ifCond .ne 17, 3) := by decide +kernel
theorem dX4_odds_83 : decode cX4_odds 83 = .ok (.iload 5, 2) := by decide +kernel
theorem dX4_odds_85 : decode cX4_odds 85 = .ok (.iload 7, 2) := by decide +kernel
theorem dX4_odds_87 : decode cX4_odds 87 = .ok (.idiv, 1) := by decide +kernel
theorem dX4_odds_88 : decode cX4_odds 88 = .ok (.istore 5, 2) := by decide +kernel
theorem dX4_odds_90 : decode cX4_odds 90 = .ok (.iload 6, 2) := by decide +kernel
theorem dX4_odds_92 : decode cX4_odds 92 = .ok (.iload 7, 2) := by decide +kernel
theorem dX4_odds_94 : decode cX4_odds 94 = .ok (.idiv, 1) := by decide +kernel
theorem dX4_odds_95 : decode cX4_odds 95 = .ok (.istore 6, 2) := by decide +kernel
theorem dX4_odds_97 : decode cX4_odds 97 = .ok (.iinc 7 (-1), 3) := by decide +kernel
theorem dX4_odds_100 : decode cX4_odds 100 = .ok (.goto (-39), 3) := by decide +kernel
theorem dX4_odds_103 : decode cX4_odds 103 = .ok (.iload 4, 2) := by decide +kernel
theorem dX4_odds_105 : decode cX4_odds 105 = .ok (.ifCond .ne 8, 3) := by decide +kernel
theorem dX4_odds_108 : decode cX4_odds 108 = .ok (.iload 5, 2) := by decide +kernel
theorem dX4_odds_110 : decode cX4_odds 110 = .ok (.goto 5, 3) := by decide +kernel
theorem dX4_odds_113 : decode cX4_odds 113 = .ok (.iload 6, 2) := by decide +kernel
theorem dX4_odds_115 : decode cX4_odds 115 = .ok (.iload_n 3, 1) := by decide +kernel
theorem dX4_odds_116 : decode cX4_odds 116 = .ok (.invokestatic 201, 3) := by decide +kernel
theorem dX4_odds_119 : decode cX4_odds 119 = .ok (.lreturn, 1) := by decide +kernel
theorem dX4_seed_0 : decode cX4_seed 0 = .ok (.aload_n 0, 1) := by decide +kernel
theorem dX4_seed_1 : decode cX4_seed 1 = .ok (.getfield 10, 3) := by decide +kernel
theorem dX4_seed_4 : decode cX4_seed 4 = .ok (.getfield 205, 3) := by decide +kernel
theorem dX4_seed_7 : decode cX4_seed 7 = .ok (.istore_n 2, 1) := by decide +kernel
theorem dX4_seed_8 : decode cX4_seed 8 = .ok (.aload_n 0, 1) := by decide +kernel
theorem dX4_seed_9 : decode cX4_seed 9 = .ok (.getfield 10, 3) := by decide +kernel
theorem dX4_seed_12 : decode cX4_seed 12 = .ok (.iload_n 1, 1) := by decide +kernel
theorem dX4_seed_13 : decode cX4_seed 13 = .ok (.putfield 205, 3) := by decide +kernel
theorem dX4_seed_16 : decode cX4_seed 16 = .ok (.iload_n 2, 1) := by decide +kernel
theorem dX4_seed_17 : decode cX4_seed 17 = .ok (.ireturn, 1) := by decide +kernel
theorem dX4_feed_0 : decode cX4_feed 0 = .ok (.iload_n 2, 1) := by decide +kernel
theorem dX4_feed_1 : decode cX4_feed 1 = .ok (.iconst 1, 1) := by decide +kernel
theorem dX4_feed_2 : decode cX4_feed 2 = .ok (.if_icmp .lt 8, 3) := by decide +kernel
theorem dX4_feed_5 : decode cX4_feed 5 = .ok (.iload_n 2, 1) := by decide +kernel
theorem dX4_feed_6 : decode cX4_feed 6 = .ok (.iconst 4, 1) := by decide +kernel
theorem dX4_feed_7 : decode cX4_feed 7 = .ok (.if_icmp .le 10, 3) := by decide +kernel
theorem dX4_feed_10 : decode cX4_feed 10 = .ok (.aload_n 0, 1) := by decide +kernel
theorem dX4_feed_11 : decode cX4_feed 11 = .ok (.ldc 56, 2) := by decide +kernel
theorem dX4_feed_13 : decode cX4_feed 13 = .ok (.invokevirtual 57, 3) := by decide +kernel
theorem dX4_feed_16 : decode cX4_feed 16 = .ok (.ireturn, 1) := by decide +kernel
theorem dX4_feed_17 : decode cX4_feed 17 = .ok (.aload_n 0, 1) := by decide +kernel
theorem dX4_feed_18 : decode cX4_feed 18 = .ok (.getfield 29, 3) := by decide +kernel
theorem dX4_feed_21 : decode cX4_feed 21 = .ok (.iload_n 2, 1) := by decide +kernel
theorem dX4_feed_22 : decode cX4_feed 22 = .ok (.invokevirtual 208, 3) := by decide +kernel
theorem dX4_feed_25 : decode cX4_feed 25 = .ok (.ifCond .ne 10, 3) := by decide +kernel
theorem dX4_feed_28 : decode cX4_feed 28 = .ok (.aload_n 0, 1) := by decide +kernel
theorem dX4_feed_29 : decode cX4_feed 29 = .ok (.ldc 85, 2) := by decide +kernel
theorem dX4_feed_31 : decode cX4_feed 31 = .ok (.invokevirtual 57, 3) := by decide +kernel
theorem dX4_feed_34 : decode cX4_feed 34 = .ok (.ireturn, 1) := by decide +kernel
theorem dX4_feed_35 : decode cX4_feed 35 = .ok (.iload_n 2, 1) := by decide +kernel
theorem dX4_feed_36 : decode cX4_feed 36 = .ok (.iconst 1, 1) := by decide +kernel
theorem dX4_feed_37 : decode cX4_feed 37 = .ok (.isub, 1) := by decide +kernel
theorem dX4_feed_38 : decode cX4_feed 38 = .ok (.istore_n 3, 1) := by decide +kernel
theorem dX4_feed_39 : decode cX4_feed 39 = .ok (.iload_n 3, 1) := by decide +kernel
theorem dX4_feed_40 : decode cX4_feed 40 = .ok (.ifCond .lt 26, 3) := by decide +kernel
theorem dX4_feed_43 : decode cX4_feed 43 = .ok (.aload_n 0, 1) := by decide +kernel
theorem dX4_feed_44 : decode cX4_feed 44 = .ok (.getfield 29, 3) := by decide +kernel
theorem dX4_feed_47 : decode cX4_feed 47 = .ok (.iload_n 1, 1) := by decide +kernel
theorem dX4_feed_48 : decode cX4_feed 48 = .ok (.bipush 8, 2) := by decide +kernel
theorem dX4_feed_50 : decode cX4_feed 50 = .ok (.iload_n 3, 1) := by decide +kernel
theorem dX4_feed_51 : decode cX4_feed 51 = .ok (.imul, 1) := by decide +kernel
theorem dX4_feed_52 : decode cX4_feed 52 = .ok (.iushr, 1) := by decide +kernel
theorem dX4_feed_53 : decode cX4_feed 53 = .ok (.sipush 255, 3) := by decide +kernel
theorem dX4_feed_56 : decode cX4_feed 56 = .ok (.iand, 1) := by decide +kernel
theorem dX4_feed_57 : decode cX4_feed 57 = .ok (.invokevirtual 211, 3) := by decide +kernel
theorem dX4_feed_60 : decode cX4_feed 60 = .ok (.iinc 3 (-1), 3) := by decide +kernel
theorem dX4_feed_63 : decode cX4_feed 63 = .ok (.goto (-24), 3) := by decide +kernel
theorem dX4_feed_66 : decode cX4_feed 66 = .ok (.aload_n 0, 1) := by decide +kernel
theorem dX4_feed_67 : decode cX4_feed 67 = .ok (.getfield 29, 3) := by decide +kernel
theorem dX4_feed_70 : decode cX4_feed 70 = .ok (.getfield 214, 3) := by decide +kernel
theorem dX4_feed_73 : decode cX4_feed 73 = .ok (.ireturn, 1) := by decide +kernel
theorem dX4_wipe_0 : decode cX4_wipe 0 = .ok (.aload_n 0, 1) := by decide +kernel
theorem dX4_wipe_1 : decode cX4_wipe 1 = .ok (.getfield 29, 3) := by decide +kernel
theorem dX4_wipe_4 : decode cX4_wipe 4 = .ok (.getfield 214, 3) := by decide +kernel
theorem dX4_wipe_7 : decode cX4_wipe 7 = .ok (.istore_n 1, 1) := by decide +kernel
theorem dX4_wipe_8 : decode cX4_wipe 8 = .ok (.aload_n 0, 1) := by decide +kernel
theorem dX4_wipe_9 : decode cX4_wipe 9 = .ok (.getfield 29, 3) := by decide +kernel
theorem dX4_wipe_12 : decode cX4_wipe 12 = .ok (.iconst 0, 1) := by decide +kernel
theorem dX4_wipe_13 : decode cX4_wipe 13 = .ok (.putfield 214, 3) := by decide +kernel
theorem dX4_wipe_16 : decode cX4_wipe 16 = .ok (.iload_n 1, 1) := by decide +kernel
theorem dX4_wipe_17 : decode cX4_wipe 17 = .ok (.ireturn, 1) := by decide +kernel
theorem dX4_text_0 : decode cX4_text 0 = .ok (.aload_n 0, 1) := by decide +kernel
theorem dX4_text_1 : decode cX4_text 1 = .ok (.getfield 16, 3) := by decide +kernel
theorem dX4_text_4 : decode cX4_text 4 = .ok (.aload_n 0, 1) := by decide +kernel
theorem dX4_text_5 : decode cX4_text 5 = .ok (.getfield 10, 3) := by decide +kernel
theorem dX4_text_8 : decode cX4_text 8 = .ok (.invokevirtual 140, 3) := by decide +kernel
theorem dX4_text_11 : decode cX4_text 11 = .ok (.aload_n 0, 1) := by decide +kernel
theorem dX4_text_12 : decode cX4_text 12 = .ok (.getfield 29, 3) := by decide +kernel
theorem dX4_text_15 : decode cX4_text 15 = .ok (.aload_n 0, 1) := by decide +kernel
theorem dX4_text_16 : decode cX4_text 16 = .ok (.getfield 16, 3) := by decide +kernel
theorem dX4_text_19 : decode cX4_text 19 = .ok (.invokevirtual 217, 3) := by decide +kernel
theorem dX4_text_22 : decode cX4_text 22 = .ok (.istore_n 1, 1) := by decide +kernel
theorem dX4_text_23 : decode cX4_text 23 = .ok (.iload_n 1, 1) := by decide +kernel
theorem dX4_text_24 : decode cX4_text 24 = .ok (.ifCond .lt 14, 3) := by decide +kernel
theorem dX4_text_27 : decode cX4_text 27 = .ok (.aload_n 0, 1) := by decide +kernel
theorem dX4_text_28 : decode cX4_text 28 = .ok (.getfield 10, 3) := by decide +kernel
theorem dX4_text_31 : decode cX4_text 31 = .ok (.aload_n 0, 1) := by decide +kernel
theorem dX4_text_32 : decode cX4_text 32 = .ok (.getfield 16, 3) := by decide +kernel
theorem dX4_text_35 : decode cX4_text 35 = .ok (.invokevirtual 140, 3) := by decide +kernel
theorem dX4_text_38 : decode cX4_text 38 = .ok (.aload_n 0, 1) := by decide +kernel
theorem dX4_text_39 : decode cX4_text 39 = .ok (.getfield 29, 3) := by decide +kernel
theorem dX4_text_42 : decode cX4_text 42 = .ok (.iconst 0, 1) := by decide +kernel
theorem dX4_text_43 : decode cX4_text 43 = .ok (.putfield 214, 3) := by decide +kernel
theorem dX4_text_46 : decode cX4_text 46 = .ok (.iload_n 1, 1) := by decide +kernel
theorem dX4_text_47 : decode cX4_text 47 = .ok (.ireturn, 1) := by decide +kernel
theorem dX4_hold_0 : decode cX4_hold 0 = .ok (.iload_n 1, 1) := by decide +kernel
theorem dX4_hold_1 : decode cX4_hold 1 = .ok (.bipush 9, 2) := by decide +kernel
theorem dX4_hold_3 : decode cX4_hold 3 = .ok (.invokestatic 52, 3) := by decide +kernel
theorem dX4_hold_6 : decode cX4_hold 6 = .ok (.ifCond .eq 14, 3) := by decide +kernel
theorem dX4_hold_9 : decode cX4_hold 9 = .ok (.aload_n 0, 1) := by decide +kernel
theorem dX4_hold_10 : decode cX4_hold 10 = .ok (.getfield 10, 3) := by decide +kernel
theorem dX4_hold_13 : decode cX4_hold 13 = .ok (.iload_n 2, 1) := by decide +kernel
theorem dX4_hold_14 : decode cX4_hold 14 = .ok (.invokevirtual 70, 3) := by decide +kernel
theorem dX4_hold_17 : decode cX4_hold 17 = .ok (.ifCond .ne 10, 3) := by decide +kernel
theorem dX4_hold_20 : decode cX4_hold 20 = .ok (.aload_n 0, 1) := by decide +kernel
theorem dX4_hold_21 : decode cX4_hold 21 = .ok (.ldc 56, 2) := by decide +kernel
theorem dX4_hold_23 : decode cX4_hold 23 = .ok (.invokevirtual 57, 3) := by decide +kernel
theorem dX4_hold_26 : decode cX4_hold 26 = .ok (.ireturn, 1) := by decide +kernel
theorem dX4_hold_27 : decode cX4_hold 27 = .ok (.aload_n 0, 1) := by decide +kernel
theorem dX4_hold_28 : decode cX4_hold 28 = .ok (.getfield 10, 3) := by decide +kernel
theorem dX4_hold_31 : decode cX4_hold 31 = .ok (.getfield 221, 3) := by decide +kernel
theorem dX4_hold_34 : decode cX4_hold 34 = .ok (.iload_n 1, 1) := by decide +kernel
theorem dX4_hold_35 : decode cX4_hold 35 = .ok (.iload_n 2, 1) := by decide +kernel
theorem dX4_hold_36 : decode cX4_hold 36 = .ok (.iastore, 1) := by decide +kernel
theorem dX4_hold_37 : decode cX4_hold 37 = .ok (.iconst 1, 1) := by decide +kernel
theorem dX4_hold_38 : decode cX4_hold 38 = .ok (.ireturn, 1) := by decide +kernel
theorem dX4_as_0 : decode cX4_as 0 = .ok (.iload_n 1, 1) := by decide +kernel
theorem dX4_as_1 : decode cX4_as 1 = .ok (.bipush 9, 2) := by decide +kernel
theorem dX4_as_3 : decode cX4_as 3 = .ok (.invokestatic 52, 3) := by decide +kernel
theorem dX4_as_6 : decode cX4_as 6 = .ok (.ifCond .eq 12, 3) := by decide +kernel
theorem dX4_as_9 : decode cX4_as 9 = .ok (.iload_n 2, 1) := by decide +kernel
theorem dX4_as_10 : decode cX4_as 10 = .ok (.bipush 6, 2) := by decide +kernel
theorem dX4_as_12 : decode cX4_as 12 = .ok (.invokestatic 52, 3) := by decide +kernel
theorem dX4_as_15 : decode cX4_as 15 = .ok (.ifCond .ne 10, 3) := by decide +kernel
theorem dX4_as_18 : decode cX4_as 18 = .ok (.aload_n 0, 1) := by decide +kernel
theorem dX4_as_19 : decode cX4_as 19 = .ok (.ldc 56, 2) := by decide +kernel
theorem dX4_as_21 : decode cX4_as 21 = .ok (.invokevirtual 57, 3) := by decide +kernel
theorem dX4_as_24 : decode cX4_as 24 = .ok (.ireturn, 1) := by decide +kernel
theorem dX4_as_25 : decode cX4_as 25 = .ok (.aload_n 0, 1) := by decide +kernel
theorem dX4_as_26 : decode cX4_as 26 = .ok (.getfield 10, 3) := by decide +kernel
theorem dX4_as_29 : decode cX4_as 29 = .ok (.getfield 221, 3) := by decide +kernel
theorem dX4_as_32 : decode cX4_as 32 = .ok (.iload_n 1, 1) := by decide +kernel
theorem dX4_as_33 : decode cX4_as 33 = .ok (.iaload, 1) := by decide +kernel
theorem dX4_as_34 : decode cX4_as 34 = .ok (.istore_n 3, 1) := by decide +kernel
theorem dX4_as_35 : decode cX4_as 35 = .ok (.aload_n 0, 1) := by decide +kernel
theorem dX4_as_36 : decode cX4_as 36 = .ok (.getfield 10, 3) := by decide +kernel
theorem dX4_as_39 : decode cX4_as 39 = .ok (.iload_n 3, 1) := by decide +kernel
theorem dX4_as_40 : decode cX4_as 40 = .ok (.invokevirtual 90, 3) := by decide +kernel
theorem dX4_as_43 : decode cX4_as 43 = .ok (.astore 4, 2) := by decide +kernel
theorem dX4_as_45 : decode cX4_as 45 = .ok (.aload 4, 2) := by decide +kernel
theorem dX4_as_47 : decode cX4_as 47 = .ok (.ifnonnull 10, 3) := by decide +kernel
theorem dX4_as_50 : decode cX4_as 50 = .ok (.aload_n 0, 1) := by decide +kernel
theorem dX4_as_51 : decode cX4_as 51 = .ok (.ldc 224, 2) := by decide +kernel
theorem dX4_as_53 : decode cX4_as 53 = .ok (.invokevirtual 57, 3) := by decide +kernel
theorem dX4_as_56 : decode cX4_as 56 = .ok (.ireturn, 1) := by decide +kernel
theorem dX4_as_57 : decode cX4_as 57 = .ok (.aload 4, 2) := by decide +kernel
theorem dX4_as_59 : decode cX4_as 59 = .ok (.getfield 225, 3) := by decide +kernel
theorem dX4_as_62 : decode cX4_as 62 = .ok (.iload_n 2, 1) := by decide +kernel
theorem dX4_as_63 : decode cX4_as 63 = .ok (.invokestatic 228, 3) := by decide +kernel
theorem dX4_as_66 : decode cX4_as 66 = .ok (.ifCond .eq 7, 3) := by decide +kernel
theorem dX4_as_69 : decode cX4_as 69 = .ok (.iload_n 3, 1) := by decide +kernel
theorem dX4_as_70 : decode cX4_as 70 = .ok (.goto 9, 3) := by decide +kernel
theorem dX4_as_73 : decode cX4_as 73 = .ok (.aload_n 0, 1) := by decide +kernel
theorem dX4_as_74 : decode cX4_as 74 = .ok (.ldc 231, 2) := by decide +kernel
theorem dX4_as_76 : decode cX4_as 76 = .ok (.invokevirtual 57, 3) := by decide +kernel
theorem dX4_as_79 : decode cX4_as 79 = .ok (.ireturn, 1) := by decide +kernel
theorem dX4_sheet_0 : decode cX4_sheet 0 = .ok (.aload_n 0, 1) := by decide +kernel
theorem dX4_sheet_1 : decode cX4_sheet 1 = .ok (.iload_n 1, 1) := by decide +kernel
theorem dX4_sheet_2 : decode cX4_sheet 2 = .ok (.invokevirtual 177, 3) := by decide +kernel
theorem dX4_sheet_5 : decode cX4_sheet 5 = .ok (.astore 4, 2) := by decide +kernel
theorem dX4_sheet_7 : decode cX4_sheet 7 = .ok (.aload 4, 2) := by decide +kernel
theorem dX4_sheet_9 : decode cX4_sheet 9 = .ok (.ifnull 10, 3) := by decide +kernel
theorem dX4_sheet_12 : decode cX4_sheet 12 = .ok (.iload_n 2, 1) := by decide +kernel
theorem dX4_sheet_13 : decode cX4_sheet 13 = .ok (.invokestatic 232, 3) := by decide +kernel
theorem dX4_sheet_16 : decode cX4_sheet 16 = .ok (.ifCond .ne 10, 3) := by decide +kernel
theorem dX4_sheet_19 : decode cX4_sheet 19 = .ok (.aload_n 0, 1) := by decide +kernel
theorem dX4_sheet_20 : decode cX4_sheet 20 = .ok (.ldc 56, 2) := by decide +kernel
theorem dX4_sheet_22 : decode cX4_sheet 22 = .ok (.invokevirtual 57, 3) := by decide +kernel
theorem dX4_sheet_25 : decode cX4_sheet 25 = .ok (.ireturn, 1) := by decide +kernel
theorem dX4_sheet_26 : decode cX4_sheet 26 = .ok (.iload_n 3, 1) := by decide +kernel
theorem dX4_sheet_27 : decode cX4_sheet 27 = .ok (.ifCond .ge 10, 3) := by decide +kernel
theorem dX4_sheet_30 : decode cX4_sheet 30 = .ok (.aload_n 0, 1) := by decide +kernel
theorem dX4_sheet_31 : decode cX4_sheet 31 = .ok (.ldc 235, 2) := by decide +kernel
theorem dX4_sheet_33 : decode cX4_sheet 33 = .ok (.invokevirtual 57, 3) := by decide +kernel
theorem dX4_sheet_36 : decode cX4_sheet 36 = .ok (.ireturn, 1) := by decide +kernel
theorem dX4_sheet_37 : decode cX4_sheet 37 = .ok (.iload_n 3, 1) := by decide +kernel
theorem dX4_sheet_38 : decode cX4_sheet 38 = .ok (.bipush 40, 2) := by decide +kernel
theorem dX4_sheet_40 : decode cX4_sheet 40 = .ok (.if_icmp .le 10, 3) := by decide +kernel
theorem dX4_sheet_43 : decode cX4_sheet 43 = .ok (.aload_n 0, 1) := by decide +kernel
theorem dX4_sheet_44 : decode cX4_sheet 44 = .ok (.ldc 56, 2) := by decide +kernel
theorem dX4_sheet_46 : decode cX4_sheet 46 = .ok (.invokevirtual 57, 3) := by decide +kernel
theorem dX4_sheet_49 : decode cX4_sheet 49 = .ok (.ireturn, 1) := by decide +kernel
theorem dX4_sheet_50 : decode cX4_sheet 50 = .ok (.aload 4, 2) := by decide +kernel
theorem dX4_sheet_52 : decode cX4_sheet 52 = .ok (.iload_n 2, 1) := by decide +kernel
theorem dX4_sheet_53 : decode cX4_sheet 53 = .ok (.iload_n 3, 1) := by decide +kernel
theorem dX4_sheet_54 : decode cX4_sheet 54 = .ok (.invokevirtual 236, 3) := by decide +kernel
theorem dX4_sheet_57 : decode cX4_sheet 57 = .ok (.aload 4, 2) := by decide +kernel
theorem dX4_sheet_59 : decode cX4_sheet 59 = .ok (.getfield 239, 3) := by decide +kernel
theorem dX4_sheet_62 : decode cX4_sheet 62 = .ok (.ireturn, 1) := by decide +kernel
theorem dX4_write_0 : decode cX4_write 0 = .ok (.aload_n 0, 1) := by decide +kernel
theorem dX4_write_1 : decode cX4_write 1 = .ok (.iload_n 1, 1) := by decide +kernel
theorem dX4_write_2 : decode cX4_write 2 = .ok (.invokevirtual 177, 3) := by decide +kernel
theorem dX4_write_5 : decode cX4_write 5 = .ok (.astore 4, 2) := by decide +kernel
theorem dX4_write_7 : decode cX4_write 7 = .ok (.aload 4, 2) := by decide +kernel
theorem dX4_write_9 : decode cX4_write 9 = .ok (.ifnull 11, 3) := by decide +kernel
theorem dX4_write_12 : decode cX4_write 12 = .ok (.aload 4, 2) := by decide +kernel
theorem dX4_write_14 : decode cX4_write 14 = .ok (.invokevirtual 181, 3) := by decide +kernel
theorem dX4_write_17 : decode cX4_write 17 = .ok (.ifCond .eq 13, 3) := by decide +kernel
theorem dX4_write_20 : decode cX4_write 20 = .ok (.aload_n 0, 1) := by decide +kernel
theorem dX4_write_21 : decode cX4_write 21 = .ok (.aload 4, 2) := by decide +kernel
theorem dX4_write_23 : decode cX4_write 23 = .ok (.invokestatic 184, 3) := by decide +kernel
theorem dX4_write_26 : decode cX4_write 26 = .ok (.invokevirtual 57, 3) := by decide +kernel
theorem dX4_write_29 : decode cX4_write 29 = .ok (.ireturn, 1) := by decide +kernel
theorem dX4_write_30 : decode cX4_write 30 = .ok (.aload 4, 2) := by decide +kernel
theorem dX4_write_32 : decode cX4_write 32 = .ok (.iload_n 2, 1) := by decide +kernel
theorem dX4_write_33 : decode cX4_write 33 = .ok (.iload_n 3, 1) := by decide +kernel
theorem dX4_write_34 : decode cX4_write 34 = .ok (.invokevirtual 240, 3) := by decide +kernel
theorem dX4_write_37 : decode cX4_write 37 = .ok (.ifCond .eq 7, 3) := by decide +kernel
theorem dX4_write_40 : decode cX4_write 40 = .ok (.iconst 1, 1) := by decide +kernel
theorem dX4_write_41 : decode cX4_write 41 = .ok (.goto 9, 3) := by decide +kernel
theorem dX4_write_44 : decode cX4_write 44 = .ok (.aload_n 0, 1) := by decide +kernel
theorem dX4_write_45 : decode cX4_write 45 = .ok (.ldc 56, 2) := by decide +kernel
theorem dX4_write_47 : decode cX4_write 47 = .ok (.invokevirtual 57, 3) := by decide +kernel
theorem dX4_write_50 : decode cX4_write 50 = .ok (.ireturn, 1) := by decide +kernel
theorem dX4_copy_0 : decode cX4_copy 0 = .ok (.aload_n 0, 1) := by decide +kernel
theorem dX4_copy_1 : decode cX4_copy 1 = .ok (.iload_n 1, 1) := by decide +kernel
theorem dX4_copy_2 : decode cX4_copy 2 = .ok (.invokevirtual 177, 3) := by decide +kernel
theorem dX4_copy_5 : decode cX4_copy 5 = .ok (.astore 6, 2) := by decide +kernel
theorem dX4_copy_7 : decode cX4_copy 7 = .ok (.aload_n 0, 1) := by decide +kernel
theorem dX4_copy_8 : decode cX4_copy 8 = .ok (.iload_n 3, 1) := by decide +kernel
theorem dX4_copy_9 : decode cX4_copy 9 = .ok (.invokevirtual 177, 3) := by decide +kernel
theorem dX4_copy_12 : decode cX4_copy 12 = .ok (.astore 7, 2) := by decide +kernel
theorem dX4_copy_14 : decode cX4_copy 14 = .ok (.aload 6, 2) := by decide +kernel
theorem dX4_copy_16 : decode cX4_copy 16 = .ok (.ifnull 8, 3) := by decide +kernel
theorem dX4_copy_19 : decode cX4_copy 19 = .ok (.aload 7, 2) := by decide +kernel
theorem dX4_copy_21 : decode cX4_copy 21 = .ok (.ifnonnull 10, 3) := by decide +kernel
theorem dX4_copy_24 : decode cX4_copy 24 = .ok (.aload_n 0, 1) := by decide +kernel
theorem dX4_copy_25 : decode cX4_copy 25 = .ok (.ldc 56, 2) := by decide +kernel
theorem dX4_copy_27 : decode cX4_copy 27 = .ok (.invokevirtual 57, 3) := by decide +kernel
theorem dX4_copy_30 : decode cX4_copy 30 = .ok (.ireturn, 1) := by decide +kernel
theorem dX4_copy_31 : decode cX4_copy 31 = .ok (.aload 6, 2) := by decide +kernel
theorem dX4_copy_33 : decode cX4_copy 33 = .ok (.invokevirtual 181, 3) := by decide +kernel
theorem dX4_copy_36 : decode cX4_copy 36 = .ok (.ifCond .ne 11, 3) := by decide +kernel
theorem dX4_copy_39 : decode cX4_copy 39 = .ok (.aload 7, 2) := by decide +kernel
theorem dX4_copy_41 : decode cX4_copy 41 = .ok (.invokevirtual 181, 3) := by decide +kernel
theorem dX4_copy_44 : decode cX4_copy 44 = .ok (.ifCond .eq 10, 3) := by decide +kernel
theorem dX4_copy_47 : decode cX4_copy 47 = .ok (.aload_n 0, 1) := by decide +kernel
theorem dX4_copy_48 : decode cX4_copy 48 = .ok (.ldc 224, 2) := by decide +kernel
theorem dX4_copy_50 : decode cX4_copy 50 = .ok (.invokevirtual 57, 3) := by decide +kernel
theorem dX4_copy_53 : decode cX4_copy 53 = .ok (.ireturn, 1) := by decide +kernel
theorem dX4_copy_54 : decode cX4_copy 54 = .ok (.aload 6, 2) := by decide +kernel
theorem dX4_copy_56 : decode cX4_copy 56 = .ok (.getfield 243, 3) := by decide +kernel
theorem dX4_copy_59 : decode cX4_copy 59 = .ok (.aload 7, 2) := by decide +kernel
theorem dX4_copy_61 : decode cX4_copy 61 = .ok (.getfield 243, 3) := by decide +kernel
theorem dX4_copy_64 : decode cX4_copy 64 = .ok (.if_icmp .eq 10, 3) := by decide +kernel
theorem dX4_copy_67 : decode cX4_copy 67 = .ok (.aload_n 0, 1) := by decide +kernel
theorem dX4_copy_68 : decode cX4_copy 68 = .ok (.ldc 231, 2) := by decide +kernel
theorem dX4_copy_70 : decode cX4_copy 70 = .ok (.invokevirtual 57, 3) := by decide +kernel
theorem dX4_copy_73 : decode cX4_copy 73 = .ok (.ireturn, 1) := by decide +kernel
theorem dX4_copy_74 : decode cX4_copy 74 = .ok (.aload 6, 2) := by decide +kernel
theorem dX4_copy_76 : decode cX4_copy 76 = .ok (.iload_n 2, 1) := by decide +kernel
theorem dX4_copy_77 : decode cX4_copy 77 = .ok (.iload 5, 2) := by decide +kernel
theorem dX4_copy_79 : decode cX4_copy 79 = .ok (.invokevirtual 246, 3) := by decide +kernel
theorem dX4_copy_82 : decode cX4_copy 82 = .ok (.ifCond .eq 15, 3) := by decide +kernel
theorem dX4_copy_85 : decode cX4_copy 85 = .ok (.aload 7, 2) := by decide +kernel
theorem dX4_copy_87 : decode cX4_copy 87 = .ok (.iload 4, 2) := by decide +kernel
theorem dX4_copy_89 : decode cX4_copy 89 = .ok (.iload 5, 2) := by decide +kernel
theorem dX4_copy_91 : decode cX4_copy 91 = .ok (.invokevirtual 246, 3) := by decide +kernel
theorem dX4_copy_94 : decode cX4_copy 94 = .ok (.ifCond .ne 10, 3) := by decide +kernel
theorem dX4_copy_97 : decode cX4_copy 97 = .ok (.aload_n 0, 1) := by decide +kernel
theorem dX4_copy_98 : decode cX4_copy 98 = .ok (.ldc 56, 2) := by decide +kernel
theorem dX4_copy_100 : decode cX4_copy 100 = .ok (.invokevirtual 57, 3) := by decide +kernel
theorem dX4_copy_103 : decode cX4_copy 103 = .ok (.ireturn, 1) := by decide +kernel
theorem dX4_copy_104 : decode cX4_copy 104 = .ok (.aload 6, 2) := by decide +kernel
theorem dX4_copy_106 : decode cX4_copy 106 = .ok (.getfield 249, 3) := by decide +kernel
theorem dX4_copy_109 : decode cX4_copy 109 = .ok (.iload_n 2, 1) := by decide +kernel
theorem dX4_copy_110 : decode cX4_copy 110 = .ok (.aload 7, 2) := by decide +kernel
theorem dX4_copy_112 : decode cX4_copy 112 = .ok (.getfield 249, 3) := by decide +kernel
theorem dX4_copy_115 : decode cX4_copy 115 = .ok (.iload 4, 2) := by decide +kernel
theorem dX4_copy_117 : decode cX4_copy 117 = .ok (.iload 5, 2) := by decide +kernel
theorem dX4_copy_119 : decode cX4_copy 119 = .ok (.invokestatic 252, 3) := by decide +kernel
theorem dX4_copy_122 : decode cX4_copy 122 = .ok (.iload 5, 2) := by decide +kernel
theorem dX4_copy_124 : decode cX4_copy 124 = .ok (.ireturn, 1) := by decide +kernel
theorem dX4_load_0 : decode cX4_load 0 = .ok (.aload_n 0, 1) := by decide +kernel
theorem dX4_load_1 : decode cX4_load 1 = .ok (.iload_n 1, 1) := by decide +kernel
theorem dX4_load_2 : decode cX4_load 2 = .ok (.invokevirtual 177, 3) := by decide +kernel
theorem dX4_load_5 : decode cX4_load 5 = .ok (.astore_n 2, 1) := by decide +kernel
theorem dX4_load_6 : decode cX4_load 6 = .ok (.aload_n 2, 1) := by decide +kernel
theorem dX4_load_7 : decode cX4_load 7 = .ok (.ifnull 10, 3) := by decide +kernel
theorem dX4_load_10 : decode cX4_load 10 = .ok (.aload_n 2, 1) := by decide +kernel
theorem dX4_load_11 : decode cX4_load 11 = .ok (.invokevirtual 181, 3) := by decide +kernel
theorem dX4_load_14 : decode cX4_load 14 = .ok (.ifCond .eq 12, 3) := by decide +kernel
theorem dX4_load_17 : decode cX4_load 17 = .ok (.aload_n 0, 1) := by decide +kernel
theorem dX4_load_18 : decode cX4_load 18 = .ok (.aload_n 2, 1) := by decide +kernel
theorem dX4_load_19 : decode cX4_load 19 = .ok (.invokestatic 184, 3) := by decide +kernel
theorem dX4_load_22 : decode cX4_load 22 = .ok (.invokevirtual 57, 3) := by decide +kernel
theorem dX4_load_25 : decode cX4_load 25 = .ok (.ireturn, 1) := by decide +kernel
theorem dX4_load_26 : decode cX4_load 26 = .ok (.iconst 0, 1) := by decide +kernel
theorem dX4_load_27 : decode cX4_load 27 = .ok (.istore_n 3, 1) := by decide +kernel
theorem dX4_load_28 : decode cX4_load 28 = .ok (.iload_n 3, 1) := by decide +kernel
theorem dX4_load_29 : decode cX4_load 29 = .ok (.bipush 6, 2) := by decide +kernel
theorem dX4_load_31 : decode cX4_load 31 = .ok (.if_icmp .ge 45, 3) := by decide +kernel
theorem dX4_load_34 : decode cX4_load 34 = .ok (.iload_n 3, 1) := by decide +kernel
theorem dX4_load_35 : decode cX4_load 35 = .ok (.aload_n 2, 1) := by decide +kernel
theorem dX4_load_36 : decode cX4_load 36 = .ok (.getfield 239, 3) := by decide +kernel
theorem dX4_load_39 : decode cX4_load 39 = .ok (.if_icmp .ge 37, 3) := by decide +kernel
theorem dX4_load_42 : decode cX4_load 42 = .ok (.aload_n 0, 1) := by decide +kernel
theorem dX4_load_43 : decode cX4_load 43 = .ok (.getfield 10, 3) := by decide +kernel
theorem dX4_load_46 : decode cX4_load 46 = .ok (.aload_n 2, 1) := by decide +kernel
theorem dX4_load_47 : decode cX4_load 47 = .ok (.iload_n 3, 1) := by decide +kernel
theorem dX4_load_48 : decode cX4_load 48 = .ok (.invokevirtual 258, 3) := by decide +kernel
theorem dX4_load_51 : decode cX4_load 51 = .ok (.invokevirtual 70, 3) := by decide +kernel
theorem dX4_load_54 : decode cX4_load 54 = .ok (.ifCond .eq 22, 3) := by decide +kernel
theorem dX4_load_57 : decode cX4_load 57 = .ok (.aload_n 0, 1) := by decide +kernel
theorem dX4_load_58 : decode cX4_load 58 = .ok (.getfield 10, 3) := by decide +kernel
theorem dX4_load_61 : decode cX4_load 61 = .ok (.iload_n 3, 1) := by decide +kernel
theorem dX4_load_62 : decode cX4_load 62 = .ok (.aload_n 2, 1) := by decide +kernel
theorem dX4_load_63 : decode cX4_load 63 = .ok (.iload_n 3, 1) := by decide +kernel
theorem dX4_load_64 : decode cX4_load 64 = .ok (.invokevirtual 258, 3) := by decide +kernel
theorem dX4_load_67 : decode cX4_load 67 = .ok (.invokevirtual 76, 3) := by decide +kernel
theorem dX4_load_70 : decode cX4_load 70 = .ok (.iinc 3 1, 3) := by decide +kernel
theorem dX4_load_73 : decode cX4_load 73 = .ok (.goto (-45), 3) := by decide +kernel
theorem dX4_load_76 : decode cX4_load 76 = .ok (.iload_n 3, 1) := by decide +kernel
theorem dX4_load_77 : decode cX4_load 77 = .ok (.ireturn, 1) := by decide +kernel
theorem dX4_judge_0 : decode cX4_judge 0 = .ok (.aload_n 0, 1) := by decide +kernel
theorem dX4_judge_1 : decode cX4_judge 1 = .ok (.iload_n 1, 1) := by decide +kernel
theorem dX4_judge_2 : decode cX4_judge 2 = .ok (.invokevirtual 177, 3) := by decide +kernel
theorem dX4_judge_5 : decode cX4_judge 5 = .ok (.astore_n 2, 1) := by decide +kernel
theorem dX4_judge_6 : decode cX4_judge 6 = .ok (.aload_n 2, 1) := by decide +kernel
theorem dX4_judge_7 : decode cX4_judge 7 = .ok (.ifnull 10, 3) := by decide +kernel
theorem dX4_judge_10 : decode cX4_judge 10 = .ok (.aload_n 2, 1) := by decide +kernel
theorem dX4_judge_11 : decode cX4_judge 11 = .ok (.invokevirtual 181, 3) := by decide +kernel
theorem dX4_judge_14 : decode cX4_judge 14 = .ok (.ifCond .eq 12, 3) := by decide +kernel
theorem dX4_judge_17 : decode cX4_judge 17 = .ok (.aload_n 0, 1) := by decide +kernel
theorem dX4_judge_18 : decode cX4_judge 18 = .ok (.aload_n 2, 1) := by decide +kernel
theorem dX4_judge_19 : decode cX4_judge 19 = .ok (.invokestatic 184, 3) := by decide +kernel
theorem dX4_judge_22 : decode cX4_judge 22 = .ok (.invokevirtual 57, 3) := by decide +kernel
theorem dX4_judge_25 : decode cX4_judge 25 = .ok (.ireturn, 1) := by decide +kernel
theorem dX4_judge_26 : decode cX4_judge 26 = .ok (.iconst 0, 1) := by decide +kernel
theorem dX4_judge_27 : decode cX4_judge 27 = .ok (.istore_n 3, 1) := by decide +kernel
theorem dX4_judge_28 : decode cX4_judge 28 = .ok (.iload_n 3, 1) := by decide +kernel
theorem dX4_judge_29 : decode cX4_judge 29 = .ok (.aload_n 2, 1) := by decide +kernel
theorem dX4_judge_30 : decode cX4_judge 30 = .ok (.getfield 239, 3) := by decide +kernel
theorem dX4_judge_33 : decode cX4_judge 33 = .ok (.if_icmp .ge 41, 3) := by decide +kernel
theorem dX4_judge_36 : decode cX4_judge 36 = .ok (.aload_n 0, 1) := by decide +kernel
theorem dX4_judge_37 : decode cX4_judge 37 = .ok (.getfield 10, 3) := by decide +kernel
theorem dX4_judge_40 : decode cX4_judge 40 = .ok (.iload_n 3, 1) := by decide +kernel
theorem dX4_judge_41 : decode cX4_judge 41 = .ok (.invokevirtual 90, 3) := by decide +kernel
theorem dX4_judge_44 : decode cX4_judge 44 = .ok (.astore 4, 2) := by decide +kernel
theorem dX4_judge_46 : decode cX4_judge 46 = .ok (.aload 4, 2) := by decide +kernel
theorem dX4_judge_48 : decode cX4_judge 48 = .ok (.ifnull 16, 3) := by decide +kernel
theorem dX4_judge_51 : decode cX4_judge 51 = .ok (.aload 4, 2) := by decide +kernel
theorem dX4_judge_53 : decode cX4_judge 53 = .ok (.getfield 261, 3) := by decide +kernel
theorem dX4_judge_56 : decode cX4_judge 56 = .ok (.aload_n 2, 1) := by decide +kernel
theorem dX4_judge_57 : decode cX4_judge 57 = .ok (.iload_n 3, 1) := by decide +kernel
theorem dX4_judge_58 : decode cX4_judge 58 = .ok (.invokevirtual 258, 3) := by decide +kernel
theorem dX4_judge_61 : decode cX4_judge 61 = .ok (.if_icmp .eq 7, 3) := by decide +kernel
theorem dX4_judge_64 : decode cX4_judge 64 = .ok (.iconst 1, 1) := by decide +kernel
theorem dX4_judge_65 : decode cX4_judge 65 = .ok (.iload_n 3, 1) := by decide +kernel
theorem dX4_judge_66 : decode cX4_judge 66 = .ok (.iadd, 1) := by decide +kernel
theorem dX4_judge_67 : decode cX4_judge 67 = .ok (.ireturn, 1) := by decide +kernel
theorem dX4_judge_68 : decode cX4_judge 68 = .ok (.iinc 3 1, 3) := by decide +kernel
theorem dX4_judge_71 : decode cX4_judge 71 = .ok (.goto (-43), 3) := by decide +kernel
theorem dX4_judge_74 : decode cX4_judge 74 = .ok (.iconst 0, 1) := by decide +kernel
theorem dX4_judge_75 : decode cX4_judge 75 = .ok (.ireturn, 1) := by decide +kernel
theorem dX4_image_0 : decode cX4_image 0 = .ok (.aload_n 0, 1) := by decide +kernel
theorem dX4_image_1 : decode cX4_image 1 = .ok (.getfield 19, 3) := by decide +kernel
theorem dX4_image_4 : decode cX4_image 4 = .ok (.aload_n 0, 1) := by decide +kernel
theorem dX4_image_5 : decode cX4_image 5 = .ok (.getfield 10, 3) := by decide +kernel
theorem dX4_image_8 : decode cX4_image 8 = .ok (.invokevirtual 140, 3) := by decide +kernel
theorem dX4_image_11 : decode cX4_image 11 = .ok (.aload_n 0, 1) := by decide +kernel
theorem dX4_image_12 : decode cX4_image 12 = .ok (.iconst 1, 1) := by decide +kernel
theorem dX4_image_13 : decode cX4_image 13 = .ok (.putfield 22, 3) := by decide +kernel
theorem dX4_image_16 : decode cX4_image 16 = .ok (.iconst 1, 1) := by decide +kernel
theorem dX4_image_17 : decode cX4_image 17 = .ok (.ireturn, 1) := by decide +kernel
theorem dX4_undo_0 : decode cX4_undo 0 = .ok (.aload_n 0, 1) := by decide +kernel
theorem dX4_undo_1 : decode cX4_undo 1 = .ok (.getfield 22, 3) := by decide +kernel
theorem dX4_undo_4 : decode cX4_undo 4 = .ok (.ifCond .ne 10, 3) := by decide +kernel
theorem dX4_undo_7 : decode cX4_undo 7 = .ok (.aload_n 0, 1) := by decide +kernel
theorem dX4_undo_8 : decode cX4_undo 8 = .ok (.ldc 151, 2) := by decide +kernel
theorem dX4_undo_10 : decode cX4_undo 10 = .ok (.invokevirtual 57, 3) := by decide +kernel
theorem dX4_undo_13 : decode cX4_undo 13 = .ok (.ireturn, 1) := by decide +kernel
theorem dX4_undo_14 : decode cX4_undo 14 = .ok (.aload_n 0, 1) := by decide +kernel
theorem dX4_undo_15 : decode cX4_undo 15 = .ok (.getfield 10, 3) := by decide +kernel
theorem dX4_undo_18 : decode cX4_undo 18 = .ok (.aload_n 0, 1) := by decide +kernel
theorem dX4_undo_19 : decode cX4_undo 19 = .ok (.getfield 19, 3) := by decide +kernel
theorem dX4_undo_22 : decode cX4_undo 22 = .ok (.invokevirtual 140, 3) := by decide +kernel
theorem dX4_undo_25 : decode cX4_undo 25 = .ok (.aload_n 0, 1) := by decide +kernel
theorem dX4_undo_26 : decode cX4_undo 26 = .ok (.getfield 10, 3) := by decide +kernel
theorem dX4_undo_29 : decode cX4_undo 29 = .ok (.getfield 116, 3) := by decide +kernel
theorem dX4_undo_32 : decode cX4_undo 32 = .ok (.ireturn, 1) := by decide +kernel
theorem dX4_tear_0 : decode cX4_tear 0 = .ok (.aload_n 0, 1) := by decide +kernel
theorem dX4_tear_1 : decode cX4_tear 1 = .ok (.getfield 22, 3) := by decide +kernel
theorem dX4_tear_4 : decode cX4_tear 4 = .ok (.ifCond .eq 7, 3) := by decide +kernel
theorem dX4_tear_7 : decode cX4_tear 7 = .ok (.iconst 1, 1) := by decide +kernel
theorem dX4_tear_8 : decode cX4_tear 8 = .ok (.goto 4, 3) := by decide +kernel
theorem dX4_tear_11 : decode cX4_tear 11 = .ok (.iconst 0, 1) := by decide +kernel
theorem dX4_tear_12 : decode cX4_tear 12 = .ok (.istore_n 1, 1) := by decide +kernel
theorem dX4_tear_13 : decode cX4_tear 13 = .ok (.aload_n 0, 1) := by decide +kernel
theorem dX4_tear_14 : decode cX4_tear 14 = .ok (.iconst 0, 1) := by decide +kernel
theorem dX4_tear_15 : decode cX4_tear 15 = .ok (.putfield 22, 3) := by decide +kernel
theorem dX4_tear_18 : decode cX4_tear 18 = .ok (.iload_n 1, 1) := by decide +kernel
theorem dX4_tear_19 : decode cX4_tear 19 = .ok (.ireturn, 1) := by decide +kernel
theorem dX4_count_0 : decode cX4_count 0 = .ok (.iload_n 1, 1) := by decide +kernel
theorem dX4_count_1 : decode cX4_count 1 = .ok (.tableswitch 114 0 7 #[47, 55, 63, 72, 82, 90, 98, 106], 47) := by decide +kernel
theorem dX4_count_48 : decode cX4_count 48 = .ok (.aload_n 0, 1) := by decide +kernel
theorem dX4_count_49 : decode cX4_count 49 = .ok (.getfield 10, 3) := by decide +kernel
theorem dX4_count_52 : decode cX4_count 52 = .ok (.getfield 116, 3) := by decide +kernel
theorem dX4_count_55 : decode cX4_count 55 = .ok (.ireturn, 1) := by decide +kernel
theorem dX4_count_56 : decode cX4_count 56 = .ok (.aload_n 0, 1) := by decide +kernel
theorem dX4_count_57 : decode cX4_count 57 = .ok (.getfield 10, 3) := by decide +kernel
theorem dX4_count_60 : decode cX4_count 60 = .ok (.getfield 155, 3) := by decide +kernel
theorem dX4_count_63 : decode cX4_count 63 = .ok (.ireturn, 1) := by decide +kernel
theorem dX4_count_64 : decode cX4_count 64 = .ok (.aload_n 0, 1) := by decide +kernel
theorem dX4_count_65 : decode cX4_count 65 = .ok (.getfield 10, 3) := by decide +kernel
theorem dX4_count_68 : decode cX4_count 68 = .ok (.iconst 5, 1) := by decide +kernel
theorem dX4_count_69 : decode cX4_count 69 = .ok (.invokevirtual 125, 3) := by decide +kernel
theorem dX4_count_72 : decode cX4_count 72 = .ok (.ireturn, 1) := by decide +kernel
theorem dX4_count_73 : decode cX4_count 73 = .ok (.aload_n 0, 1) := by decide +kernel
theorem dX4_count_74 : decode cX4_count 74 = .ok (.getfield 10, 3) := by decide +kernel
theorem dX4_count_77 : decode cX4_count 77 = .ok (.bipush 6, 2) := by decide +kernel
theorem dX4_count_79 : decode cX4_count 79 = .ok (.invokevirtual 125, 3) := by decide +kernel
theorem dX4_count_82 : decode cX4_count 82 = .ok (.ireturn, 1) := by decide +kernel
theorem dX4_count_83 : decode cX4_count 83 = .ok (.aload_n 0, 1) := by decide +kernel
theorem dX4_count_84 : decode cX4_count 84 = .ok (.getfield 10, 3) := by decide +kernel
theorem dX4_count_87 : decode cX4_count 87 = .ok (.getfield 168, 3) := by decide +kernel
theorem dX4_count_90 : decode cX4_count 90 = .ok (.ireturn, 1) := by decide +kernel
theorem dX4_count_91 : decode cX4_count 91 = .ok (.aload_n 0, 1) := by decide +kernel
theorem dX4_count_92 : decode cX4_count 92 = .ok (.getfield 29, 3) := by decide +kernel
theorem dX4_count_95 : decode cX4_count 95 = .ok (.getfield 214, 3) := by decide +kernel
theorem dX4_count_98 : decode cX4_count 98 = .ok (.ireturn, 1) := by decide +kernel
theorem dX4_count_99 : decode cX4_count 99 = .ok (.aload_n 0, 1) := by decide +kernel
theorem dX4_count_100 : decode cX4_count 100 = .ok (.getfield 10, 3) := by decide +kernel
theorem dX4_count_103 : decode cX4_count 103 = .ok (.getfield 205, 3) := by decide +kernel
theorem dX4_count_106 : decode cX4_count 106 = .ok (.ireturn, 1) := by decide +kernel
theorem dX4_count_107 : decode cX4_count 107 = .ok (.aload_n 0, 1) := by decide +kernel
theorem dX4_count_108 : decode cX4_count 108 = .ok (.getfield 10, 3) := by decide +kernel
theorem dX4_count_111 : decode cX4_count 111 = .ok (.invokevirtual 264, 3) := by decide +kernel
theorem dX4_count_114 : decode cX4_count 114 = .ok (.ireturn, 1) := by decide +kernel
theorem dX4_count_115 : decode cX4_count 115 = .ok (.aload_n 0, 1) := by decide +kernel
theorem dX4_count_116 : decode cX4_count 116 = .ok (.ldc 56, 2) := by decide +kernel
theorem dX4_count_118 : decode cX4_count 118 = .ok (.invokevirtual 57, 3) := by decide +kernel
theorem dX4_count_121 : decode cX4_count 121 = .ok (.ireturn, 1) := by decide +kernel
theorem dX4_status_0 : decode cX4_status 0 = .ok (.iload_n 1, 1) := by decide +kernel
theorem dX4_status_1 : decode cX4_status 1 = .ok (.iconst (-1), 1) := by decide +kernel
theorem dX4_status_2 : decode cX4_status 2 = .ok (.if_icmp .lt 9, 3) := by decide +kernel
theorem dX4_status_5 : decode cX4_status 5 = .ok (.iload_n 1, 1) := by decide +kernel
theorem dX4_status_6 : decode cX4_status 6 = .ok (.bipush 7, 2) := by decide +kernel
theorem dX4_status_8 : decode cX4_status 8 = .ok (.if_icmp .lt 10, 3) := by decide +kernel
theorem dX4_status_11 : decode cX4_status 11 = .ok (.aload_n 0, 1) := by decide +kernel
theorem dX4_status_12 : decode cX4_status 12 = .ok (.ldc 56, 2) := by decide +kernel
theorem dX4_status_14 : decode cX4_status 14 = .ok (.invokevirtual 57, 3) := by decide +kernel
theorem dX4_status_17 : decode cX4_status 17 = .ok (.ireturn, 1) := by decide +kernel
theorem dX4_status_18 : decode cX4_status 18 = .ok (.iload_n 1, 1) := by decide +kernel
theorem dX4_status_19 : decode cX4_status 19 = .ok (.ifCond .lt 10, 3) := by decide +kernel
theorem dX4_status_22 : decode cX4_status 22 = .ok (.aload_n 0, 1) := by decide +kernel
theorem dX4_status_23 : decode cX4_status 23 = .ok (.getfield 40, 3) := by decide +kernel
theorem dX4_status_26 : decode cX4_status 26 = .ok (.iload_n 1, 1) := by decide +kernel
theorem dX4_status_27 : decode cX4_status 27 = .ok (.iaload, 1) := by decide +kernel
theorem dX4_status_28 : decode cX4_status 28 = .ok (.ireturn, 1) := by decide +kernel
theorem dX4_status_29 : decode cX4_status 29 = .ok (.iconst 0, 1) := by decide +kernel
theorem dX4_status_30 : decode cX4_status 30 = .ok (.istore_n 2, 1) := by decide +kernel
theorem dX4_status_31 : decode cX4_status 31 = .ok (.iconst 0, 1) := by decide +kernel
theorem dX4_status_32 : decode cX4_status 32 = .ok (.istore_n 3, 1) := by decide +kernel
theorem dX4_status_33 : decode cX4_status 33 = .ok (.iload_n 3, 1) := by decide +kernel
theorem dX4_status_34 : decode cX4_status 34 = .ok (.bipush 7, 2) := by decide +kernel
theorem dX4_status_36 : decode cX4_status 36 = .ok (.if_icmp .ge 18, 3) := by decide +kernel
theorem dX4_status_39 : decode cX4_status 39 = .ok (.iload_n 2, 1) := by decide +kernel
theorem dX4_status_40 : decode cX4_status 40 = .ok (.aload_n 0, 1) := by decide +kernel
theorem dX4_status_41 : decode cX4_status 41 = .ok (.getfield 40, 3) := by decide +kernel
theorem dX4_status_44 : decode cX4_status 44 = .ok (.iload_n 3, 1) := by decide +kernel
theorem dX4_status_45 : decode cX4_status 45 = .ok (.iaload, 1) := by decide +kernel
theorem dX4_status_46 : decode cX4_status 46 = .ok (.iadd, 1) := by decide +kernel
theorem dX4_status_47 : decode cX4_status 47 = .ok (.istore_n 2, 1) := by decide +kernel
theorem dX4_status_48 : decode cX4_status 48 = .ok (.iinc 3 1, 3) := by decide +kernel
theorem dX4_status_51 : decode cX4_status 51 = .ok (.goto (-18), 3) := by decide +kernel
theorem dX4_status_54 : decode cX4_status 54 = .ok (.iload_n 2, 1) := by decide +kernel
theorem dX4_status_55 : decode cX4_status 55 = .ok (.ireturn, 1) := by decide +kernel
theorem dX4_finding_0 : decode cX4_finding 0 = .ok (.ldc 56, 2) := by decide +kernel
theorem dX4_finding_2 : decode cX4_finding 2 = .ok (.iload_n 1, 1) := by decide +kernel
theorem dX4_finding_3 : decode cX4_finding 3 = .ok (.isub, 1) := by decide +kernel
theorem dX4_finding_4 : decode cX4_finding 4 = .ok (.istore_n 2, 1) := by decide +kernel
theorem dX4_finding_5 : decode cX4_finding 5 = .ok (.iload_n 2, 1) := by decide +kernel
theorem dX4_finding_6 : decode cX4_finding 6 = .ok (.ifCond .lt 19, 3) := by decide +kernel
theorem dX4_finding_9 : decode cX4_finding 9 = .ok (.iload_n 2, 1) := by decide +kernel
theorem dX4_finding_10 : decode cX4_finding 10 = .ok (.bipush 7, 2) := by decide +kernel
theorem dX4_finding_12 : decode cX4_finding 12 = .ok (.if_icmp .ge 13, 3) := by decide +kernel
theorem dX4_finding_15 : decode cX4_finding 15 = .ok (.aload_n 0, 1) := by decide +kernel
theorem dX4_finding_16 : decode cX4_finding 16 = .ok (.getfield 40, 3) := by decide +kernel
theorem dX4_finding_19 : decode cX4_finding 19 = .ok (.iload_n 2, 1) := by decide +kernel
theorem dX4_finding_20 : decode cX4_finding 20 = .ok (.dup2, 1) := by decide +kernel
theorem dX4_finding_21 : decode cX4_finding 21 = .ok (.iaload, 1) := by decide +kernel
theorem dX4_finding_22 : decode cX4_finding 22 = .ok (.iconst 1, 1) := by decide +kernel
theorem dX4_finding_23 : decode cX4_finding 23 = .ok (.iadd, 1) := by decide +kernel
theorem dX4_finding_24 : decode cX4_finding 24 = .ok (.iastore, 1) := by decide +kernel
theorem dX4_finding_25 : decode cX4_finding 25 = .ok (.iload_n 1, 1) := by decide +kernel
theorem dX4_finding_26 : decode cX4_finding 26 = .ok (.ireturn, 1) := by decide +kernel
theorem dX4_isWithin_0 : decode cX4_isWithin 0 = .ok (.iload_n 0, 1) := by decide +kernel
theorem dX4_isWithin_1 : decode cX4_isWithin 1 = .ok (.ifCond .lt 12, 3) := by decide +kernel
theorem dX4_isWithin_4 : decode cX4_isWithin 4 = .ok (.iload_n 0, 1) := by decide +kernel
theorem dX4_isWithin_5 : decode cX4_isWithin 5 = .ok (.iload_n 1, 1) := by decide +kernel
theorem dX4_isWithin_6 : decode cX4_isWithin 6 = .ok (.if_icmp .gt 7, 3) := by decide +kernel
theorem dX4_isWithin_9 : decode cX4_isWithin 9 = .ok (.iconst 1, 1) := by decide +kernel
theorem dX4_isWithin_10 : decode cX4_isWithin 10 = .ok (.goto 4, 3) := by decide +kernel
theorem dX4_isWithin_13 : decode cX4_isWithin 13 = .ok (.iconst 0, 1) := by decide +kernel
theorem dX4_isWithin_14 : decode cX4_isWithin 14 = .ok (.ireturn, 1) := by decide +kernel
theorem dX4_sheetAt_0 : decode cX4_sheetAt 0 = .ok (.iload_n 1, 1) := by decide +kernel
theorem dX4_sheetAt_1 : decode cX4_sheetAt 1 = .ok (.ifCond .lt 17, 3) := by decide +kernel
theorem dX4_sheetAt_4 : decode cX4_sheetAt 4 = .ok (.iload_n 1, 1) := by decide +kernel
theorem dX4_sheetAt_5 : decode cX4_sheetAt 5 = .ok (.iconst 4, 1) := by decide +kernel
theorem dX4_sheetAt_6 : decode cX4_sheetAt 6 = .ok (.if_icmp .ge 12, 3) := by decide +kernel
theorem dX4_sheetAt_9 : decode cX4_sheetAt 9 = .ok (.aload_n 0, 1) := by decide +kernel
theorem dX4_sheetAt_10 : decode cX4_sheetAt 10 = .ok (.getfield 35, 3) := by decide +kernel
theorem dX4_sheetAt_13 : decode cX4_sheetAt 13 = .ok (.iload_n 1, 1) := by decide +kernel
theorem dX4_sheetAt_14 : decode cX4_sheetAt 14 = .ok (.aaload, 1) := by decide +kernel
theorem dX4_sheetAt_15 : decode cX4_sheetAt 15 = .ok (.goto 4, 3) := by decide +kernel
theorem dX4_sheetAt_18 : decode cX4_sheetAt 18 = .ok (.aconst_null, 1) := by decide +kernel
theorem dX4_sheetAt_19 : decode cX4_sheetAt 19 = .ok (.areturn, 1) := by decide +kernel
theorem dX4_refusalFor_0 : decode cX4_refusalFor 0 = .ok (.aload_n 0, 1) := by decide +kernel
theorem dX4_refusalFor_1 : decode cX4_refusalFor 1 = .ok (.ifnull 15, 3) := by decide +kernel
theorem dX4_refusalFor_4 : decode cX4_refusalFor 4 = .ok (.aload_n 0, 1) := by decide +kernel
theorem dX4_refusalFor_5 : decode cX4_refusalFor 5 = .ok (.invokevirtual 181, 3) := by decide +kernel
theorem dX4_refusalFor_8 : decode cX4_refusalFor 8 = .ok (.ifCond .eq 8, 3) := by decide +kernel
theorem dX4_refusalFor_11 : decode cX4_refusalFor 11 = .ok (.ldc 224, 2) := by decide +kernel
theorem dX4_refusalFor_13 : decode cX4_refusalFor 13 = .ok (.goto 5, 3) := by decide +kernel
theorem dX4_refusalFor_16 : decode cX4_refusalFor 16 = .ok (.ldc 56, 2) := by decide +kernel
theorem dX4_refusalFor_18 : decode cX4_refusalFor 18 = .ok (.ireturn, 1) := by decide +kernel
theorem dX4_isTallAsTold_0 : decode cX4_isTallAsTold 0 = .ok (.aload_n 0, 1) := by decide +kernel
theorem dX4_isTallAsTold_1 : decode cX4_isTallAsTold 1 = .ok (.getfield 16, 3) := by decide +kernel
theorem dX4_isTallAsTold_4 : decode cX4_isTallAsTold 4 = .ok (.iload_n 2, 1) := by decide +kernel
theorem dX4_isTallAsTold_5 : decode cX4_isTallAsTold 5 = .ok (.invokevirtual 90, 3) := by decide +kernel
theorem dX4_isTallAsTold_8 : decode cX4_isTallAsTold 8 = .ok (.astore 4, 2) := by decide +kernel
theorem dX4_isTallAsTold_10 : decode cX4_isTallAsTold 10 = .ok (.aload 4, 2) := by decide +kernel
theorem dX4_isTallAsTold_12 : decode cX4_isTallAsTold 12 = .ok (.ifnonnull 5, 3) := by decide +kernel
theorem dX4_isTallAsTold_15 : decode cX4_isTallAsTold 15 = .ok (.iconst 0, 1) := by decide +kernel
theorem dX4_isTallAsTold_16 : decode cX4_isTallAsTold 16 = .ok (.ireturn, 1) := by decide +kernel
theorem dX4_isTallAsTold_17 : decode cX4_isTallAsTold 17 = .ok (.aload 4, 2) := by decide +kernel
theorem dX4_isTallAsTold_19 : decode cX4_isTallAsTold 19 = .ok (.iload_n 3, 1) := by decide +kernel
theorem dX4_isTallAsTold_20 : decode cX4_isTallAsTold 20 = .ok (.putfield 267, 3) := by decide +kernel
theorem dX4_isTallAsTold_23 : decode cX4_isTallAsTold 23 = .ok (.iconst 0, 1) := by decide +kernel
theorem dX4_isTallAsTold_24 : decode cX4_isTallAsTold 24 = .ok (.istore 5, 2) := by decide +kernel
theorem dX4_isTallAsTold_26 : decode cX4_isTallAsTold 26 = .ok (.iload 5, 2) := by decide +kernel
theorem dX4_isTallAsTold_28 : decode cX4_isTallAsTold 28 = .ok (.iconst 4, 1) := by decide +kernel
theorem dX4_isTallAsTold_29 : decode cX4_isTallAsTold 29 = .ok (.if_icmp .ge 40, 3) := by decide +kernel
theorem dX4_isTallAsTold_32 : decode cX4_isTallAsTold 32 = .ok (.iload 5, 2) := by decide +kernel
theorem dX4_isTallAsTold_34 : decode cX4_isTallAsTold 34 = .ok (.aload_n 1, 1) := by decide +kernel
theorem dX4_isTallAsTold_35 : decode cX4_isTallAsTold 35 = .ok (.getfield 239, 3) := by decide +kernel
theorem dX4_isTallAsTold_38 : decode cX4_isTallAsTold 38 = .ok (.if_icmp .ge 31, 3) := by decide +kernel
theorem dX4_isTallAsTold_41 : decode cX4_isTallAsTold 41 = .ok (.aload_n 1, 1) := by decide +kernel
theorem dX4_isTallAsTold_42 : decode cX4_isTallAsTold 42 = .ok (.iload 5, 2) := by decide +kernel
theorem dX4_isTallAsTold_44 : decode cX4_isTallAsTold 44 = .ok (.aload_n 0, 1) := by decide +kernel
theorem dX4_isTallAsTold_45 : decode cX4_isTallAsTold 45 = .ok (.getfield 16, 3) := by decide +kernel
theorem dX4_isTallAsTold_48 : decode cX4_isTallAsTold 48 = .ok (.aload 4, 2) := by decide +kernel
theorem dX4_isTallAsTold_50 : decode cX4_isTallAsTold 50 = .ok (.iload 5, 2) := by decide +kernel
theorem dX4_isTallAsTold_52 : decode cX4_isTallAsTold 52 = .ok (.invokevirtual 107, 3) := by decide +kernel
theorem dX4_isTallAsTold_55 : decode cX4_isTallAsTold 55 = .ok (.invokevirtual 270, 3) := by decide +kernel
theorem dX4_isTallAsTold_58 : decode cX4_isTallAsTold 58 = .ok (.ifCond .ne 5, 3) := by decide +kernel
theorem dX4_isTallAsTold_61 : decode cX4_isTallAsTold 61 = .ok (.iconst 0, 1) := by decide +kernel
theorem dX4_isTallAsTold_62 : decode cX4_isTallAsTold 62 = .ok (.ireturn, 1) := by decide +kernel
theorem dX4_isTallAsTold_63 : decode cX4_isTallAsTold 63 = .ok (.iinc 5 1, 3) := by decide +kernel
theorem dX4_isTallAsTold_66 : decode cX4_isTallAsTold 66 = .ok (.goto (-40), 3) := by decide +kernel
theorem dX4_isTallAsTold_69 : decode cX4_isTallAsTold 69 = .ok (.iconst 1, 1) := by decide +kernel
theorem dX4_isTallAsTold_70 : decode cX4_isTallAsTold 70 = .ok (.ireturn, 1) := by decide +kernel
theorem dX4_isKindAsTold_0 : decode cX4_isKindAsTold 0 = .ok (.aload_n 0, 1) := by decide +kernel
theorem dX4_isKindAsTold_1 : decode cX4_isKindAsTold 1 = .ok (.getfield 16, 3) := by decide +kernel
theorem dX4_isKindAsTold_4 : decode cX4_isKindAsTold 4 = .ok (.aload_n 0, 1) := by decide +kernel
theorem dX4_isKindAsTold_5 : decode cX4_isKindAsTold 5 = .ok (.getfield 10, 3) := by decide +kernel
theorem dX4_isKindAsTold_8 : decode cX4_isKindAsTold 8 = .ok (.invokevirtual 140, 3) := by decide +kernel
theorem dX4_isKindAsTold_11 : decode cX4_isKindAsTold 11 = .ok (.aload_n 0, 1) := by decide +kernel
theorem dX4_isKindAsTold_12 : decode cX4_isKindAsTold 12 = .ok (.getfield 16, 3) := by decide +kernel
theorem dX4_isKindAsTold_15 : decode cX4_isKindAsTold 15 = .ok (.iload_n 2, 1) := by decide +kernel
theorem dX4_isKindAsTold_16 : decode cX4_isKindAsTold 16 = .ok (.iconst 0, 1) := by decide +kernel
theorem dX4_isKindAsTold_17 : decode cX4_isKindAsTold 17 = .ok (.iload_n 3, 1) := by decide +kernel
theorem dX4_isKindAsTold_18 : decode cX4_isKindAsTold 18 = .ok (.invokevirtual 86, 3) := by decide +kernel
theorem dX4_isKindAsTold_21 : decode cX4_isKindAsTold 21 = .ok (.iconst 0, 1) := by decide +kernel
theorem dX4_isKindAsTold_22 : decode cX4_isKindAsTold 22 = .ok (.istore 4, 2) := by decide +kernel
theorem dX4_isKindAsTold_24 : decode cX4_isKindAsTold 24 = .ok (.iload 4, 2) := by decide +kernel
theorem dX4_isKindAsTold_26 : decode cX4_isKindAsTold 26 = .ok (.aload_n 1, 1) := by decide +kernel
theorem dX4_isKindAsTold_27 : decode cX4_isKindAsTold 27 = .ok (.getfield 239, 3) := by decide +kernel
theorem dX4_isKindAsTold_30 : decode cX4_isKindAsTold 30 = .ok (.if_icmp .ge 36, 3) := by decide +kernel
theorem dX4_isKindAsTold_33 : decode cX4_isKindAsTold 33 = .ok (.aload_n 1, 1) := by decide +kernel
theorem dX4_isKindAsTold_34 : decode cX4_isKindAsTold 34 = .ok (.iload 4, 2) := by decide +kernel
theorem dX4_isKindAsTold_36 : decode cX4_isKindAsTold 36 = .ok (.aload_n 0, 1) := by decide +kernel
theorem dX4_isKindAsTold_37 : decode cX4_isKindAsTold 37 = .ok (.getfield 16, 3) := by decide +kernel
theorem dX4_isKindAsTold_40 : decode cX4_isKindAsTold 40 = .ok (.iload_n 2, 1) := by decide +kernel
theorem dX4_isKindAsTold_41 : decode cX4_isKindAsTold 41 = .ok (.iconst 5, 1) := by decide +kernel
theorem dX4_isKindAsTold_42 : decode cX4_isKindAsTold 42 = .ok (.invokevirtual 144, 3) := by decide +kernel
theorem dX4_isKindAsTold_45 : decode cX4_isKindAsTold 45 = .ok (.invokevirtual 270, 3) := by decide +kernel
theorem dX4_isKindAsTold_48 : decode cX4_isKindAsTold 48 = .ok (.ifCond .ne 5, 3) := by decide +kernel
theorem dX4_isKindAsTold_51 : decode cX4_isKindAsTold 51 = .ok (.iconst 0, 1) := by decide +kernel
theorem dX4_isKindAsTold_52 : decode cX4_isKindAsTold 52 = .ok (.ireturn, 1) := by decide +kernel
theorem dX4_isKindAsTold_53 : decode cX4_isKindAsTold 53 = .ok (.aload_n 0, 1) := by decide +kernel
theorem dX4_isKindAsTold_54 : decode cX4_isKindAsTold 54 = .ok (.getfield 16, 3) := by decide +kernel
theorem dX4_isKindAsTold_57 : decode cX4_isKindAsTold 57 = .ok (.invokevirtual 148, 3) := by decide +kernel
theorem dX4_isKindAsTold_60 : decode cX4_isKindAsTold 60 = .ok (.iinc 4 1, 3) := by decide +kernel
theorem dX4_isKindAsTold_63 : decode cX4_isKindAsTold 63 = .ok (.goto (-39), 3) := by decide +kernel
theorem dX4_isKindAsTold_66 : decode cX4_isKindAsTold 66 = .ok (.iconst 1, 1) := by decide +kernel
theorem dX4_isKindAsTold_67 : decode cX4_isKindAsTold 67 = .ok (.ireturn, 1) := by decide +kernel
theorem dX4_lightsWithoutFaults_0 : decode cX4_lightsWithoutFaults 0 = .ok (.aload_n 0, 1) := by decide +kernel
theorem dX4_lightsWithoutFaults_1 : decode cX4_lightsWithoutFaults 1 = .ok (.getfield 16, 3) := by decide +kernel
theorem dX4_lightsWithoutFaults_4 : decode cX4_lightsWithoutFaults 4 = .ok (.aload_n 0, 1) := by decide +kernel
theorem dX4_lightsWithoutFaults_5 : decode cX4_lightsWithoutFaults 5 = .ok (.getfield 10, 3) := by decide +kernel
theorem dX4_lightsWithoutFaults_8 : decode cX4_lightsWithoutFaults 8 = .ok (.invokevirtual 140, 3) := by decide +kernel
theorem dX4_lightsWithoutFaults_11 : decode cX4_lightsWithoutFaults 11 = .ok (.aload_n 0, 1) := by decide +kernel
theorem dX4_lightsWithoutFaults_12 : decode cX4_lightsWithoutFaults 12 = .ok (.getfield 16, 3) := by decide +kernel
theorem dX4_lightsWithoutFaults_15 : decode cX4_lightsWithoutFaults 15 = .ok (.iload_n 1, 1) := by decide +kernel
theorem dX4_lightsWithoutFaults_16 : decode cX4_lightsWithoutFaults 16 = .ok (.invokevirtual 90, 3) := by decide +kernel
theorem dX4_lightsWithoutFaults_19 : decode cX4_lightsWithoutFaults 19 = .ok (.astore_n 3, 1) := by decide +kernel
theorem dX4_lightsWithoutFaults_20 : decode cX4_lightsWithoutFaults 20 = .ok (.iconst 0, 1) := by decide +kernel
theorem dX4_lightsWithoutFaults_21 : decode cX4_lightsWithoutFaults 21 = .ok (.istore 4, 2) := by decide +kernel
theorem dX4_lightsWithoutFaults_23 : decode cX4_lightsWithoutFaults 23 = .ok (.iconst 0, 1) := by decide +kernel
theorem dX4_lightsWithoutFaults_24 : decode cX4_lightsWithoutFaults 24 = .ok (.istore 5, 2) := by decide +kernel
theorem dX4_lightsWithoutFaults_26 : decode cX4_lightsWithoutFaults 26 = .ok (.iload 5, 2) := by decide +kernel
theorem dX4_lightsWithoutFaults_28 : decode cX4_lightsWithoutFaults 28 = .ok (.bipush 10, 2) := by decide +kernel
theorem dX4_lightsWithoutFaults_30 : decode cX4_lightsWithoutFaults 30 = .ok (.if_icmp .ge 37, 3) := by decide +kernel
theorem dX4_lightsWithoutFaults_33 : decode cX4_lightsWithoutFaults 33 = .ok (.aload_n 3, 1) := by decide +kernel
theorem dX4_lightsWithoutFaults_34 : decode cX4_lightsWithoutFaults 34 = .ok (.ifnull 33, 3) := by decide +kernel
theorem dX4_lightsWithoutFaults_37 : decode cX4_lightsWithoutFaults 37 = .ok (.aload_n 0, 1) := by decide +kernel
theorem dX4_lightsWithoutFaults_38 : decode cX4_lightsWithoutFaults 38 = .ok (.getfield 16, 3) := by decide +kernel
theorem dX4_lightsWithoutFaults_41 : decode cX4_lightsWithoutFaults 41 = .ok (.iload 5, 2) := by decide +kernel
theorem dX4_lightsWithoutFaults_43 : decode cX4_lightsWithoutFaults 43 = .ok (.putfield 165, 3) := by decide +kernel
theorem dX4_lightsWithoutFaults_46 : decode cX4_lightsWithoutFaults 46 = .ok (.aload_n 0, 1) := by decide +kernel
theorem dX4_lightsWithoutFaults_47 : decode cX4_lightsWithoutFaults 47 = .ok (.getfield 16, 3) := by decide +kernel
theorem dX4_lightsWithoutFaults_50 : decode cX4_lightsWithoutFaults 50 = .ok (.aload_n 3, 1) := by decide +kernel
theorem dX4_lightsWithoutFaults_51 : decode cX4_lightsWithoutFaults 51 = .ok (.iload_n 2, 1) := by decide +kernel
theorem dX4_lightsWithoutFaults_52 : decode cX4_lightsWithoutFaults 52 = .ok (.invokevirtual 107, 3) := by decide +kernel
theorem dX4_lightsWithoutFaults_55 : decode cX4_lightsWithoutFaults 55 = .ok (.ifCond .ne 6, 3) := by decide +kernel
theorem dX4_lightsWithoutFaults_58 : decode cX4_lightsWithoutFaults 58 = .ok (.iinc 4 1, 3) := by decide +kernel
theorem dX4_lightsWithoutFaults_61 : decode cX4_lightsWithoutFaults 61 = .ok (.iinc 5 1, 3) := by decide +kernel
theorem dX4_lightsWithoutFaults_64 : decode cX4_lightsWithoutFaults 64 = .ok (.goto (-38), 3) := by decide +kernel
theorem dX4_lightsWithoutFaults_67 : decode cX4_lightsWithoutFaults 67 = .ok (.iload 4, 2) := by decide +kernel
theorem dX4_lightsWithoutFaults_69 : decode cX4_lightsWithoutFaults 69 = .ok (.ireturn, 1) := by decide +kernel
theorem dX4_power_0 : decode cX4_power 0 = .ok (.lconst 1, 1) := by decide +kernel
theorem dX4_power_1 : decode cX4_power 1 = .ok (.lstore_n 2, 1) := by decide +kernel
theorem dX4_power_2 : decode cX4_power 2 = .ok (.iconst 0, 1) := by decide +kernel
theorem dX4_power_3 : decode cX4_power 3 = .ok (.istore 4, 2) := by decide +kernel
theorem dX4_power_5 : decode cX4_power 5 = .ok (.iload 4, 2) := by decide +kernel
theorem dX4_power_7 : decode cX4_power 7 = .ok (.iload_n 1, 1) := by decide +kernel
theorem dX4_power_8 : decode cX4_power 8 = .ok (.if_icmp .ge 14, 3) := by decide +kernel
theorem dX4_power_11 : decode cX4_power 11 = .ok (.lload_n 2, 1) := by decide +kernel
theorem dX4_power_12 : decode cX4_power 12 = .ok (.iload_n 0, 1) := by decide +kernel
theorem dX4_power_13 : decode cX4_power 13 = .ok (.i2l, 1) := by decide +kernel
theorem dX4_power_14 : decode cX4_power 14 = .ok (.lmul, 1) := by decide +kernel
theorem dX4_power_15 : decode cX4_power 15 = .ok (.lstore_n 2, 1) := by decide +kernel
theorem dX4_power_16 : decode cX4_power 16 = .ok (.iinc 4 1, 3) := by decide +kernel
theorem dX4_power_19 : decode cX4_power 19 = .ok (.goto (-14), 3) := by decide +kernel
theorem dX4_power_22 : decode cX4_power 22 = .ok (.lload_n 2, 1) := by decide +kernel
theorem dX4_power_23 : decode cX4_power 23 = .ok (.lreturn, 1) := by decide +kernel
theorem dX5_init_0 : decode cX5_init 0 = .ok (.aload_n 0, 1) := by decide +kernel
theorem dX5_init_1 : decode cX5_init 1 = .ok (.invokespecial 1, 3) := by decide +kernel
theorem dX5_init_4 : decode cX5_init 4 = .ok (.aload_n 0, 1) := by decide +kernel
theorem dX5_init_5 : decode cX5_init 5 = .ok (.bipush 79, 2) := by decide +kernel
theorem dX5_init_7 : decode cX5_init 7 = .ok (.newarray .int, 2) := by decide +kernel
theorem dX5_init_9 : decode cX5_init 9 = .ok (.putfield 9, 3) := by decide +kernel
theorem dX5_init_12 : decode cX5_init 12 = .ok (.aload_n 0, 1) := by decide +kernel
theorem dX5_init_13 : decode cX5_init 13 = .ok (.bipush 79, 2) := by decide +kernel
theorem dX5_init_15 : decode cX5_init 15 = .ok (.newarray .int, 2) := by decide +kernel
theorem dX5_init_17 : decode cX5_init 17 = .ok (.putfield 13, 3) := by decide +kernel
theorem dX5_init_20 : decode cX5_init 20 = .ok (.aload_n 0, 1) := by decide +kernel
theorem dX5_init_21 : decode cX5_init 21 = .ok (.bipush 79, 2) := by decide +kernel
theorem dX5_init_23 : decode cX5_init 23 = .ok (.newarray .int, 2) := by decide +kernel
theorem dX5_init_25 : decode cX5_init 25 = .ok (.putfield 16, 3) := by decide +kernel
theorem dX5_init_28 : decode cX5_init 28 = .ok (.aload_n 0, 1) := by decide +kernel
theorem dX5_init_29 : decode cX5_init 29 = .ok (.bipush 8, 2) := by decide +kernel
theorem dX5_init_31 : decode cX5_init 31 = .ok (.newarray .int, 2) := by decide +kernel
theorem dX5_init_33 : decode cX5_init 33 = .ok (.putfield 19, 3) := by decide +kernel
theorem dX5_init_36 : decode cX5_init 36 = .ok (.aload_n 0, 1) := by decide +kernel
theorem dX5_init_37 : decode cX5_init 37 = .ok (.bipush 120, 2) := by decide +kernel
theorem dX5_init_39 : decode cX5_init 39 = .ok (.newarray .int, 2) := by decide +kernel
theorem dX5_init_41 : decode cX5_init 41 = .ok (.putfield 22, 3) := by decide +kernel
theorem dX5_init_44 : decode cX5_init 44 = .ok (.aload_n 0, 1) := by decide +kernel
theorem dX5_init_45 : decode cX5_init 45 = .ok (.bipush 7, 2) := by decide +kernel
theorem dX5_init_47 : decode cX5_init 47 = .ok (.anewarray 25, 3) := by decide +kernel
theorem dX5_init_50 : decode cX5_init 50 = .ok (.dup, 1) := by decide +kernel
theorem dX5_init_51 : decode cX5_init 51 = .ok (.iconst 0, 1) := by decide +kernel
theorem dX5_init_52 : decode cX5_init 52 = .ok (.ldc 27, 2) := by decide +kernel
theorem dX5_init_54 : decode cX5_init 54 = .ok (.aastore, 1) := by decide +kernel
theorem dX5_init_55 : decode cX5_init 55 = .ok (.dup, 1) := by decide +kernel
theorem dX5_init_56 : decode cX5_init 56 = .ok (.iconst 1, 1) := by decide +kernel
theorem dX5_init_57 : decode cX5_init 57 = .ok (.ldc 29, 2) := by decide +kernel
theorem dX5_init_59 : decode cX5_init 59 = .ok (.aastore, 1) := by decide +kernel
theorem dX5_init_60 : decode cX5_init 60 = .ok (.dup, 1) := by decide +kernel
theorem dX5_init_61 : decode cX5_init 61 = .ok (.iconst 2, 1) := by decide +kernel
theorem dX5_init_62 : decode cX5_init 62 = .ok (.ldc 31, 2) := by decide +kernel
theorem dX5_init_64 : decode cX5_init 64 = .ok (.aastore, 1) := by decide +kernel
theorem dX5_init_65 : decode cX5_init 65 = .ok (.dup, 1) := by decide +kernel
theorem dX5_init_66 : decode cX5_init 66 = .ok (.iconst 3, 1) := by decide +kernel
theorem dX5_init_67 : decode cX5_init 67 = .ok (.ldc 33, 2) := by decide +kernel
theorem dX5_init_69 : decode cX5_init 69 = .ok (.aastore, 1) := by decide +kernel
theorem dX5_init_70 : decode cX5_init 70 = .ok (.dup, 1) := by decide +kernel
theorem dX5_init_71 : decode cX5_init 71 = .ok (.iconst 4, 1) := by decide +kernel
theorem dX5_init_72 : decode cX5_init 72 = .ok (.ldc 35, 2) := by decide +kernel
theorem dX5_init_74 : decode cX5_init 74 = .ok (.aastore, 1) := by decide +kernel
theorem dX5_init_75 : decode cX5_init 75 = .ok (.dup, 1) := by decide +kernel
theorem dX5_init_76 : decode cX5_init 76 = .ok (.iconst 5, 1) := by decide +kernel
theorem dX5_init_77 : decode cX5_init 77 = .ok (.ldc 37, 2) := by decide +kernel
theorem dX5_init_79 : decode cX5_init 79 = .ok (.aastore, 1) := by decide +kernel
theorem dX5_init_80 : decode cX5_init 80 = .ok (.dup, 1) := by decide +kernel
theorem dX5_init_81 : decode cX5_init 81 = .ok (.bipush 6, 2) := by decide +kernel
theorem dX5_init_83 : decode cX5_init 83 = .ok (.ldc 39, 2) := by decide +kernel
theorem dX5_init_85 : decode cX5_init 85 = .ok (.aastore, 1) := by decide +kernel
theorem dX5_init_86 : decode cX5_init 86 = .ok (.putfield 41, 3) := by decide +kernel
theorem dX5_init_89 : decode cX5_init 89 = .ok (.aload_n 0, 1) := by decide +kernel
theorem dX5_init_90 : decode cX5_init 90 = .ok (.sipush 840, 3) := by decide +kernel
theorem dX5_init_93 : decode cX5_init 93 = .ok (.newarray .int, 2) := by decide +kernel
theorem dX5_init_95 : decode cX5_init 95 = .ok (.putfield 45, 3) := by decide +kernel
theorem dX5_init_98 : decode cX5_init 98 = .ok (.aload_n 0, 1) := by decide +kernel
theorem dX5_init_99 : decode cX5_init 99 = .ok (.iconst 4, 1) := by decide +kernel
theorem dX5_init_100 : decode cX5_init 100 = .ok (.newarray .int, 2) := by decide +kernel
theorem dX5_init_102 : decode cX5_init 102 = .ok (.putfield 48, 3) := by decide +kernel
theorem dX5_init_105 : decode cX5_init 105 = .ok (.aload_n 0, 1) := by decide +kernel
theorem dX5_init_106 : decode cX5_init 106 = .ok (.iconst 4, 1) := by decide +kernel
theorem dX5_init_107 : decode cX5_init 107 = .ok (.newarray .int, 2) := by decide +kernel
theorem dX5_init_109 : decode cX5_init 109 = .ok (.putfield 51, 3) := by decide +kernel
theorem dX5_init_112 : decode cX5_init 112 = .ok (.aload_n 0, 1) := by decide +kernel
theorem dX5_init_113 : decode cX5_init 113 = .ok (.sipush 160, 3) := by decide +kernel
theorem dX5_init_116 : decode cX5_init 116 = .ok (.newarray .int, 2) := by decide +kernel
theorem dX5_init_118 : decode cX5_init 118 = .ok (.putfield 54, 3) := by decide +kernel
theorem dX5_init_121 : decode cX5_init 121 = .ok (.aload_n 0, 1) := by decide +kernel
theorem dX5_init_122 : decode cX5_init 122 = .ok (.bipush 40, 2) := by decide +kernel
theorem dX5_init_124 : decode cX5_init 124 = .ok (.newarray .int, 2) := by decide +kernel
theorem dX5_init_126 : decode cX5_init 126 = .ok (.putfield 57, 3) := by decide +kernel
theorem dX5_init_129 : decode cX5_init 129 = .ok (.aload_n 0, 1) := by decide +kernel
theorem dX5_init_130 : decode cX5_init 130 = .ok (.getfield 9, 3) := by decide +kernel
theorem dX5_init_133 : decode cX5_init 133 = .ok (.iconst 2, 1) := by decide +kernel
theorem dX5_init_134 : decode cX5_init 134 = .ok (.iconst 1, 1) := by decide +kernel
theorem dX5_init_135 : decode cX5_init 135 = .ok (.iastore, 1) := by decide +kernel
theorem dX5_init_136 : decode cX5_init 136 = .ok (.aload_n 0, 1) := by decide +kernel
theorem dX5_init_137 : decode cX5_init 137 = .ok (.getfield 9, 3) := by decide +kernel
theorem dX5_init_140 : decode cX5_init 140 = .ok (.iconst 3, 1) := by decide +kernel
theorem dX5_init_141 : decode cX5_init 141 = .ok (.bipush 20, 2) := by decide +kernel
theorem dX5_init_143 : decode cX5_init 143 = .ok (.iastore, 1) := by decide +kernel
theorem dX5_init_144 : decode cX5_init 144 = .ok (.aload_n 0, 1) := by decide +kernel
theorem dX5_init_145 : decode cX5_init 145 = .ok (.getfield 9, 3) := by decide +kernel
theorem dX5_init_148 : decode cX5_init 148 = .ok (.iconst 4, 1) := by decide +kernel
theorem dX5_init_149 : decode cX5_init 149 = .ok (.iconst 5, 1) := by decide +kernel
theorem dX5_init_150 : decode cX5_init 150 = .ok (.iastore, 1) := by decide +kernel
theorem dX5_init_151 : decode cX5_init 151 = .ok (.aload_n 0, 1) := by decide +kernel
theorem dX5_init_152 : decode cX5_init 152 = .ok (.getfield 9, 3) := by decide +kernel
theorem dX5_init_155 : decode cX5_init 155 = .ok (.iconst 5, 1) := by decide +kernel
theorem dX5_init_156 : decode cX5_init 156 = .ok (.iconst 5, 1) := by decide +kernel
theorem dX5_init_157 : decode cX5_init 157 = .ok (.iastore, 1) := by decide +kernel
theorem dX5_init_158 : decode cX5_init 158 = .ok (.iconst 0, 1) := by decide +kernel
theorem dX5_init_159 : decode cX5_init 159 = .ok (.istore_n 1, 1) := by decide +kernel
theorem dX5_init_160 : decode cX5_init 160 = .ok (.iload_n 1, 1) := by decide +kernel
theorem dX5_init_161 : decode cX5_init 161 = .ok (.bipush 10, 2) := by decide +kernel
theorem dX5_init_163 : decode cX5_init 163 = .ok (.if_icmp .ge 19, 3) := by decide +kernel
theorem dX5_init_166 : decode cX5_init 166 = .ok (.aload_n 0, 1) := by decide +kernel
theorem dX5_init_167 : decode cX5_init 167 = .ok (.getfield 9, 3) := by decide +kernel
theorem dX5_init_170 : decode cX5_init 170 = .ok (.bipush 7, 2) := by decide +kernel
theorem dX5_init_172 : decode cX5_init 172 = .ok (.iload_n 1, 1) := by decide +kernel
theorem dX5_init_173 : decode cX5_init 173 = .ok (.iadd, 1) := by decide +kernel
theorem dX5_init_174 : decode cX5_init 174 = .ok (.iconst (-1), 1) := by decide +kernel
theorem dX5_init_175 : decode cX5_init 175 = .ok (.iastore, 1) := by decide +kernel
theorem dX5_init_176 : decode cX5_init 176 = .ok (.iinc 1 1, 3) := by decide +kernel
theorem dX5_init_179 : decode cX5_init 179 = .ok (.goto (-19), 3) := by decide +kernel
theorem dX5_init_182 : decode cX5_init 182 = .ok (.iconst 0, 1) := by decide +kernel
theorem dX5_init_183 : decode cX5_init 183 = .ok (.istore_n 1, 1) := by decide +kernel
theorem dX5_init_184 : decode cX5_init 184 = .ok (.iload_n 1, 1) := by decide +kernel
theorem dX5_init_185 : decode cX5_init 185 = .ok (.bipush 6, 2) := by decide +kernel
theorem dX5_init_187 : decode cX5_init 187 = .ok (.if_icmp .ge 19, 3) := by decide +kernel
theorem dX5_init_190 : decode cX5_init 190 = .ok (.aload_n 0, 1) := by decide +kernel
theorem dX5_init_191 : decode cX5_init 191 = .ok (.getfield 9, 3) := by decide +kernel
theorem dX5_init_194 : decode cX5_init 194 = .ok (.bipush 17, 2) := by decide +kernel
theorem dX5_init_196 : decode cX5_init 196 = .ok (.iload_n 1, 1) := by decide +kernel
theorem dX5_init_197 : decode cX5_init 197 = .ok (.iadd, 1) := by decide +kernel
theorem dX5_init_198 : decode cX5_init 198 = .ok (.iconst (-1), 1) := by decide +kernel
theorem dX5_init_199 : decode cX5_init 199 = .ok (.iastore, 1) := by decide +kernel
theorem dX5_init_200 : decode cX5_init 200 = .ok (.iinc 1 1, 3) := by decide +kernel
theorem dX5_init_203 : decode cX5_init 203 = .ok (.goto (-19), 3) := by decide +kernel
theorem dX5_init_206 : decode cX5_init 206 = .ok (.return_, 1) := by decide +kernel
theorem dX5_finding_0 : decode cX5_finding 0 = .ok (.aload_n 0, 1) := by decide +kernel
theorem dX5_finding_1 : decode cX5_finding 1 = .ok (.getfield 19, 3) := by decide +kernel
theorem dX5_finding_4 : decode cX5_finding 4 = .ok (.ldc 60, 2) := by decide +kernel
theorem dX5_finding_6 : decode cX5_finding 6 = .ok (.iload_n 1, 1) := by decide +kernel
theorem dX5_finding_7 : decode cX5_finding 7 = .ok (.isub, 1) := by decide +kernel
theorem dX5_finding_8 : decode cX5_finding 8 = .ok (.iconst 1, 1) := by decide +kernel
theorem dX5_finding_9 : decode cX5_finding 9 = .ok (.iadd, 1) := by decide +kernel
theorem dX5_finding_10 : decode cX5_finding 10 = .ok (.dup2, 1) := by decide +kernel
theorem dX5_finding_11 : decode cX5_finding 11 = .ok (.iaload, 1) := by decide +kernel
theorem dX5_finding_12 : decode cX5_finding 12 = .ok (.iconst 1, 1) := by decide +kernel
theorem dX5_finding_13 : decode cX5_finding 13 = .ok (.iadd, 1) := by decide +kernel
theorem dX5_finding_14 : decode cX5_finding 14 = .ok (.iastore, 1) := by decide +kernel
theorem dX5_finding_15 : decode cX5_finding 15 = .ok (.aload_n 0, 1) := by decide +kernel
theorem dX5_finding_16 : decode cX5_finding 16 = .ok (.getfield 19, 3) := by decide +kernel
theorem dX5_finding_19 : decode cX5_finding 19 = .ok (.iconst 0, 1) := by decide +kernel
theorem dX5_finding_20 : decode cX5_finding 20 = .ok (.dup2, 1) := by decide +kernel
theorem dX5_finding_21 : decode cX5_finding 21 = .ok (.iaload, 1) := by decide +kernel
theorem dX5_finding_22 : decode cX5_finding 22 = .ok (.iconst 1, 1) := by decide +kernel
theorem dX5_finding_23 : decode cX5_finding 23 = .ok (.iadd, 1) := by decide +kernel
theorem dX5_finding_24 : decode cX5_finding 24 = .ok (.iastore, 1) := by decide +kernel
theorem dX5_finding_25 : decode cX5_finding 25 = .ok (.iload_n 1, 1) := by decide +kernel
theorem dX5_finding_26 : decode cX5_finding 26 = .ok (.ireturn, 1) := by decide +kernel
theorem dX5_within_0 : decode cX5_within 0 = .ok (.iload_n 0, 1) := by decide +kernel
theorem dX5_within_1 : decode cX5_within 1 = .ok (.iload_n 1, 1) := by decide +kernel
theorem dX5_within_2 : decode cX5_within 2 = .ok (.if_icmp .lt 12, 3) := by decide +kernel
theorem dX5_within_5 : decode cX5_within 5 = .ok (.iload_n 0, 1) := by decide +kernel
theorem dX5_within_6 : decode cX5_within 6 = .ok (.iload_n 2, 1) := by decide +kernel
theorem dX5_within_7 : decode cX5_within 7 = .ok (.if_icmp .gt 7, 3) := by decide +kernel
theorem dX5_within_10 : decode cX5_within 10 = .ok (.iconst 1, 1) := by decide +kernel
theorem dX5_within_11 : decode cX5_within 11 = .ok (.goto 4, 3) := by decide +kernel
theorem dX5_within_14 : decode cX5_within 14 = .ok (.iconst 0, 1) := by decide +kernel
theorem dX5_within_15 : decode cX5_within 15 = .ok (.ireturn, 1) := by decide +kernel
theorem dX5_become_0 : decode cX5_become 0 = .ok (.aload_n 0, 1) := by decide +kernel
theorem dX5_become_1 : decode cX5_become 1 = .ok (.getfield 9, 3) := by decide +kernel
theorem dX5_become_4 : decode cX5_become 4 = .ok (.iload_n 1, 1) := by decide +kernel
theorem dX5_become_5 : decode cX5_become 5 = .ok (.iaload, 1) := by decide +kernel
theorem dX5_become_6 : decode cX5_become 6 = .ok (.istore_n 3, 1) := by decide +kernel
theorem dX5_become_7 : decode cX5_become 7 = .ok (.aload_n 0, 1) := by decide +kernel
theorem dX5_become_8 : decode cX5_become 8 = .ok (.getfield 9, 3) := by decide +kernel
theorem dX5_become_11 : decode cX5_become 11 = .ok (.iload_n 1, 1) := by decide +kernel
theorem dX5_become_12 : decode cX5_become 12 = .ok (.iload_n 2, 1) := by decide +kernel
theorem dX5_become_13 : decode cX5_become 13 = .ok (.iastore, 1) := by decide +kernel
theorem dX5_become_14 : decode cX5_become 14 = .ok (.iload_n 3, 1) := by decide +kernel
theorem dX5_become_15 : decode cX5_become 15 = .ok (.ireturn, 1) := by decide +kernel
theorem dX5_copyRow_0 : decode cX5_copyRow 0 = .ok (.iconst 0, 1) := by decide +kernel
theorem dX5_copyRow_1 : decode cX5_copyRow 1 = .ok (.istore_n 2, 1) := by decide +kernel
theorem dX5_copyRow_2 : decode cX5_copyRow 2 = .ok (.iload_n 2, 1) := by decide +kernel
theorem dX5_copyRow_3 : decode cX5_copyRow 3 = .ok (.bipush 79, 2) := by decide +kernel
theorem dX5_copyRow_5 : decode cX5_copyRow 5 = .ok (.if_icmp .ge 15, 3) := by decide +kernel
theorem dX5_copyRow_8 : decode cX5_copyRow 8 = .ok (.aload_n 1, 1) := by decide +kernel
theorem dX5_copyRow_9 : decode cX5_copyRow 9 = .ok (.iload_n 2, 1) := by decide +kernel
theorem dX5_copyRow_10 : decode cX5_copyRow 10 = .ok (.aload_n 0, 1) := by decide +kernel
theorem dX5_copyRow_11 : decode cX5_copyRow 11 = .ok (.iload_n 2, 1) := by decide +kernel
theorem dX5_copyRow_12 : decode cX5_copyRow 12 = .ok (.iaload, 1) := by decide +kernel
theorem dX5_copyRow_13 : decode cX5_copyRow 13 = .ok (.iastore, 1) := by decide +kernel
theorem dX5_copyRow_14 : decode cX5_copyRow 14 = .ok (.iinc 2 1, 3) := by decide +kernel
theorem dX5_copyRow_17 : decode cX5_copyRow 17 = .ok (.goto (-15), 3) := by decide +kernel
theorem dX5_copyRow_20 : decode cX5_copyRow 20 = .ok (.return_, 1) := by decide +kernel
theorem dX5_putBack_0 : decode cX5_putBack 0 = .ok (.aload_n 0, 1) := by decide +kernel
theorem dX5_putBack_1 : decode cX5_putBack 1 = .ok (.getfield 16, 3) := by decide +kernel
theorem dX5_putBack_4 : decode cX5_putBack 4 = .ok (.aload_n 0, 1) := by decide +kernel
theorem dX5_putBack_5 : decode cX5_putBack 5 = .ok (.getfield 9, 3) := by decide +kernel
theorem dX5_putBack_8 : decode cX5_putBack 8 = .ok (.invokestatic 61, 3) := by decide +kernel
theorem dX5_putBack_11 : decode cX5_putBack 11 = .ok (.iload_n 1, 1) := by decide +kernel
theorem dX5_putBack_12 : decode cX5_putBack 12 = .ok (.ireturn, 1) := by decide +kernel
theorem dX5_orNone_0 : decode cX5_orNone 0 = .ok (.iload_n 1, 1) := by decide +kernel
theorem dX5_orNone_1 : decode cX5_orNone 1 = .ok (.ifCond .ge 12, 3) := by decide +kernel
theorem dX5_orNone_4 : decode cX5_orNone 4 = .ok (.aload_n 0, 1) := by decide +kernel
theorem dX5_orNone_5 : decode cX5_orNone 5 = .ok (.ldc 65, 2) := by decide +kernel
theorem dX5_orNone_7 : decode cX5_orNone 7 = .ok (.invokevirtual 66, 3) := by decide +kernel
theorem dX5_orNone_10 : decode cX5_orNone 10 = .ok (.goto 4, 3) := by decide +kernel
theorem dX5_orNone_13 : decode cX5_orNone 13 = .ok (.iload_n 1, 1) := by decide +kernel
theorem dX5_orNone_14 : decode cX5_orNone 14 = .ok (.ireturn, 1) := by decide +kernel
theorem dX5_bits_0 : decode cX5_bits 0 = .ok (.iconst 0, 1) := by decide +kernel
theorem dX5_bits_1 : decode cX5_bits 1 = .ok (.istore_n 1, 1) := by decide +kernel
theorem dX5_bits_2 : decode cX5_bits 2 = .ok (.iload_n 0, 1) := by decide +kernel
theorem dX5_bits_3 : decode cX5_bits 3 = .ok (.istore_n 2, 1) := by decide +kernel
theorem dX5_bits_4 : decode cX5_bits 4 = .ok (.iload_n 2, 1) := by decide +kernel
theorem dX5_bits_5 : decode cX5_bits 5 = .ok (.ifCond .eq 15, 3) := by decide +kernel
theorem dX5_bits_8 : decode cX5_bits 8 = .ok (.iinc 1 1, 3) := by decide +kernel
theorem dX5_bits_11 : decode cX5_bits 11 = .ok (.iload_n 2, 1) := by decide +kernel
theorem dX5_bits_12 : decode cX5_bits 12 = .ok (.iload_n 2, 1) := by decide +kernel
theorem dX5_bits_13 : decode cX5_bits 13 = .ok (.iconst 1, 1) := by decide +kernel
theorem dX5_bits_14 : decode cX5_bits 14 = .ok (.isub, 1) := by decide +kernel
theorem dX5_bits_15 : decode cX5_bits 15 = .ok (.iand, 1) := by decide +kernel
theorem dX5_bits_16 : decode cX5_bits 16 = .ok (.istore_n 2, 1) := by decide +kernel
theorem dX5_bits_17 : decode cX5_bits 17 = .ok (.goto (-13), 3) := by decide +kernel
theorem dX5_bits_20 : decode cX5_bits 20 = .ok (.iload_n 1, 1) := by decide +kernel
theorem dX5_bits_21 : decode cX5_bits 21 = .ok (.ireturn, 1) := by decide +kernel
theorem dX5_hasBit_0 : decode cX5_hasBit 0 = .ok (.iload_n 0, 1) := by decide +kernel
theorem dX5_hasBit_1 : decode cX5_hasBit 1 = .ok (.iload_n 1, 1) := by decide +kernel
theorem dX5_hasBit_2 : decode cX5_hasBit 2 = .ok (.ishr, 1) := by decide +kernel
theorem dX5_hasBit_3 : decode cX5_hasBit 3 = .ok (.iconst 1, 1) := by decide +kernel
theorem dX5_hasBit_4 : decode cX5_hasBit 4 = .ok (.iand, 1) := by decide +kernel
theorem dX5_hasBit_5 : decode cX5_hasBit 5 = .ok (.iconst 1, 1) := by decide +kernel
theorem dX5_hasBit_6 : decode cX5_hasBit 6 = .ok (.if_icmp .ne 7, 3) := by decide +kernel
theorem dX5_hasBit_9 : decode cX5_hasBit 9 = .ok (.iconst 1, 1) := by decide +kernel
theorem dX5_hasBit_10 : decode cX5_hasBit 10 = .ok (.goto 4, 3) := by decide +kernel
theorem dX5_hasBit_13 : decode cX5_hasBit 13 = .ok (.iconst 0, 1) := by decide +kernel
theorem dX5_hasBit_14 : decode cX5_hasBit 14 = .ok (.ireturn, 1) := by decide +kernel
theorem dX5_isSet_0 : decode cX5_isSet 0 = .ok (.iload_n 0, 1) := by decide +kernel
theorem dX5_isSet_1 : decode cX5_isSet 1 = .ok (.ifCond .ne 13, 3) := by decide +kernel
theorem dX5_isSet_4 : decode cX5_isSet 4 = .ok (.iload_n 1, 1) := by decide +kernel
theorem dX5_isSet_5 : decode cX5_isSet 5 = .ok (.iconst 0, 1) := by decide +kernel
theorem dX5_isSet_6 : decode cX5_isSet 6 = .ok (.bipush 60, 2) := by decide +kernel
theorem dX5_isSet_8 : decode cX5_isSet 8 = .ok (.invokestatic 70, 3) := by decide +kernel
theorem dX5_isSet_11 : decode cX5_isSet 11 = .ok (.goto 53, 3) := by decide +kernel
theorem dX5_isSet_14 : decode cX5_isSet 14 = .ok (.iload_n 0, 1) := by decide +kernel
theorem dX5_isSet_15 : decode cX5_isSet 15 = .ok (.iconst 1, 1) := by decide +kernel
theorem dX5_isSet_16 : decode cX5_isSet 16 = .ok (.if_icmp .ne 13, 3) := by decide +kernel
theorem dX5_isSet_19 : decode cX5_isSet 19 = .ok (.iload_n 1, 1) := by decide +kernel
theorem dX5_isSet_20 : decode cX5_isSet 20 = .ok (.iconst 0, 1) := by decide +kernel
theorem dX5_isSet_21 : decode cX5_isSet 21 = .ok (.bipush 9, 2) := by decide +kernel
theorem dX5_isSet_23 : decode cX5_isSet 23 = .ok (.invokestatic 70, 3) := by decide +kernel
theorem dX5_isSet_26 : decode cX5_isSet 26 = .ok (.goto 38, 3) := by decide +kernel
theorem dX5_isSet_29 : decode cX5_isSet 29 = .ok (.iload_n 0, 1) := by decide +kernel
theorem dX5_isSet_30 : decode cX5_isSet 30 = .ok (.iconst 2, 1) := by decide +kernel
theorem dX5_isSet_31 : decode cX5_isSet 31 = .ok (.if_icmp .ne 13, 3) := by decide +kernel
theorem dX5_isSet_34 : decode cX5_isSet 34 = .ok (.iload_n 1, 1) := by decide +kernel
theorem dX5_isSet_35 : decode cX5_isSet 35 = .ok (.iconst 0, 1) := by decide +kernel
theorem dX5_isSet_36 : decode cX5_isSet 36 = .ok (.bipush 20, 2) := by decide +kernel
theorem dX5_isSet_38 : decode cX5_isSet 38 = .ok (.invokestatic 70, 3) := by decide +kernel
theorem dX5_isSet_41 : decode cX5_isSet 41 = .ok (.goto 23, 3) := by decide +kernel
theorem dX5_isSet_44 : decode cX5_isSet 44 = .ok (.iload_n 0, 1) := by decide +kernel
theorem dX5_isSet_45 : decode cX5_isSet 45 = .ok (.iconst 3, 1) := by decide +kernel
theorem dX5_isSet_46 : decode cX5_isSet 46 = .ok (.if_icmp .ne 17, 3) := by decide +kernel
theorem dX5_isSet_49 : decode cX5_isSet 49 = .ok (.iload_n 1, 1) := by decide +kernel
theorem dX5_isSet_50 : decode cX5_isSet 50 = .ok (.iconst 0, 1) := by decide +kernel
theorem dX5_isSet_51 : decode cX5_isSet 51 = .ok (.ldc 74, 2) := by decide +kernel
theorem dX5_isSet_53 : decode cX5_isSet 53 = .ok (.invokestatic 70, 3) := by decide +kernel
theorem dX5_isSet_56 : decode cX5_isSet 56 = .ok (.ifCond .eq 7, 3) := by decide +kernel
theorem dX5_isSet_59 : decode cX5_isSet 59 = .ok (.iconst 1, 1) := by decide +kernel
theorem dX5_isSet_60 : decode cX5_isSet 60 = .ok (.goto 4, 3) := by decide +kernel
theorem dX5_isSet_63 : decode cX5_isSet 63 = .ok (.iconst 0, 1) := by decide +kernel
theorem dX5_isSet_64 : decode cX5_isSet 64 = .ok (.ireturn, 1) := by decide +kernel
theorem dX5_set_0 : decode cX5_set 0 = .ok (.iload_n 1, 1) := by decide +kernel
theorem dX5_set_1 : decode cX5_set 1 = .ok (.iload_n 2, 1) := by decide +kernel
theorem dX5_set_2 : decode cX5_set 2 = .ok (.invokestatic 75, 3) := by decide +kernel
theorem dX5_set_5 : decode cX5_set 5 = .ok (.ifCond .eq 14, 3) := by decide +kernel
theorem dX5_set_8 : decode cX5_set 8 = .ok (.aload_n 0, 1) := by decide +kernel
theorem dX5_set_9 : decode cX5_set 9 = .ok (.iconst 3, 1) := by decide +kernel
theorem dX5_set_10 : decode cX5_set 10 = .ok (.iload_n 1, 1) := by decide +kernel
theorem dX5_set_11 : decode cX5_set 11 = .ok (.iadd, 1) := by decide +kernel
theorem dX5_set_12 : decode cX5_set 12 = .ok (.iload_n 2, 1) := by decide +kernel
theorem dX5_set_13 : decode cX5_set 13 = .ok (.invokevirtual 79, 3) := by decide +kernel
theorem dX5_set_16 : decode cX5_set 16 = .ok (.goto 9, 3) := by decide +kernel
theorem dX5_set_19 : decode cX5_set 19 = .ok (.aload_n 0, 1) := by decide +kernel
theorem dX5_set_20 : decode cX5_set 20 = .ok (.ldc 60, 2) := by decide +kernel
theorem dX5_set_22 : decode cX5_set 22 = .ok (.invokevirtual 66, 3) := by decide +kernel
theorem dX5_set_25 : decode cX5_set 25 = .ok (.ireturn, 1) := by decide +kernel
theorem dX5_booth_0 : decode cX5_booth 0 = .ok (.iload_n 1, 1) := by decide +kernel
theorem dX5_booth_1 : decode cX5_booth 1 = .ok (.iconst 0, 1) := by decide +kernel
theorem dX5_booth_2 : decode cX5_booth 2 = .ok (.iconst 3, 1) := by decide +kernel
theorem dX5_booth_3 : decode cX5_booth 3 = .ok (.invokestatic 70, 3) := by decide +kernel
theorem dX5_booth_6 : decode cX5_booth 6 = .ok (.ifCond .eq 14, 3) := by decide +kernel
theorem dX5_booth_9 : decode cX5_booth 9 = .ok (.aload_n 0, 1) := by decide +kernel
theorem dX5_booth_10 : decode cX5_booth 10 = .ok (.getfield 9, 3) := by decide +kernel
theorem dX5_booth_13 : decode cX5_booth 13 = .ok (.iconst 3, 1) := by decide +kernel
theorem dX5_booth_14 : decode cX5_booth 14 = .ok (.iload_n 1, 1) := by decide +kernel
theorem dX5_booth_15 : decode cX5_booth 15 = .ok (.iadd, 1) := by decide +kernel
theorem dX5_booth_16 : decode cX5_booth 16 = .ok (.iaload, 1) := by decide +kernel
theorem dX5_booth_17 : decode cX5_booth 17 = .ok (.goto 9, 3) := by decide +kernel
theorem dX5_booth_20 : decode cX5_booth 20 = .ok (.aload_n 0, 1) := by decide +kernel
theorem dX5_booth_21 : decode cX5_booth 21 = .ok (.ldc 60, 2) := by decide +kernel
theorem dX5_booth_23 : decode cX5_booth 23 = .ok (.invokevirtual 66, 3) := by decide +kernel
theorem dX5_booth_26 : decode cX5_booth 26 = .ok (.ireturn, 1) := by decide +kernel
theorem dX5_isPlace_0 : decode cX5_isPlace 0 = .ok (.iload_n 0, 1) := by decide +kernel
theorem dX5_isPlace_1 : decode cX5_isPlace 1 = .ok (.iconst 0, 1) := by decide +kernel
theorem dX5_isPlace_2 : decode cX5_isPlace 2 = .ok (.iconst 5, 1) := by decide +kernel
theorem dX5_isPlace_3 : decode cX5_isPlace 3 = .ok (.invokestatic 70, 3) := by decide +kernel
theorem dX5_isPlace_6 : decode cX5_isPlace 6 = .ok (.ireturn, 1) := by decide +kernel
theorem dX5_isSitter_0 : decode cX5_isSitter 0 = .ok (.iload_n 1, 1) := by decide +kernel
theorem dX5_isSitter_1 : decode cX5_isSitter 1 = .ok (.iconst 0, 1) := by decide +kernel
theorem dX5_isSitter_2 : decode cX5_isSitter 2 = .ok (.aload_n 0, 1) := by decide +kernel
theorem dX5_isSitter_3 : decode cX5_isSitter 3 = .ok (.getfield 9, 3) := by decide +kernel
theorem dX5_isSitter_6 : decode cX5_isSitter 6 = .ok (.iconst 1, 1) := by decide +kernel
theorem dX5_isSitter_7 : decode cX5_isSitter 7 = .ok (.iaload, 1) := by decide +kernel
theorem dX5_isSitter_8 : decode cX5_isSitter 8 = .ok (.iconst 1, 1) := by decide +kernel
theorem dX5_isSitter_9 : decode cX5_isSitter 9 = .ok (.isub, 1) := by decide +kernel
theorem dX5_isSitter_10 : decode cX5_isSitter 10 = .ok (.invokestatic 70, 3) := by decide +kernel
theorem dX5_isSitter_13 : decode cX5_isSitter 13 = .ok (.ireturn, 1) := by decide +kernel
theorem dX5_isInQueue_0 : decode cX5_isInQueue 0 = .ok (.iload_n 1, 1) := by decide +kernel
theorem dX5_isInQueue_1 : decode cX5_isInQueue 1 = .ok (.iconst (-1), 1) := by decide +kernel
theorem dX5_isInQueue_2 : decode cX5_isInQueue 2 = .ok (.if_icmp .eq 11, 3) := by decide +kernel
theorem dX5_isInQueue_5 : decode cX5_isInQueue 5 = .ok (.aload_n 0, 1) := by decide +kernel
theorem dX5_isInQueue_6 : decode cX5_isInQueue 6 = .ok (.iload_n 1, 1) := by decide +kernel
theorem dX5_isInQueue_7 : decode cX5_isInQueue 7 = .ok (.invokevirtual 83, 3) := by decide +kernel
theorem dX5_isInQueue_10 : decode cX5_isInQueue 10 = .ok (.ifCond .eq 7, 3) := by decide +kernel
theorem dX5_isInQueue_13 : decode cX5_isInQueue 13 = .ok (.iconst 1, 1) := by decide +kernel
theorem dX5_isInQueue_14 : decode cX5_isInQueue 14 = .ok (.goto 4, 3) := by decide +kernel
theorem dX5_isInQueue_17 : decode cX5_isInQueue 17 = .ok (.iconst 0, 1) := by decide +kernel
theorem dX5_isInQueue_18 : decode cX5_isInQueue 18 = .ok (.ireturn, 1) := by decide +kernel
theorem dX5_queue_0 : decode cX5_queue 0 = .ok (.iload_n 1, 1) := by decide +kernel
theorem dX5_queue_1 : decode cX5_queue 1 = .ok (.invokestatic 87, 3) := by decide +kernel
theorem dX5_queue_4 : decode cX5_queue 4 = .ok (.ifCond .eq 23, 3) := by decide +kernel
theorem dX5_queue_7 : decode cX5_queue 7 = .ok (.aload_n 0, 1) := by decide +kernel
theorem dX5_queue_8 : decode cX5_queue 8 = .ok (.iload_n 2, 1) := by decide +kernel
theorem dX5_queue_9 : decode cX5_queue 9 = .ok (.invokevirtual 90, 3) := by decide +kernel
theorem dX5_queue_12 : decode cX5_queue 12 = .ok (.ifCond .eq 15, 3) := by decide +kernel
theorem dX5_queue_15 : decode cX5_queue 15 = .ok (.aload_n 0, 1) := by decide +kernel
theorem dX5_queue_16 : decode cX5_queue 16 = .ok (.bipush 17, 2) := by decide +kernel
theorem dX5_queue_18 : decode cX5_queue 18 = .ok (.iload_n 1, 1) := by decide +kernel
theorem dX5_queue_19 : decode cX5_queue 19 = .ok (.iadd, 1) := by decide +kernel
theorem dX5_queue_20 : decode cX5_queue 20 = .ok (.iload_n 2, 1) := by decide +kernel
theorem dX5_queue_21 : decode cX5_queue 21 = .ok (.invokevirtual 79, 3) := by decide +kernel
theorem dX5_queue_24 : decode cX5_queue 24 = .ok (.goto 9, 3) := by decide +kernel
theorem dX5_queue_27 : decode cX5_queue 27 = .ok (.aload_n 0, 1) := by decide +kernel
theorem dX5_queue_28 : decode cX5_queue 28 = .ok (.ldc 60, 2) := by decide +kernel
theorem dX5_queue_30 : decode cX5_queue 30 = .ok (.invokevirtual 66, 3) := by decide +kernel
theorem dX5_queue_33 : decode cX5_queue 33 = .ok (.ireturn, 1) := by decide +kernel
theorem dX5_place_0 : decode cX5_place 0 = .ok (.iload_n 1, 1) := by decide +kernel
theorem dX5_place_1 : decode cX5_place 1 = .ok (.invokestatic 87, 3) := by decide +kernel
theorem dX5_place_4 : decode cX5_place 4 = .ok (.ifCond .eq 15, 3) := by decide +kernel
theorem dX5_place_7 : decode cX5_place 7 = .ok (.aload_n 0, 1) := by decide +kernel
theorem dX5_place_8 : decode cX5_place 8 = .ok (.getfield 9, 3) := by decide +kernel
theorem dX5_place_11 : decode cX5_place 11 = .ok (.bipush 17, 2) := by decide +kernel
theorem dX5_place_13 : decode cX5_place 13 = .ok (.iload_n 1, 1) := by decide +kernel
theorem dX5_place_14 : decode cX5_place 14 = .ok (.iadd, 1) := by decide +kernel
theorem dX5_place_15 : decode cX5_place 15 = .ok (.iaload, 1) := by decide +kernel
theorem dX5_place_16 : decode cX5_place 16 = .ok (.goto 9, 3) := by decide +kernel
theorem dX5_place_19 : decode cX5_place 19 = .ok (.aload_n 0, 1) := by decide +kernel
theorem dX5_place_20 : decode cX5_place 20 = .ok (.ldc 60, 2) := by decide +kernel
theorem dX5_place_22 : decode cX5_place 22 = .ok (.invokevirtual 66, 3) := by decide +kernel
theorem dX5_place_25 : decode cX5_place 25 = .ok (.ireturn, 1) := by decide +kernel
theorem dX5_isKind_0 : decode cX5_isKind 0 = .ok (.iload_n 0, 1) := by decide +kernel
theorem dX5_isKind_1 : decode cX5_isKind 1 = .ok (.iconst 0, 1) := by decide +kernel
theorem dX5_isKind_2 : decode cX5_isKind 2 = .ok (.bipush 6, 2) := by decide +kernel
theorem dX5_isKind_4 : decode cX5_isKind 4 = .ok (.invokestatic 70, 3) := by decide +kernel
theorem dX5_isKind_7 : decode cX5_isKind 7 = .ok (.ireturn, 1) := by decide +kernel
theorem dX5_sitterAt_0 : decode cX5_sitterAt 0 = .ok (.bipush 23, 2) := by decide +kernel
theorem dX5_sitterAt_2 : decode cX5_sitterAt 2 = .ok (.bipush 7, 2) := by decide +kernel
theorem dX5_sitterAt_4 : decode cX5_sitterAt 4 = .ok (.iload_n 0, 1) := by decide +kernel
theorem dX5_sitterAt_5 : decode cX5_sitterAt 5 = .ok (.imul, 1) := by decide +kernel
theorem dX5_sitterAt_6 : decode cX5_sitterAt 6 = .ok (.iadd, 1) := by decide +kernel
theorem dX5_sitterAt_7 : decode cX5_sitterAt 7 = .ok (.iload_n 1, 1) := by decide +kernel
theorem dX5_sitterAt_8 : decode cX5_sitterAt 8 = .ok (.iadd, 1) := by decide +kernel
theorem dX5_sitterAt_9 : decode cX5_sitterAt 9 = .ok (.ireturn, 1) := by decide +kernel
theorem dX5_sitterIs_0 : decode cX5_sitterIs 0 = .ok (.aload_n 0, 1) := by decide +kernel
theorem dX5_sitterIs_1 : decode cX5_sitterIs 1 = .ok (.getfield 9, 3) := by decide +kernel
theorem dX5_sitterIs_4 : decode cX5_sitterIs 4 = .ok (.iload_n 1, 1) := by decide +kernel
theorem dX5_sitterIs_5 : decode cX5_sitterIs 5 = .ok (.iload_n 2, 1) := by decide +kernel
theorem dX5_sitterIs_6 : decode cX5_sitterIs 6 = .ok (.invokestatic 93, 3) := by decide +kernel
theorem dX5_sitterIs_9 : decode cX5_sitterIs 9 = .ok (.iaload, 1) := by decide +kernel
theorem dX5_sitterIs_10 : decode cX5_sitterIs 10 = .ok (.ireturn, 1) := by decide +kernel
theorem dX5_comes_0 : decode cX5_comes 0 = .ok (.aload_n 0, 1) := by decide +kernel
theorem dX5_comes_1 : decode cX5_comes 1 = .ok (.getfield 9, 3) := by decide +kernel
theorem dX5_comes_4 : decode cX5_comes 4 = .ok (.iconst 1, 1) := by decide +kernel
theorem dX5_comes_5 : decode cX5_comes 5 = .ok (.iaload, 1) := by decide +kernel
theorem dX5_comes_6 : decode cX5_comes 6 = .ok (.istore 6, 2) := by decide +kernel
theorem dX5_comes_8 : decode cX5_comes 8 = .ok (.aload_n 0, 1) := by decide +kernel
theorem dX5_comes_9 : decode cX5_comes 9 = .ok (.getfield 9, 3) := by decide +kernel
theorem dX5_comes_12 : decode cX5_comes 12 = .ok (.iload 6, 2) := by decide +kernel
theorem dX5_comes_14 : decode cX5_comes 14 = .ok (.iconst 0, 1) := by decide +kernel
theorem dX5_comes_15 : decode cX5_comes 15 = .ok (.invokestatic 93, 3) := by decide +kernel
theorem dX5_comes_18 : decode cX5_comes 18 = .ok (.iload_n 1, 1) := by decide +kernel
theorem dX5_comes_19 : decode cX5_comes 19 = .ok (.iastore, 1) := by decide +kernel
theorem dX5_comes_20 : decode cX5_comes 20 = .ok (.aload_n 0, 1) := by decide +kernel
theorem dX5_comes_21 : decode cX5_comes 21 = .ok (.getfield 9, 3) := by decide +kernel
theorem dX5_comes_24 : decode cX5_comes 24 = .ok (.iload 6, 2) := by decide +kernel
theorem dX5_comes_26 : decode cX5_comes 26 = .ok (.iconst 1, 1) := by decide +kernel
theorem dX5_comes_27 : decode cX5_comes 27 = .ok (.invokestatic 93, 3) := by decide +kernel
theorem dX5_comes_30 : decode cX5_comes 30 = .ok (.iload_n 2, 1) := by decide +kernel
theorem dX5_comes_31 : decode cX5_comes 31 = .ok (.iastore, 1) := by decide +kernel
theorem dX5_comes_32 : decode cX5_comes 32 = .ok (.aload_n 0, 1) := by decide +kernel
theorem dX5_comes_33 : decode cX5_comes 33 = .ok (.getfield 9, 3) := by decide +kernel
theorem dX5_comes_36 : decode cX5_comes 36 = .ok (.iload 6, 2) := by decide +kernel
theorem dX5_comes_38 : decode cX5_comes 38 = .ok (.iconst 2, 1) := by decide +kernel
theorem dX5_comes_39 : decode cX5_comes 39 = .ok (.invokestatic 93, 3) := by decide +kernel
theorem dX5_comes_42 : decode cX5_comes 42 = .ok (.iload_n 3, 1) := by decide +kernel
theorem dX5_comes_43 : decode cX5_comes 43 = .ok (.iastore, 1) := by decide +kernel
theorem dX5_comes_44 : decode cX5_comes 44 = .ok (.aload_n 0, 1) := by decide +kernel
theorem dX5_comes_45 : decode cX5_comes 45 = .ok (.getfield 9, 3) := by decide +kernel
theorem dX5_comes_48 : decode cX5_comes 48 = .ok (.iload 6, 2) := by decide +kernel
theorem dX5_comes_50 : decode cX5_comes 50 = .ok (.iconst 3, 1) := by decide +kernel
theorem dX5_comes_51 : decode cX5_comes 51 = .ok (.invokestatic 93, 3) := by decide +kernel
theorem dX5_comes_54 : decode cX5_comes 54 = .ok (.iload 4, 2) := by decide +kernel
theorem dX5_comes_56 : decode cX5_comes 56 = .ok (.iastore, 1) := by decide +kernel
theorem dX5_comes_57 : decode cX5_comes 57 = .ok (.aload_n 0, 1) := by decide +kernel
theorem dX5_comes_58 : decode cX5_comes 58 = .ok (.getfield 9, 3) := by decide +kernel
theorem dX5_comes_61 : decode cX5_comes 61 = .ok (.iload 6, 2) := by decide +kernel
theorem dX5_comes_63 : decode cX5_comes 63 = .ok (.iconst 4, 1) := by decide +kernel
theorem dX5_comes_64 : decode cX5_comes 64 = .ok (.invokestatic 93, 3) := by decide +kernel
theorem dX5_comes_67 : decode cX5_comes 67 = .ok (.iload 5, 2) := by decide +kernel
theorem dX5_comes_69 : decode cX5_comes 69 = .ok (.iastore, 1) := by decide +kernel
theorem dX5_comes_70 : decode cX5_comes 70 = .ok (.aload_n 0, 1) := by decide +kernel
theorem dX5_comes_71 : decode cX5_comes 71 = .ok (.getfield 9, 3) := by decide +kernel
theorem dX5_comes_74 : decode cX5_comes 74 = .ok (.iload 6, 2) := by decide +kernel
theorem dX5_comes_76 : decode cX5_comes 76 = .ok (.iconst 5, 1) := by decide +kernel
theorem dX5_comes_77 : decode cX5_comes 77 = .ok (.invokestatic 93, 3) := by decide +kernel
theorem dX5_comes_80 : decode cX5_comes 80 = .ok (.iconst 0, 1) := by decide +kernel
theorem dX5_comes_81 : decode cX5_comes 81 = .ok (.iastore, 1) := by decide +kernel
theorem dX5_comes_82 : decode cX5_comes 82 = .ok (.aload_n 0, 1) := by decide +kernel
theorem dX5_comes_83 : decode cX5_comes 83 = .ok (.getfield 9, 3) := by decide +kernel
theorem dX5_comes_86 : decode cX5_comes 86 = .ok (.iload 6, 2) := by decide +kernel
theorem dX5_comes_88 : decode cX5_comes 88 = .ok (.bipush 6, 2) := by decide +kernel
theorem dX5_comes_90 : decode cX5_comes 90 = .ok (.invokestatic 93, 3) := by decide +kernel
theorem dX5_comes_93 : decode cX5_comes 93 = .ok (.iconst 0, 1) := by decide +kernel
theorem dX5_comes_94 : decode cX5_comes 94 = .ok (.iastore, 1) := by decide +kernel
theorem dX5_comes_95 : decode cX5_comes 95 = .ok (.aload_n 0, 1) := by decide +kernel
theorem dX5_comes_96 : decode cX5_comes 96 = .ok (.getfield 9, 3) := by decide +kernel
theorem dX5_comes_99 : decode cX5_comes 99 = .ok (.iconst 1, 1) := by decide +kernel
theorem dX5_comes_100 : decode cX5_comes 100 = .ok (.dup2, 1) := by decide +kernel
theorem dX5_comes_101 : decode cX5_comes 101 = .ok (.iaload, 1) := by decide +kernel
theorem dX5_comes_102 : decode cX5_comes 102 = .ok (.iconst 1, 1) := by decide +kernel
theorem dX5_comes_103 : decode cX5_comes 103 = .ok (.iadd, 1) := by decide +kernel
theorem dX5_comes_104 : decode cX5_comes 104 = .ok (.iastore, 1) := by decide +kernel
theorem dX5_comes_105 : decode cX5_comes 105 = .ok (.iload 6, 2) := by decide +kernel
theorem dX5_comes_107 : decode cX5_comes 107 = .ok (.ireturn, 1) := by decide +kernel
theorem dX5_sitter_0 : decode cX5_sitter 0 = .ok (.iload_n 1, 1) := by decide +kernel
theorem dX5_sitter_1 : decode cX5_sitter 1 = .ok (.invokestatic 96, 3) := by decide +kernel
theorem dX5_sitter_4 : decode cX5_sitter 4 = .ok (.ifCond .eq 13, 3) := by decide +kernel
theorem dX5_sitter_7 : decode cX5_sitter 7 = .ok (.iload_n 2, 1) := by decide +kernel
theorem dX5_sitter_8 : decode cX5_sitter 8 = .ok (.iconst 0, 1) := by decide +kernel
theorem dX5_sitter_9 : decode cX5_sitter 9 = .ok (.bipush 90, 2) := by decide +kernel
theorem dX5_sitter_11 : decode cX5_sitter 11 = .ok (.invokestatic 70, 3) := by decide +kernel
theorem dX5_sitter_14 : decode cX5_sitter 14 = .ok (.ifCond .ne 10, 3) := by decide +kernel
theorem dX5_sitter_17 : decode cX5_sitter 17 = .ok (.aload_n 0, 1) := by decide +kernel
theorem dX5_sitter_18 : decode cX5_sitter 18 = .ok (.ldc 60, 2) := by decide +kernel
theorem dX5_sitter_20 : decode cX5_sitter 20 = .ok (.invokevirtual 66, 3) := by decide +kernel
theorem dX5_sitter_23 : decode cX5_sitter 23 = .ok (.ireturn, 1) := by decide +kernel
theorem dX5_sitter_24 : decode cX5_sitter 24 = .ok (.aload_n 0, 1) := by decide +kernel
theorem dX5_sitter_25 : decode cX5_sitter 25 = .ok (.getfield 9, 3) := by decide +kernel
theorem dX5_sitter_28 : decode cX5_sitter 28 = .ok (.iconst 1, 1) := by decide +kernel
theorem dX5_sitter_29 : decode cX5_sitter 29 = .ok (.iaload, 1) := by decide +kernel
theorem dX5_sitter_30 : decode cX5_sitter 30 = .ok (.bipush 8, 2) := by decide +kernel
theorem dX5_sitter_32 : decode cX5_sitter 32 = .ok (.if_icmp .ne 12, 3) := by decide +kernel
theorem dX5_sitter_35 : decode cX5_sitter 35 = .ok (.aload_n 0, 1) := by decide +kernel
theorem dX5_sitter_36 : decode cX5_sitter 36 = .ok (.ldc 99, 2) := by decide +kernel
theorem dX5_sitter_38 : decode cX5_sitter 38 = .ok (.invokevirtual 66, 3) := by decide +kernel
theorem dX5_sitter_41 : decode cX5_sitter 41 = .ok (.goto 13, 3) := by decide +kernel
theorem dX5_sitter_44 : decode cX5_sitter 44 = .ok (.aload_n 0, 1) := by decide +kernel
theorem dX5_sitter_45 : decode cX5_sitter 45 = .ok (.iload_n 1, 1) := by decide +kernel
theorem dX5_sitter_46 : decode cX5_sitter 46 = .ok (.iload_n 2, 1) := by decide +kernel
theorem dX5_sitter_47 : decode cX5_sitter 47 = .ok (.iconst 5, 1) := by decide +kernel
theorem dX5_sitter_48 : decode cX5_sitter 48 = .ok (.iconst 3, 1) := by decide +kernel
theorem dX5_sitter_49 : decode cX5_sitter 49 = .ok (.bipush 20, 2) := by decide +kernel
theorem dX5_sitter_51 : decode cX5_sitter 51 = .ok (.invokevirtual 100, 3) := by decide +kernel
theorem dX5_sitter_54 : decode cX5_sitter 54 = .ok (.ireturn, 1) := by decide +kernel
theorem dX5_off_0 : decode cX5_off 0 = .ok (.aload_n 0, 1) := by decide +kernel
theorem dX5_off_1 : decode cX5_off 1 = .ok (.iload_n 1, 1) := by decide +kernel
theorem dX5_off_2 : decode cX5_off 2 = .ok (.iconst 1, 1) := by decide +kernel
theorem dX5_off_3 : decode cX5_off 3 = .ok (.invokevirtual 104, 3) := by decide +kernel
theorem dX5_off_6 : decode cX5_off 6 = .ok (.aload_n 0, 1) := by decide +kernel
theorem dX5_off_7 : decode cX5_off 7 = .ok (.getfield 9, 3) := by decide +kernel
theorem dX5_off_10 : decode cX5_off 10 = .ok (.iconst 3, 1) := by decide +kernel
theorem dX5_off_11 : decode cX5_off 11 = .ok (.iaload, 1) := by decide +kernel
theorem dX5_off_12 : decode cX5_off 12 = .ok (.iadd, 1) := by decide +kernel
theorem dX5_off_13 : decode cX5_off 13 = .ok (.bipush 80, 2) := by decide +kernel
theorem dX5_off_15 : decode cX5_off 15 = .ok (.isub, 1) := by decide +kernel
theorem dX5_off_16 : decode cX5_off 16 = .ok (.invokestatic 107, 3) := by decide +kernel
theorem dX5_off_19 : decode cX5_off 19 = .ok (.ireturn, 1) := by decide +kernel
theorem dX5_may_0 : decode cX5_may 0 = .ok (.aload_n 0, 1) := by decide +kernel
theorem dX5_may_1 : decode cX5_may 1 = .ok (.iload_n 1, 1) := by decide +kernel
theorem dX5_may_2 : decode cX5_may 2 = .ok (.iconst 0, 1) := by decide +kernel
theorem dX5_may_3 : decode cX5_may 3 = .ok (.invokevirtual 104, 3) := by decide +kernel
theorem dX5_may_6 : decode cX5_may 6 = .ok (.tableswitch 56 1 6 #[38, 56, 43, 45, 56, 40], 38) := by decide +kernel
theorem dX5_may_44 : decode cX5_may 44 = .ok (.iconst 5, 1) := by decide +kernel
theorem dX5_may_45 : decode cX5_may 45 = .ok (.ireturn, 1) := by decide +kernel
theorem dX5_may_46 : decode cX5_may 46 = .ok (.bipush 10, 2) := by decide +kernel
theorem dX5_may_48 : decode cX5_may 48 = .ok (.ireturn, 1) := by decide +kernel
theorem dX5_may_49 : decode cX5_may 49 = .ok (.iconst 1, 1) := by decide +kernel
theorem dX5_may_50 : decode cX5_may 50 = .ok (.ireturn, 1) := by decide +kernel
theorem dX5_may_51 : decode cX5_may 51 = .ok (.iconst 1, 1) := by decide +kernel
theorem dX5_may_52 : decode cX5_may 52 = .ok (.aload_n 0, 1) := by decide +kernel
theorem dX5_may_53 : decode cX5_may 53 = .ok (.iload_n 1, 1) := by decide +kernel
theorem dX5_may_54 : decode cX5_may 54 = .ok (.iconst 2, 1) := by decide +kernel
theorem dX5_may_55 : decode cX5_may 55 = .ok (.invokevirtual 104, 3) := by decide +kernel
theorem dX5_may_58 : decode cX5_may 58 = .ok (.iconst 3, 1) := by decide +kernel
theorem dX5_may_59 : decode cX5_may 59 = .ok (.idiv, 1) := by decide +kernel
theorem dX5_may_60 : decode cX5_may 60 = .ok (.iadd, 1) := by decide +kernel
theorem dX5_may_61 : decode cX5_may 61 = .ok (.ireturn, 1) := by decide +kernel
theorem dX5_may_62 : decode cX5_may 62 = .ok (.iconst 2, 1) := by decide +kernel
theorem dX5_may_63 : decode cX5_may 63 = .ok (.ireturn, 1) := by decide +kernel
theorem dX5_isShut_0 : decode cX5_isShut 0 = .ok (.aload_n 0, 1) := by decide +kernel
theorem dX5_isShut_1 : decode cX5_isShut 1 = .ok (.getfield 9, 3) := by decide +kernel
theorem dX5_isShut_4 : decode cX5_isShut 4 = .ok (.iconst 0, 1) := by decide +kernel
theorem dX5_isShut_5 : decode cX5_isShut 5 = .ok (.iaload, 1) := by decide +kernel
theorem dX5_isShut_6 : decode cX5_isShut 6 = .ok (.iload_n 2, 1) := by decide +kernel
theorem dX5_isShut_7 : decode cX5_isShut 7 = .ok (.iadd, 1) := by decide +kernel
theorem dX5_isShut_8 : decode cX5_isShut 8 = .ok (.aload_n 0, 1) := by decide +kernel
theorem dX5_isShut_9 : decode cX5_isShut 9 = .ok (.iload_n 1, 1) := by decide +kernel
theorem dX5_isShut_10 : decode cX5_isShut 10 = .ok (.iconst 2, 1) := by decide +kernel
theorem dX5_isShut_11 : decode cX5_isShut 11 = .ok (.invokevirtual 104, 3) := by decide +kernel
theorem dX5_isShut_14 : decode cX5_isShut 14 = .ok (.iadd, 1) := by decide +kernel
theorem dX5_isShut_15 : decode cX5_isShut 15 = .ok (.iconst 4, 1) := by decide +kernel
theorem dX5_isShut_16 : decode cX5_isShut 16 = .ok (.irem, 1) := by decide +kernel
theorem dX5_isShut_17 : decode cX5_isShut 17 = .ok (.ifCond .ne 7, 3) := by decide +kernel
theorem dX5_isShut_20 : decode cX5_isShut 20 = .ok (.iconst 1, 1) := by decide +kernel
theorem dX5_isShut_21 : decode cX5_isShut 21 = .ok (.goto 4, 3) := by decide +kernel
theorem dX5_isShut_24 : decode cX5_isShut 24 = .ok (.iconst 0, 1) := by decide +kernel
theorem dX5_isShut_25 : decode cX5_isShut 25 = .ok (.istore_n 3, 1) := by decide +kernel
theorem dX5_isShut_26 : decode cX5_isShut 26 = .ok (.aload_n 0, 1) := by decide +kernel
theorem dX5_isShut_27 : decode cX5_isShut 27 = .ok (.getfield 9, 3) := by decide +kernel
theorem dX5_isShut_30 : decode cX5_isShut 30 = .ok (.iconst 0, 1) := by decide +kernel
theorem dX5_isShut_31 : decode cX5_isShut 31 = .ok (.iaload, 1) := by decide +kernel
theorem dX5_isShut_32 : decode cX5_isShut 32 = .ok (.iload_n 2, 1) := by decide +kernel
theorem dX5_isShut_33 : decode cX5_isShut 33 = .ok (.iadd, 1) := by decide +kernel
theorem dX5_isShut_34 : decode cX5_isShut 34 = .ok (.iconst 3, 1) := by decide +kernel
theorem dX5_isShut_35 : decode cX5_isShut 35 = .ok (.irem, 1) := by decide +kernel
theorem dX5_isShut_36 : decode cX5_isShut 36 = .ok (.ifCond .ne 7, 3) := by decide +kernel
theorem dX5_isShut_39 : decode cX5_isShut 39 = .ok (.iconst 1, 1) := by decide +kernel
theorem dX5_isShut_40 : decode cX5_isShut 40 = .ok (.goto 4, 3) := by decide +kernel
theorem dX5_isShut_43 : decode cX5_isShut 43 = .ok (.iconst 0, 1) := by decide +kernel
theorem dX5_isShut_44 : decode cX5_isShut 44 = .ok (.istore 4, 2) := by decide +kernel
theorem dX5_isShut_46 : decode cX5_isShut 46 = .ok (.aload_n 0, 1) := by decide +kernel
theorem dX5_isShut_47 : decode cX5_isShut 47 = .ok (.iload_n 1, 1) := by decide +kernel
theorem dX5_isShut_48 : decode cX5_isShut 48 = .ok (.iconst 0, 1) := by decide +kernel
theorem dX5_isShut_49 : decode cX5_isShut 49 = .ok (.invokevirtual 104, 3) := by decide +kernel
theorem dX5_isShut_52 : decode cX5_isShut 52 = .ok (.tableswitch 97 1 6 #[40, 97, 73, 76, 97, 61], 40) := by decide +kernel
theorem dX5_isShut_92 : decode cX5_isShut 92 = .ok (.iload_n 3, 1) := by decide +kernel
theorem dX5_isShut_93 : decode cX5_isShut 93 = .ok (.ifCond .ne 14, 3) := by decide +kernel
theorem dX5_isShut_96 : decode cX5_isShut 96 = .ok (.aload_n 0, 1) := by decide +kernel
theorem dX5_isShut_97 : decode cX5_isShut 97 = .ok (.getfield 9, 3) := by decide +kernel
theorem dX5_isShut_100 : decode cX5_isShut 100 = .ok (.iconst 4, 1) := by decide +kernel
theorem dX5_isShut_101 : decode cX5_isShut 101 = .ok (.iaload, 1) := by decide +kernel
theorem dX5_isShut_102 : decode cX5_isShut 102 = .ok (.bipush 8, 2) := by decide +kernel
theorem dX5_isShut_104 : decode cX5_isShut 104 = .ok (.if_icmp .lt 7, 3) := by decide +kernel
theorem dX5_isShut_107 : decode cX5_isShut 107 = .ok (.iconst 1, 1) := by decide +kernel
theorem dX5_isShut_108 : decode cX5_isShut 108 = .ok (.goto 4, 3) := by decide +kernel
theorem dX5_isShut_111 : decode cX5_isShut 111 = .ok (.iconst 0, 1) := by decide +kernel
theorem dX5_isShut_112 : decode cX5_isShut 112 = .ok (.ireturn, 1) := by decide +kernel
theorem dX5_isShut_113 : decode cX5_isShut 113 = .ok (.iload_n 2, 1) := by decide +kernel
theorem dX5_isShut_114 : decode cX5_isShut 114 = .ok (.iconst 2, 1) := by decide +kernel
theorem dX5_isShut_115 : decode cX5_isShut 115 = .ok (.irem, 1) := by decide +kernel
theorem dX5_isShut_116 : decode cX5_isShut 116 = .ok (.ifCond .ne 7, 3) := by decide +kernel
theorem dX5_isShut_119 : decode cX5_isShut 119 = .ok (.iconst 1, 1) := by decide +kernel
theorem dX5_isShut_120 : decode cX5_isShut 120 = .ok (.goto 4, 3) := by decide +kernel
theorem dX5_isShut_123 : decode cX5_isShut 123 = .ok (.iconst 0, 1) := by decide +kernel
theorem dX5_isShut_124 : decode cX5_isShut 124 = .ok (.ireturn, 1) := by decide +kernel
theorem dX5_isShut_125 : decode cX5_isShut 125 = .ok (.iload 4, 2) := by decide +kernel
theorem dX5_isShut_127 : decode cX5_isShut 127 = .ok (.ireturn, 1) := by decide +kernel
theorem dX5_isShut_128 : decode cX5_isShut 128 = .ok (.iload 4, 2) := by decide +kernel
theorem dX5_isShut_130 : decode cX5_isShut 130 = .ok (.ifCond .eq 17, 3) := by decide +kernel
theorem dX5_isShut_133 : decode cX5_isShut 133 = .ok (.aload_n 0, 1) := by decide +kernel
theorem dX5_isShut_134 : decode cX5_isShut 134 = .ok (.getfield 9, 3) := by decide +kernel
theorem dX5_isShut_137 : decode cX5_isShut 137 = .ok (.iconst 4, 1) := by decide +kernel
theorem dX5_isShut_138 : decode cX5_isShut 138 = .ok (.iaload, 1) := by decide +kernel
theorem dX5_isShut_139 : decode cX5_isShut 139 = .ok (.iconst 4, 1) := by decide +kernel
theorem dX5_isShut_140 : decode cX5_isShut 140 = .ok (.if_icmp .lt 7, 3) := by decide +kernel
theorem dX5_isShut_143 : decode cX5_isShut 143 = .ok (.iconst 1, 1) := by decide +kernel
theorem dX5_isShut_144 : decode cX5_isShut 144 = .ok (.goto 4, 3) := by decide +kernel
theorem dX5_isShut_147 : decode cX5_isShut 147 = .ok (.iconst 0, 1) := by decide +kernel
theorem dX5_isShut_148 : decode cX5_isShut 148 = .ok (.ireturn, 1) := by decide +kernel
theorem dX5_isShut_149 : decode cX5_isShut 149 = .ok (.iload_n 3, 1) := by decide +kernel
theorem dX5_isShut_150 : decode cX5_isShut 150 = .ok (.ireturn, 1) := by decide +kernel
theorem dX5_isSmiling_0 : decode cX5_isSmiling 0 = .ok (.aload_n 0, 1) := by decide +kernel
theorem dX5_isSmiling_1 : decode cX5_isSmiling 1 = .ok (.iload_n 1, 1) := by decide +kernel
theorem dX5_isSmiling_2 : decode cX5_isSmiling 2 = .ok (.iconst 3, 1) := by decide +kernel
theorem dX5_isSmiling_3 : decode cX5_isSmiling 3 = .ok (.invokevirtual 104, 3) := by decide +kernel
theorem dX5_isSmiling_6 : decode cX5_isSmiling 6 = .ok (.istore_n 3, 1) := by decide +kernel
theorem dX5_isSmiling_7 : decode cX5_isSmiling 7 = .ok (.iload_n 3, 1) := by decide +kernel
theorem dX5_isSmiling_8 : decode cX5_isSmiling 8 = .ok (.iconst 5, 1) := by decide +kernel
theorem dX5_isSmiling_9 : decode cX5_isSmiling 9 = .ok (.if_icmp .gt 13, 3) := by decide +kernel
theorem dX5_isSmiling_12 : decode cX5_isSmiling 12 = .ok (.iload_n 2, 1) := by decide +kernel
theorem dX5_isSmiling_13 : decode cX5_isSmiling 13 = .ok (.iconst 3, 1) := by decide +kernel
theorem dX5_isSmiling_14 : decode cX5_isSmiling 14 = .ok (.if_icmp .ne 12, 3) := by decide +kernel
theorem dX5_isSmiling_17 : decode cX5_isSmiling 17 = .ok (.iload_n 3, 1) := by decide +kernel
theorem dX5_isSmiling_18 : decode cX5_isSmiling 18 = .ok (.iconst 2, 1) := by decide +kernel
theorem dX5_isSmiling_19 : decode cX5_isSmiling 19 = .ok (.if_icmp .le 7, 3) := by decide +kernel
theorem dX5_isSmiling_22 : decode cX5_isSmiling 22 = .ok (.iconst 1, 1) := by decide +kernel
theorem dX5_isSmiling_23 : decode cX5_isSmiling 23 = .ok (.goto 4, 3) := by decide +kernel
theorem dX5_isSmiling_26 : decode cX5_isSmiling 26 = .ok (.iconst 0, 1) := by decide +kernel
theorem dX5_isSmiling_27 : decode cX5_isSmiling 27 = .ok (.istore 4, 2) := by decide +kernel
theorem dX5_isSmiling_29 : decode cX5_isSmiling 29 = .ok (.aload_n 0, 1) := by decide +kernel
theorem dX5_isSmiling_30 : decode cX5_isSmiling 30 = .ok (.iload_n 1, 1) := by decide +kernel
theorem dX5_isSmiling_31 : decode cX5_isSmiling 31 = .ok (.iconst 0, 1) := by decide +kernel
theorem dX5_isSmiling_32 : decode cX5_isSmiling 32 = .ok (.invokevirtual 104, 3) := by decide +kernel
theorem dX5_isSmiling_35 : decode cX5_isSmiling 35 = .ok (.tableswitch 67 1 6 #[37, 67, 50, 50, 52, 50], 37) := by decide +kernel
theorem dX5_isSmiling_72 : decode cX5_isSmiling 72 = .ok (.iload_n 3, 1) := by decide +kernel
theorem dX5_isSmiling_73 : decode cX5_isSmiling 73 = .ok (.iload_n 2, 1) := by decide +kernel
theorem dX5_isSmiling_74 : decode cX5_isSmiling 74 = .ok (.iadd, 1) := by decide +kernel
theorem dX5_isSmiling_75 : decode cX5_isSmiling 75 = .ok (.iconst 4, 1) := by decide +kernel
theorem dX5_isSmiling_76 : decode cX5_isSmiling 76 = .ok (.if_icmp .le 7, 3) := by decide +kernel
theorem dX5_isSmiling_79 : decode cX5_isSmiling 79 = .ok (.iconst 1, 1) := by decide +kernel
theorem dX5_isSmiling_80 : decode cX5_isSmiling 80 = .ok (.goto 4, 3) := by decide +kernel
theorem dX5_isSmiling_83 : decode cX5_isSmiling 83 = .ok (.iconst 0, 1) := by decide +kernel
theorem dX5_isSmiling_84 : decode cX5_isSmiling 84 = .ok (.ireturn, 1) := by decide +kernel
theorem dX5_isSmiling_85 : decode cX5_isSmiling 85 = .ok (.iconst 0, 1) := by decide +kernel
theorem dX5_isSmiling_86 : decode cX5_isSmiling 86 = .ok (.ireturn, 1) := by decide +kernel
theorem dX5_isSmiling_87 : decode cX5_isSmiling 87 = .ok (.iload 4, 2) := by decide +kernel
theorem dX5_isSmiling_89 : decode cX5_isSmiling 89 = .ok (.ifCond .eq 11, 3) := by decide +kernel
theorem dX5_isSmiling_92 : decode cX5_isSmiling 92 = .ok (.iload_n 2, 1) := by decide +kernel
theorem dX5_isSmiling_93 : decode cX5_isSmiling 93 = .ok (.ifCond .eq 7, 3) := by decide +kernel
theorem dX5_isSmiling_96 : decode cX5_isSmiling 96 = .ok (.iconst 1, 1) := by decide +kernel
theorem dX5_isSmiling_97 : decode cX5_isSmiling 97 = .ok (.goto 4, 3) := by decide +kernel
theorem dX5_isSmiling_100 : decode cX5_isSmiling 100 = .ok (.iconst 0, 1) := by decide +kernel
theorem dX5_isSmiling_101 : decode cX5_isSmiling 101 = .ok (.ireturn, 1) := by decide +kernel
theorem dX5_isSmiling_102 : decode cX5_isSmiling 102 = .ok (.iload 4, 2) := by decide +kernel
theorem dX5_isSmiling_104 : decode cX5_isSmiling 104 = .ok (.ireturn, 1) := by decide +kernel
theorem dX5_isShining_0 : decode cX5_isShining 0 = .ok (.aload_n 0, 1) := by decide +kernel
theorem dX5_isShining_1 : decode cX5_isShining 1 = .ok (.iload_n 1, 1) := by decide +kernel
theorem dX5_isShining_2 : decode cX5_isShining 2 = .ok (.iconst 0, 1) := by decide +kernel
theorem dX5_isShining_3 : decode cX5_isShining 3 = .ok (.invokevirtual 104, 3) := by decide +kernel
theorem dX5_isShining_6 : decode cX5_isShining 6 = .ok (.istore_n 2, 1) := by decide +kernel
theorem dX5_isShining_7 : decode cX5_isShining 7 = .ok (.iload_n 2, 1) := by decide +kernel
theorem dX5_isShining_8 : decode cX5_isShining 8 = .ok (.iconst 4, 1) := by decide +kernel
theorem dX5_isShining_9 : decode cX5_isShining 9 = .ok (.if_icmp .ne 21, 3) := by decide +kernel
theorem dX5_isShining_12 : decode cX5_isShining 12 = .ok (.aload_n 0, 1) := by decide +kernel
theorem dX5_isShining_13 : decode cX5_isShining 13 = .ok (.getfield 9, 3) := by decide +kernel
theorem dX5_isShining_16 : decode cX5_isShining 16 = .ok (.iconst 4, 1) := by decide +kernel
theorem dX5_isShining_17 : decode cX5_isShining 17 = .ok (.iaload, 1) := by decide +kernel
theorem dX5_isShining_18 : decode cX5_isShining 18 = .ok (.iconst 5, 1) := by decide +kernel
theorem dX5_isShining_19 : decode cX5_isShining 19 = .ok (.if_icmp .le 7, 3) := by decide +kernel
theorem dX5_isShining_22 : decode cX5_isShining 22 = .ok (.iconst 1, 1) := by decide +kernel
theorem dX5_isShining_23 : decode cX5_isShining 23 = .ok (.goto 33, 3) := by decide +kernel
theorem dX5_isShining_26 : decode cX5_isShining 26 = .ok (.iconst 0, 1) := by decide +kernel
theorem dX5_isShining_27 : decode cX5_isShining 27 = .ok (.goto 29, 3) := by decide +kernel
theorem dX5_isShining_30 : decode cX5_isShining 30 = .ok (.iload_n 2, 1) := by decide +kernel
theorem dX5_isShining_31 : decode cX5_isShining 31 = .ok (.iconst 2, 1) := by decide +kernel
theorem dX5_isShining_32 : decode cX5_isShining 32 = .ok (.if_icmp .eq 8, 3) := by decide +kernel
theorem dX5_isShining_35 : decode cX5_isShining 35 = .ok (.iload_n 2, 1) := by decide +kernel
theorem dX5_isShining_36 : decode cX5_isShining 36 = .ok (.iconst 3, 1) := by decide +kernel
theorem dX5_isShining_37 : decode cX5_isShining 37 = .ok (.if_icmp .ne 18, 3) := by decide +kernel
theorem dX5_isShining_40 : decode cX5_isShining 40 = .ok (.aload_n 0, 1) := by decide +kernel
theorem dX5_isShining_41 : decode cX5_isShining 41 = .ok (.getfield 9, 3) := by decide +kernel
theorem dX5_isShining_44 : decode cX5_isShining 44 = .ok (.iconst 4, 1) := by decide +kernel
theorem dX5_isShining_45 : decode cX5_isShining 45 = .ok (.iaload, 1) := by decide +kernel
theorem dX5_isShining_46 : decode cX5_isShining 46 = .ok (.bipush 6, 2) := by decide +kernel
theorem dX5_isShining_48 : decode cX5_isShining 48 = .ok (.if_icmp .le 7, 3) := by decide +kernel
theorem dX5_isShining_51 : decode cX5_isShining 51 = .ok (.iconst 1, 1) := by decide +kernel
theorem dX5_isShining_52 : decode cX5_isShining 52 = .ok (.goto 4, 3) := by decide +kernel
theorem dX5_isShining_55 : decode cX5_isShining 55 = .ok (.iconst 0, 1) := by decide +kernel
theorem dX5_isShining_56 : decode cX5_isShining 56 = .ok (.ireturn, 1) := by decide +kernel
theorem dX5_faultsNow_0 : decode cX5_faultsNow 0 = .ok (.aload_n 0, 1) := by decide +kernel
theorem dX5_faultsNow_1 : decode cX5_faultsNow 1 = .ok (.iload_n 1, 1) := by decide +kernel
theorem dX5_faultsNow_2 : decode cX5_faultsNow 2 = .ok (.invokevirtual 112, 3) := by decide +kernel
theorem dX5_faultsNow_5 : decode cX5_faultsNow 5 = .ok (.aload_n 0, 1) := by decide +kernel
theorem dX5_faultsNow_6 : decode cX5_faultsNow 6 = .ok (.iload_n 1, 1) := by decide +kernel
theorem dX5_faultsNow_7 : decode cX5_faultsNow 7 = .ok (.invokevirtual 115, 3) := by decide +kernel
theorem dX5_faultsNow_10 : decode cX5_faultsNow 10 = .ok (.if_icmp .le 7, 3) := by decide +kernel
theorem dX5_faultsNow_13 : decode cX5_faultsNow 13 = .ok (.iconst 1, 1) := by decide +kernel
theorem dX5_faultsNow_14 : decode cX5_faultsNow 14 = .ok (.goto 4, 3) := by decide +kernel
theorem dX5_faultsNow_17 : decode cX5_faultsNow 17 = .ok (.iconst 0, 1) := by decide +kernel
theorem dX5_faultsNow_18 : decode cX5_faultsNow 18 = .ok (.istore_n 3, 1) := by decide +kernel
theorem dX5_faultsNow_19 : decode cX5_faultsNow 19 = .ok (.iload_n 3, 1) := by decide +kernel
theorem dX5_faultsNow_20 : decode cX5_faultsNow 20 = .ok (.aload_n 0, 1) := by decide +kernel
theorem dX5_faultsNow_21 : decode cX5_faultsNow 21 = .ok (.iload_n 1, 1) := by decide +kernel
theorem dX5_faultsNow_22 : decode cX5_faultsNow 22 = .ok (.iload_n 2, 1) := by decide +kernel
theorem dX5_faultsNow_23 : decode cX5_faultsNow 23 = .ok (.invokevirtual 118, 3) := by decide +kernel
theorem dX5_faultsNow_26 : decode cX5_faultsNow 26 = .ok (.ifCond .eq 7, 3) := by decide +kernel
theorem dX5_faultsNow_29 : decode cX5_faultsNow 29 = .ok (.iconst 2, 1) := by decide +kernel
theorem dX5_faultsNow_30 : decode cX5_faultsNow 30 = .ok (.goto 4, 3) := by decide +kernel
theorem dX5_faultsNow_33 : decode cX5_faultsNow 33 = .ok (.iconst 0, 1) := by decide +kernel
theorem dX5_faultsNow_34 : decode cX5_faultsNow 34 = .ok (.ior, 1) := by decide +kernel
theorem dX5_faultsNow_35 : decode cX5_faultsNow 35 = .ok (.istore_n 3, 1) := by decide +kernel
theorem dX5_faultsNow_36 : decode cX5_faultsNow 36 = .ok (.iload_n 3, 1) := by decide +kernel
theorem dX5_faultsNow_37 : decode cX5_faultsNow 37 = .ok (.aload_n 0, 1) := by decide +kernel
theorem dX5_faultsNow_38 : decode cX5_faultsNow 38 = .ok (.iload_n 1, 1) := by decide +kernel
theorem dX5_faultsNow_39 : decode cX5_faultsNow 39 = .ok (.iload_n 2, 1) := by decide +kernel
theorem dX5_faultsNow_40 : decode cX5_faultsNow 40 = .ok (.invokevirtual 121, 3) := by decide +kernel
theorem dX5_faultsNow_43 : decode cX5_faultsNow 43 = .ok (.ifCond .eq 7, 3) := by decide +kernel
theorem dX5_faultsNow_46 : decode cX5_faultsNow 46 = .ok (.iconst 4, 1) := by decide +kernel
theorem dX5_faultsNow_47 : decode cX5_faultsNow 47 = .ok (.goto 4, 3) := by decide +kernel
theorem dX5_faultsNow_50 : decode cX5_faultsNow 50 = .ok (.iconst 0, 1) := by decide +kernel
theorem dX5_faultsNow_51 : decode cX5_faultsNow 51 = .ok (.ior, 1) := by decide +kernel
theorem dX5_faultsNow_52 : decode cX5_faultsNow 52 = .ok (.istore_n 3, 1) := by decide +kernel
theorem dX5_faultsNow_53 : decode cX5_faultsNow 53 = .ok (.iload_n 3, 1) := by decide +kernel
theorem dX5_faultsNow_54 : decode cX5_faultsNow 54 = .ok (.aload_n 0, 1) := by decide +kernel
theorem dX5_faultsNow_55 : decode cX5_faultsNow 55 = .ok (.iload_n 1, 1) := by decide +kernel
theorem dX5_faultsNow_56 : decode cX5_faultsNow 56 = .ok (.invokevirtual 124, 3) := by decide +kernel
theorem dX5_faultsNow_59 : decode cX5_faultsNow 59 = .ok (.ifCond .eq 8, 3) := by decide +kernel
theorem dX5_faultsNow_62 : decode cX5_faultsNow 62 = .ok (.bipush 8, 2) := by decide +kernel
theorem dX5_faultsNow_64 : decode cX5_faultsNow 64 = .ok (.goto 4, 3) := by decide +kernel
theorem dX5_faultsNow_67 : decode cX5_faultsNow 67 = .ok (.iconst 0, 1) := by decide +kernel
theorem dX5_faultsNow_68 : decode cX5_faultsNow 68 = .ok (.ior, 1) := by decide +kernel
theorem dX5_faultsNow_69 : decode cX5_faultsNow 69 = .ok (.istore_n 3, 1) := by decide +kernel
theorem dX5_faultsNow_70 : decode cX5_faultsNow 70 = .ok (.iload_n 3, 1) := by decide +kernel
theorem dX5_faultsNow_71 : decode cX5_faultsNow 71 = .ok (.aload_n 0, 1) := by decide +kernel
theorem dX5_faultsNow_72 : decode cX5_faultsNow 72 = .ok (.getfield 9, 3) := by decide +kernel
theorem dX5_faultsNow_75 : decode cX5_faultsNow 75 = .ok (.iconst 4, 1) := by decide +kernel
theorem dX5_faultsNow_76 : decode cX5_faultsNow 76 = .ok (.iaload, 1) := by decide +kernel
theorem dX5_faultsNow_77 : decode cX5_faultsNow 77 = .ok (.iconst 2, 1) := by decide +kernel
theorem dX5_faultsNow_78 : decode cX5_faultsNow 78 = .ok (.if_icmp .ge 8, 3) := by decide +kernel
theorem dX5_faultsNow_81 : decode cX5_faultsNow 81 = .ok (.bipush 16, 2) := by decide +kernel
theorem dX5_faultsNow_83 : decode cX5_faultsNow 83 = .ok (.goto 4, 3) := by decide +kernel
theorem dX5_faultsNow_86 : decode cX5_faultsNow 86 = .ok (.iconst 0, 1) := by decide +kernel
theorem dX5_faultsNow_87 : decode cX5_faultsNow 87 = .ok (.ior, 1) := by decide +kernel
theorem dX5_faultsNow_88 : decode cX5_faultsNow 88 = .ok (.ireturn, 1) := by decide +kernel
theorem dX5_of_0 : decode cX5_of 0 = .ok (.aload_n 0, 1) := by decide +kernel
theorem dX5_of_1 : decode cX5_of 1 = .ok (.iload_n 1, 1) := by decide +kernel
theorem dX5_of_2 : decode cX5_of 2 = .ok (.invokevirtual 83, 3) := by decide +kernel
theorem dX5_of_5 : decode cX5_of 5 = .ok (.ifCond .eq 13, 3) := by decide +kernel
theorem dX5_of_8 : decode cX5_of 8 = .ok (.iload_n 2, 1) := by decide +kernel
theorem dX5_of_9 : decode cX5_of 9 = .ok (.iconst 0, 1) := by decide +kernel
theorem dX5_of_10 : decode cX5_of 10 = .ok (.bipush 8, 2) := by decide +kernel
theorem dX5_of_12 : decode cX5_of 12 = .ok (.invokestatic 70, 3) := by decide +kernel
theorem dX5_of_15 : decode cX5_of 15 = .ok (.ifCond .ne 10, 3) := by decide +kernel
theorem dX5_of_18 : decode cX5_of 18 = .ok (.aload_n 0, 1) := by decide +kernel
theorem dX5_of_19 : decode cX5_of 19 = .ok (.ldc 60, 2) := by decide +kernel
theorem dX5_of_21 : decode cX5_of 21 = .ok (.invokevirtual 66, 3) := by decide +kernel
theorem dX5_of_24 : decode cX5_of 24 = .ok (.ireturn, 1) := by decide +kernel
theorem dX5_of_25 : decode cX5_of 25 = .ok (.iload_n 2, 1) := by decide +kernel
theorem dX5_of_26 : decode cX5_of 26 = .ok (.bipush 7, 2) := by decide +kernel
theorem dX5_of_28 : decode cX5_of 28 = .ok (.if_icmp .ge 12, 3) := by decide +kernel
theorem dX5_of_31 : decode cX5_of 31 = .ok (.aload_n 0, 1) := by decide +kernel
theorem dX5_of_32 : decode cX5_of 32 = .ok (.iload_n 1, 1) := by decide +kernel
theorem dX5_of_33 : decode cX5_of 33 = .ok (.iload_n 2, 1) := by decide +kernel
theorem dX5_of_34 : decode cX5_of 34 = .ok (.invokevirtual 104, 3) := by decide +kernel
theorem dX5_of_37 : decode cX5_of 37 = .ok (.goto 22, 3) := by decide +kernel
theorem dX5_of_40 : decode cX5_of 40 = .ok (.iload_n 2, 1) := by decide +kernel
theorem dX5_of_41 : decode cX5_of 41 = .ok (.bipush 7, 2) := by decide +kernel
theorem dX5_of_43 : decode cX5_of 43 = .ok (.if_icmp .ne 11, 3) := by decide +kernel
theorem dX5_of_46 : decode cX5_of 46 = .ok (.aload_n 0, 1) := by decide +kernel
theorem dX5_of_47 : decode cX5_of 47 = .ok (.iload_n 1, 1) := by decide +kernel
theorem dX5_of_48 : decode cX5_of 48 = .ok (.invokevirtual 112, 3) := by decide +kernel
theorem dX5_of_51 : decode cX5_of 51 = .ok (.goto 8, 3) := by decide +kernel
theorem dX5_of_54 : decode cX5_of 54 = .ok (.aload_n 0, 1) := by decide +kernel
theorem dX5_of_55 : decode cX5_of 55 = .ok (.iload_n 1, 1) := by decide +kernel
theorem dX5_of_56 : decode cX5_of 56 = .ok (.invokevirtual 115, 3) := by decide +kernel
theorem dX5_of_59 : decode cX5_of 59 = .ok (.ireturn, 1) := by decide +kernel
theorem dX5_isField_0 : decode cX5_isField 0 = .ok (.iload_n 0, 1) := by decide +kernel
theorem dX5_isField_1 : decode cX5_isField 1 = .ok (.tableswitch 82 0 6 #[43, 48, 56, 56, 64, 64, 73], 43) := by decide +kernel
theorem dX5_isField_44 : decode cX5_isField 44 = .ok (.iload_n 1, 1) := by decide +kernel
theorem dX5_isField_45 : decode cX5_isField 45 = .ok (.invokestatic 96, 3) := by decide +kernel
theorem dX5_isField_48 : decode cX5_isField 48 = .ok (.ireturn, 1) := by decide +kernel
theorem dX5_isField_49 : decode cX5_isField 49 = .ok (.iload_n 1, 1) := by decide +kernel
theorem dX5_isField_50 : decode cX5_isField 50 = .ok (.iconst 0, 1) := by decide +kernel
theorem dX5_isField_51 : decode cX5_isField 51 = .ok (.bipush 90, 2) := by decide +kernel
theorem dX5_isField_53 : decode cX5_isField 53 = .ok (.invokestatic 70, 3) := by decide +kernel
theorem dX5_isField_56 : decode cX5_isField 56 = .ok (.ireturn, 1) := by decide +kernel
theorem dX5_isField_57 : decode cX5_isField 57 = .ok (.iload_n 1, 1) := by decide +kernel
theorem dX5_isField_58 : decode cX5_isField 58 = .ok (.iconst 0, 1) := by decide +kernel
theorem dX5_isField_59 : decode cX5_isField 59 = .ok (.bipush 9, 2) := by decide +kernel
theorem dX5_isField_61 : decode cX5_isField 61 = .ok (.invokestatic 70, 3) := by decide +kernel
theorem dX5_isField_64 : decode cX5_isField 64 = .ok (.ireturn, 1) := by decide +kernel
theorem dX5_isField_65 : decode cX5_isField 65 = .ok (.iload_n 1, 1) := by decide +kernel
theorem dX5_isField_66 : decode cX5_isField 66 = .ok (.iconst 0, 1) := by decide +kernel
theorem dX5_isField_67 : decode cX5_isField 67 = .ok (.sipush 999, 3) := by decide +kernel
theorem dX5_isField_70 : decode cX5_isField 70 = .ok (.invokestatic 70, 3) := by decide +kernel
theorem dX5_isField_73 : decode cX5_isField 73 = .ok (.ireturn, 1) := by decide +kernel
theorem dX5_isField_74 : decode cX5_isField 74 = .ok (.iload_n 1, 1) := by decide +kernel
theorem dX5_isField_75 : decode cX5_isField 75 = .ok (.iconst 0, 1) := by decide +kernel
theorem dX5_isField_76 : decode cX5_isField 76 = .ok (.sipush 9999, 3) := by decide +kernel
theorem dX5_isField_79 : decode cX5_isField 79 = .ok (.invokestatic 70, 3) := by decide +kernel
theorem dX5_isField_82 : decode cX5_isField 82 = .ok (.ireturn, 1) := by decide +kernel
theorem dX5_isField_83 : decode cX5_isField 83 = .ok (.iconst 0, 1) := by decide +kernel
theorem dX5_isField_84 : decode cX5_isField 84 = .ok (.ireturn, 1) := by decide +kernel
theorem dX5_change_0 : decode cX5_change 0 = .ok (.aload_n 0, 1) := by decide +kernel
theorem dX5_change_1 : decode cX5_change 1 = .ok (.iload_n 1, 1) := by decide +kernel
theorem dX5_change_2 : decode cX5_change 2 = .ok (.invokevirtual 83, 3) := by decide +kernel
theorem dX5_change_5 : decode cX5_change 5 = .ok (.ifCond .eq 24, 3) := by decide +kernel
theorem dX5_change_8 : decode cX5_change 8 = .ok (.iload_n 2, 1) := by decide +kernel
theorem dX5_change_9 : decode cX5_change 9 = .ok (.iload_n 3, 1) := by decide +kernel
theorem dX5_change_10 : decode cX5_change 10 = .ok (.invokestatic 127, 3) := by decide +kernel
theorem dX5_change_13 : decode cX5_change 13 = .ok (.ifCond .eq 16, 3) := by decide +kernel
theorem dX5_change_16 : decode cX5_change 16 = .ok (.aload_n 0, 1) := by decide +kernel
theorem dX5_change_17 : decode cX5_change 17 = .ok (.iload_n 1, 1) := by decide +kernel
theorem dX5_change_18 : decode cX5_change 18 = .ok (.iload_n 2, 1) := by decide +kernel
theorem dX5_change_19 : decode cX5_change 19 = .ok (.invokestatic 93, 3) := by decide +kernel
theorem dX5_change_22 : decode cX5_change 22 = .ok (.iload_n 3, 1) := by decide +kernel
theorem dX5_change_23 : decode cX5_change 23 = .ok (.invokevirtual 79, 3) := by decide +kernel
theorem dX5_change_26 : decode cX5_change 26 = .ok (.goto 9, 3) := by decide +kernel
theorem dX5_change_29 : decode cX5_change 29 = .ok (.aload_n 0, 1) := by decide +kernel
theorem dX5_change_30 : decode cX5_change 30 = .ok (.ldc 60, 2) := by decide +kernel
theorem dX5_change_32 : decode cX5_change 32 = .ok (.invokevirtual 66, 3) := by decide +kernel
theorem dX5_change_35 : decode cX5_change 35 = .ok (.ireturn, 1) := by decide +kernel
theorem dX5_isFlash_0 : decode cX5_isFlash 0 = .ok (.iload_n 0, 1) := by decide +kernel
theorem dX5_isFlash_1 : decode cX5_isFlash 1 = .ok (.iconst 0, 1) := by decide +kernel
theorem dX5_isFlash_2 : decode cX5_isFlash 2 = .ok (.iconst 3, 1) := by decide +kernel
theorem dX5_isFlash_3 : decode cX5_isFlash 3 = .ok (.invokestatic 70, 3) := by decide +kernel
theorem dX5_isFlash_6 : decode cX5_isFlash 6 = .ok (.ireturn, 1) := by decide +kernel
theorem dX5_faults_0 : decode cX5_faults 0 = .ok (.aload_n 0, 1) := by decide +kernel
theorem dX5_faults_1 : decode cX5_faults 1 = .ok (.iload_n 1, 1) := by decide +kernel
theorem dX5_faults_2 : decode cX5_faults 2 = .ok (.invokevirtual 83, 3) := by decide +kernel
theorem dX5_faults_5 : decode cX5_faults 5 = .ok (.ifCond .eq 19, 3) := by decide +kernel
theorem dX5_faults_8 : decode cX5_faults 8 = .ok (.iload_n 2, 1) := by decide +kernel
theorem dX5_faults_9 : decode cX5_faults 9 = .ok (.invokestatic 130, 3) := by decide +kernel
theorem dX5_faults_12 : decode cX5_faults 12 = .ok (.ifCond .eq 12, 3) := by decide +kernel
theorem dX5_faults_15 : decode cX5_faults 15 = .ok (.aload_n 0, 1) := by decide +kernel
theorem dX5_faults_16 : decode cX5_faults 16 = .ok (.iload_n 1, 1) := by decide +kernel
theorem dX5_faults_17 : decode cX5_faults 17 = .ok (.iload_n 2, 1) := by decide +kernel
theorem dX5_faults_18 : decode cX5_faults 18 = .ok (.invokevirtual 133, 3) := by decide +kernel
theorem dX5_faults_21 : decode cX5_faults 21 = .ok (.goto 9, 3) := by decide +kernel
theorem dX5_faults_24 : decode cX5_faults 24 = .ok (.aload_n 0, 1) := by decide +kernel
theorem dX5_faults_25 : decode cX5_faults 25 = .ok (.ldc 60, 2) := by decide +kernel
theorem dX5_faults_27 : decode cX5_faults 27 = .ok (.invokevirtual 66, 3) := by decide +kernel
theorem dX5_faults_30 : decode cX5_faults 30 = .ok (.ireturn, 1) := by decide +kernel
theorem dX5_best_0 : decode cX5_best 0 = .ok (.aload_n 0, 1) := by decide +kernel
theorem dX5_best_1 : decode cX5_best 1 = .ok (.iload_n 1, 1) := by decide +kernel
theorem dX5_best_2 : decode cX5_best 2 = .ok (.invokevirtual 83, 3) := by decide +kernel
theorem dX5_best_5 : decode cX5_best 5 = .ok (.ifCond .ne 10, 3) := by decide +kernel
theorem dX5_best_8 : decode cX5_best 8 = .ok (.aload_n 0, 1) := by decide +kernel
theorem dX5_best_9 : decode cX5_best 9 = .ok (.ldc 60, 2) := by decide +kernel
theorem dX5_best_11 : decode cX5_best 11 = .ok (.invokevirtual 66, 3) := by decide +kernel
theorem dX5_best_14 : decode cX5_best 14 = .ok (.ireturn, 1) := by decide +kernel
theorem dX5_best_15 : decode cX5_best 15 = .ok (.iconst 0, 1) := by decide +kernel
theorem dX5_best_16 : decode cX5_best 16 = .ok (.istore_n 2, 1) := by decide +kernel
theorem dX5_best_17 : decode cX5_best 17 = .ok (.iconst 1, 1) := by decide +kernel
theorem dX5_best_18 : decode cX5_best 18 = .ok (.istore_n 3, 1) := by decide +kernel
theorem dX5_best_19 : decode cX5_best 19 = .ok (.iload_n 3, 1) := by decide +kernel
theorem dX5_best_20 : decode cX5_best 20 = .ok (.iconst 4, 1) := by decide +kernel
theorem dX5_best_21 : decode cX5_best 21 = .ok (.if_icmp .ge 36, 3) := by decide +kernel
theorem dX5_best_24 : decode cX5_best 24 = .ok (.aload_n 0, 1) := by decide +kernel
theorem dX5_best_25 : decode cX5_best 25 = .ok (.iload_n 1, 1) := by decide +kernel
theorem dX5_best_26 : decode cX5_best 26 = .ok (.iload_n 3, 1) := by decide +kernel
theorem dX5_best_27 : decode cX5_best 27 = .ok (.invokevirtual 133, 3) := by decide +kernel
theorem dX5_best_30 : decode cX5_best 30 = .ok (.invokestatic 136, 3) := by decide +kernel
theorem dX5_best_33 : decode cX5_best 33 = .ok (.aload_n 0, 1) := by decide +kernel
theorem dX5_best_34 : decode cX5_best 34 = .ok (.iload_n 1, 1) := by decide +kernel
theorem dX5_best_35 : decode cX5_best 35 = .ok (.iload_n 2, 1) := by decide +kernel
theorem dX5_best_36 : decode cX5_best 36 = .ok (.invokevirtual 133, 3) := by decide +kernel
theorem dX5_best_39 : decode cX5_best 39 = .ok (.invokestatic 136, 3) := by decide +kernel
theorem dX5_best_42 : decode cX5_best 42 = .ok (.if_icmp .ge 7, 3) := by decide +kernel
theorem dX5_best_45 : decode cX5_best 45 = .ok (.iload_n 3, 1) := by decide +kernel
theorem dX5_best_46 : decode cX5_best 46 = .ok (.goto 4, 3) := by decide +kernel
theorem dX5_best_49 : decode cX5_best 49 = .ok (.iload_n 2, 1) := by decide +kernel
theorem dX5_best_50 : decode cX5_best 50 = .ok (.istore_n 2, 1) := by decide +kernel
theorem dX5_best_51 : decode cX5_best 51 = .ok (.iinc 3 1, 3) := by decide +kernel
theorem dX5_best_54 : decode cX5_best 54 = .ok (.goto (-35), 3) := by decide +kernel
theorem dX5_best_57 : decode cX5_best 57 = .ok (.iload_n 2, 1) := by decide +kernel
theorem dX5_best_58 : decode cX5_best 58 = .ok (.ireturn, 1) := by decide +kernel
theorem dX5_isGood_0 : decode cX5_isGood 0 = .ok (.iconst 0, 1) := by decide +kernel
theorem dX5_isGood_1 : decode cX5_isGood 1 = .ok (.istore_n 2, 1) := by decide +kernel
theorem dX5_isGood_2 : decode cX5_isGood 2 = .ok (.iconst 0, 1) := by decide +kernel
theorem dX5_isGood_3 : decode cX5_isGood 3 = .ok (.istore_n 3, 1) := by decide +kernel
theorem dX5_isGood_4 : decode cX5_isGood 4 = .ok (.iload_n 3, 1) := by decide +kernel
theorem dX5_isGood_5 : decode cX5_isGood 5 = .ok (.iconst 4, 1) := by decide +kernel
theorem dX5_isGood_6 : decode cX5_isGood 6 = .ok (.if_icmp .ge 28, 3) := by decide +kernel
theorem dX5_isGood_9 : decode cX5_isGood 9 = .ok (.iload_n 2, 1) := by decide +kernel
theorem dX5_isGood_10 : decode cX5_isGood 10 = .ok (.ifCond .ne 12, 3) := by decide +kernel
theorem dX5_isGood_13 : decode cX5_isGood 13 = .ok (.aload_n 0, 1) := by decide +kernel
theorem dX5_isGood_14 : decode cX5_isGood 14 = .ok (.iload_n 1, 1) := by decide +kernel
theorem dX5_isGood_15 : decode cX5_isGood 15 = .ok (.iload_n 3, 1) := by decide +kernel
theorem dX5_isGood_16 : decode cX5_isGood 16 = .ok (.invokevirtual 133, 3) := by decide +kernel
theorem dX5_isGood_19 : decode cX5_isGood 19 = .ok (.ifCond .ne 7, 3) := by decide +kernel
theorem dX5_isGood_22 : decode cX5_isGood 22 = .ok (.iconst 1, 1) := by decide +kernel
theorem dX5_isGood_23 : decode cX5_isGood 23 = .ok (.goto 4, 3) := by decide +kernel
theorem dX5_isGood_26 : decode cX5_isGood 26 = .ok (.iconst 0, 1) := by decide +kernel
theorem dX5_isGood_27 : decode cX5_isGood 27 = .ok (.istore_n 2, 1) := by decide +kernel
theorem dX5_isGood_28 : decode cX5_isGood 28 = .ok (.iinc 3 1, 3) := by decide +kernel
theorem dX5_isGood_31 : decode cX5_isGood 31 = .ok (.goto (-27), 3) := by decide +kernel
theorem dX5_isGood_34 : decode cX5_isGood 34 = .ok (.iload_n 2, 1) := by decide +kernel
theorem dX5_isGood_35 : decode cX5_isGood 35 = .ok (.ireturn, 1) := by decide +kernel
theorem dX5_turnsStool_0 : decode cX5_turnsStool 0 = .ok (.iconst 0, 1) := by decide +kernel
theorem dX5_turnsStool_1 : decode cX5_turnsStool 1 = .ok (.bipush 60, 2) := by decide +kernel
theorem dX5_turnsStool_3 : decode cX5_turnsStool 3 = .ok (.bipush 80, 2) := by decide +kernel
theorem dX5_turnsStool_5 : decode cX5_turnsStool 5 = .ok (.iload_n 1, 1) := by decide +kernel
theorem dX5_turnsStool_6 : decode cX5_turnsStool 6 = .ok (.isub, 1) := by decide +kernel
theorem dX5_turnsStool_7 : decode cX5_turnsStool 7 = .ok (.invokestatic 139, 3) := by decide +kernel
theorem dX5_turnsStool_10 : decode cX5_turnsStool 10 = .ok (.invokestatic 142, 3) := by decide +kernel
theorem dX5_turnsStool_13 : decode cX5_turnsStool 13 = .ok (.istore_n 2, 1) := by decide +kernel
theorem dX5_turnsStool_14 : decode cX5_turnsStool 14 = .ok (.iload_n 2, 1) := by decide +kernel
theorem dX5_turnsStool_15 : decode cX5_turnsStool 15 = .ok (.aload_n 0, 1) := by decide +kernel
theorem dX5_turnsStool_16 : decode cX5_turnsStool 16 = .ok (.getfield 9, 3) := by decide +kernel
theorem dX5_turnsStool_19 : decode cX5_turnsStool 19 = .ok (.iconst 3, 1) := by decide +kernel
theorem dX5_turnsStool_20 : decode cX5_turnsStool 20 = .ok (.iaload, 1) := by decide +kernel
theorem dX5_turnsStool_21 : decode cX5_turnsStool 21 = .ok (.isub, 1) := by decide +kernel
theorem dX5_turnsStool_22 : decode cX5_turnsStool 22 = .ok (.istore_n 3, 1) := by decide +kernel
theorem dX5_turnsStool_23 : decode cX5_turnsStool 23 = .ok (.aload_n 0, 1) := by decide +kernel
theorem dX5_turnsStool_24 : decode cX5_turnsStool 24 = .ok (.getfield 9, 3) := by decide +kernel
theorem dX5_turnsStool_27 : decode cX5_turnsStool 27 = .ok (.iconst 3, 1) := by decide +kernel
theorem dX5_turnsStool_28 : decode cX5_turnsStool 28 = .ok (.dup2, 1) := by decide +kernel
theorem dX5_turnsStool_29 : decode cX5_turnsStool 29 = .ok (.iaload, 1) := by decide +kernel
theorem dX5_turnsStool_30 : decode cX5_turnsStool 30 = .ok (.bipush (-4), 2) := by decide +kernel
theorem dX5_turnsStool_32 : decode cX5_turnsStool 32 = .ok (.iconst 4, 1) := by decide +kernel
theorem dX5_turnsStool_33 : decode cX5_turnsStool 33 = .ok (.iload_n 3, 1) := by decide +kernel
theorem dX5_turnsStool_34 : decode cX5_turnsStool 34 = .ok (.invokestatic 139, 3) := by decide +kernel
theorem dX5_turnsStool_37 : decode cX5_turnsStool 37 = .ok (.invokestatic 142, 3) := by decide +kernel
theorem dX5_turnsStool_40 : decode cX5_turnsStool 40 = .ok (.iadd, 1) := by decide +kernel
theorem dX5_turnsStool_41 : decode cX5_turnsStool 41 = .ok (.iastore, 1) := by decide +kernel
theorem dX5_turnsStool_42 : decode cX5_turnsStool 42 = .ok (.return_, 1) := by decide +kernel
theorem dX5_sits_0 : decode cX5_sits 0 = .ok (.aload_n 0, 1) := by decide +kernel
theorem dX5_sits_1 : decode cX5_sits 1 = .ok (.getfield 9, 3) := by decide +kernel
theorem dX5_sits_4 : decode cX5_sits 4 = .ok (.iload_n 1, 1) := by decide +kernel
theorem dX5_sits_5 : decode cX5_sits 5 = .ok (.iconst 4, 1) := by decide +kernel
theorem dX5_sits_6 : decode cX5_sits 6 = .ok (.invokestatic 93, 3) := by decide +kernel
theorem dX5_sits_9 : decode cX5_sits 9 = .ok (.dup2, 1) := by decide +kernel
theorem dX5_sits_10 : decode cX5_sits 10 = .ok (.iaload, 1) := by decide +kernel
theorem dX5_sits_11 : decode cX5_sits 11 = .ok (.aload_n 0, 1) := by decide +kernel
theorem dX5_sits_12 : decode cX5_sits 12 = .ok (.getfield 9, 3) := by decide +kernel
theorem dX5_sits_15 : decode cX5_sits 15 = .ok (.iconst 5, 1) := by decide +kernel
theorem dX5_sits_16 : decode cX5_sits 16 = .ok (.iaload, 1) := by decide +kernel
theorem dX5_sits_17 : decode cX5_sits 17 = .ok (.isub, 1) := by decide +kernel
theorem dX5_sits_18 : decode cX5_sits 18 = .ok (.iastore, 1) := by decide +kernel
theorem dX5_sits_19 : decode cX5_sits 19 = .ok (.aload_n 0, 1) := by decide +kernel
theorem dX5_sits_20 : decode cX5_sits 20 = .ok (.getfield 9, 3) := by decide +kernel
theorem dX5_sits_23 : decode cX5_sits 23 = .ok (.bipush 6, 2) := by decide +kernel
theorem dX5_sits_25 : decode cX5_sits 25 = .ok (.ldc 74, 2) := by decide +kernel
theorem dX5_sits_27 : decode cX5_sits 27 = .ok (.aload_n 0, 1) := by decide +kernel
theorem dX5_sits_28 : decode cX5_sits 28 = .ok (.getfield 9, 3) := by decide +kernel
theorem dX5_sits_31 : decode cX5_sits 31 = .ok (.bipush 6, 2) := by decide +kernel
theorem dX5_sits_33 : decode cX5_sits 33 = .ok (.iaload, 1) := by decide +kernel
theorem dX5_sits_34 : decode cX5_sits 34 = .ok (.aload_n 0, 1) := by decide +kernel
theorem dX5_sits_35 : decode cX5_sits 35 = .ok (.getfield 9, 3) := by decide +kernel
theorem dX5_sits_38 : decode cX5_sits 38 = .ok (.iconst 5, 1) := by decide +kernel
theorem dX5_sits_39 : decode cX5_sits 39 = .ok (.iaload, 1) := by decide +kernel
theorem dX5_sits_40 : decode cX5_sits 40 = .ok (.iadd, 1) := by decide +kernel
theorem dX5_sits_41 : decode cX5_sits 41 = .ok (.invokestatic 139, 3) := by decide +kernel
theorem dX5_sits_44 : decode cX5_sits 44 = .ok (.iastore, 1) := by decide +kernel
theorem dX5_sits_45 : decode cX5_sits 45 = .ok (.aload_n 0, 1) := by decide +kernel
theorem dX5_sits_46 : decode cX5_sits 46 = .ok (.getfield 9, 3) := by decide +kernel
theorem dX5_sits_49 : decode cX5_sits 49 = .ok (.iload_n 1, 1) := by decide +kernel
theorem dX5_sits_50 : decode cX5_sits 50 = .ok (.bipush 6, 2) := by decide +kernel
theorem dX5_sits_52 : decode cX5_sits 52 = .ok (.invokestatic 93, 3) := by decide +kernel
theorem dX5_sits_55 : decode cX5_sits 55 = .ok (.sipush 9999, 3) := by decide +kernel
theorem dX5_sits_58 : decode cX5_sits 58 = .ok (.aload_n 0, 1) := by decide +kernel
theorem dX5_sits_59 : decode cX5_sits 59 = .ok (.iload_n 1, 1) := by decide +kernel
theorem dX5_sits_60 : decode cX5_sits 60 = .ok (.bipush 6, 2) := by decide +kernel
theorem dX5_sits_62 : decode cX5_sits 62 = .ok (.invokevirtual 104, 3) := by decide +kernel
theorem dX5_sits_65 : decode cX5_sits 65 = .ok (.iconst 1, 1) := by decide +kernel
theorem dX5_sits_66 : decode cX5_sits 66 = .ok (.iadd, 1) := by decide +kernel
theorem dX5_sits_67 : decode cX5_sits 67 = .ok (.invokestatic 139, 3) := by decide +kernel
theorem dX5_sits_70 : decode cX5_sits 70 = .ok (.iastore, 1) := by decide +kernel
theorem dX5_sits_71 : decode cX5_sits 71 = .ok (.aload_n 0, 1) := by decide +kernel
theorem dX5_sits_72 : decode cX5_sits 72 = .ok (.aload_n 0, 1) := by decide +kernel
theorem dX5_sits_73 : decode cX5_sits 73 = .ok (.iload_n 1, 1) := by decide +kernel
theorem dX5_sits_74 : decode cX5_sits 74 = .ok (.iconst 1, 1) := by decide +kernel
theorem dX5_sits_75 : decode cX5_sits 75 = .ok (.invokevirtual 104, 3) := by decide +kernel
theorem dX5_sits_78 : decode cX5_sits 78 = .ok (.invokevirtual 145, 3) := by decide +kernel
theorem dX5_sits_81 : decode cX5_sits 81 = .ok (.aload_n 0, 1) := by decide +kernel
theorem dX5_sits_82 : decode cX5_sits 82 = .ok (.iload_n 1, 1) := by decide +kernel
theorem dX5_sits_83 : decode cX5_sits 83 = .ok (.invokevirtual 149, 3) := by decide +kernel
theorem dX5_sits_86 : decode cX5_sits 86 = .ok (.ifCond .eq 53, 3) := by decide +kernel
theorem dX5_sits_89 : decode cX5_sits 89 = .ok (.aload_n 0, 1) := by decide +kernel
theorem dX5_sits_90 : decode cX5_sits 90 = .ok (.getfield 9, 3) := by decide +kernel
theorem dX5_sits_93 : decode cX5_sits 93 = .ok (.iload_n 1, 1) := by decide +kernel
theorem dX5_sits_94 : decode cX5_sits 94 = .ok (.iconst 5, 1) := by decide +kernel
theorem dX5_sits_95 : decode cX5_sits 95 = .ok (.invokestatic 93, 3) := by decide +kernel
theorem dX5_sits_98 : decode cX5_sits 98 = .ok (.sipush 999, 3) := by decide +kernel
theorem dX5_sits_101 : decode cX5_sits 101 = .ok (.aload_n 0, 1) := by decide +kernel
theorem dX5_sits_102 : decode cX5_sits 102 = .ok (.iload_n 1, 1) := by decide +kernel
theorem dX5_sits_103 : decode cX5_sits 103 = .ok (.iconst 5, 1) := by decide +kernel
theorem dX5_sits_104 : decode cX5_sits 104 = .ok (.invokevirtual 104, 3) := by decide +kernel
theorem dX5_sits_107 : decode cX5_sits 107 = .ok (.iconst 1, 1) := by decide +kernel
theorem dX5_sits_108 : decode cX5_sits 108 = .ok (.iadd, 1) := by decide +kernel
theorem dX5_sits_109 : decode cX5_sits 109 = .ok (.invokestatic 139, 3) := by decide +kernel
theorem dX5_sits_112 : decode cX5_sits 112 = .ok (.iastore, 1) := by decide +kernel
theorem dX5_sits_113 : decode cX5_sits 113 = .ok (.aload_n 0, 1) := by decide +kernel
theorem dX5_sits_114 : decode cX5_sits 114 = .ok (.getfield 9, 3) := by decide +kernel
theorem dX5_sits_117 : decode cX5_sits 117 = .ok (.iload_n 1, 1) := by decide +kernel
theorem dX5_sits_118 : decode cX5_sits 118 = .ok (.iconst 2, 1) := by decide +kernel
theorem dX5_sits_119 : decode cX5_sits 119 = .ok (.invokestatic 93, 3) := by decide +kernel
theorem dX5_sits_122 : decode cX5_sits 122 = .ok (.bipush 9, 2) := by decide +kernel
theorem dX5_sits_124 : decode cX5_sits 124 = .ok (.aload_n 0, 1) := by decide +kernel
theorem dX5_sits_125 : decode cX5_sits 125 = .ok (.iload_n 1, 1) := by decide +kernel
theorem dX5_sits_126 : decode cX5_sits 126 = .ok (.iconst 2, 1) := by decide +kernel
theorem dX5_sits_127 : decode cX5_sits 127 = .ok (.invokevirtual 104, 3) := by decide +kernel
theorem dX5_sits_130 : decode cX5_sits 130 = .ok (.iconst 1, 1) := by decide +kernel
theorem dX5_sits_131 : decode cX5_sits 131 = .ok (.iadd, 1) := by decide +kernel
theorem dX5_sits_132 : decode cX5_sits 132 = .ok (.invokestatic 139, 3) := by decide +kernel
theorem dX5_sits_135 : decode cX5_sits 135 = .ok (.iastore, 1) := by decide +kernel
theorem dX5_sits_136 : decode cX5_sits 136 = .ok (.goto 25, 3) := by decide +kernel
theorem dX5_sits_139 : decode cX5_sits 139 = .ok (.aload_n 0, 1) := by decide +kernel
theorem dX5_sits_140 : decode cX5_sits 140 = .ok (.getfield 9, 3) := by decide +kernel
theorem dX5_sits_143 : decode cX5_sits 143 = .ok (.iload_n 1, 1) := by decide +kernel
theorem dX5_sits_144 : decode cX5_sits 144 = .ok (.iconst 3, 1) := by decide +kernel
theorem dX5_sits_145 : decode cX5_sits 145 = .ok (.invokestatic 93, 3) := by decide +kernel
theorem dX5_sits_148 : decode cX5_sits 148 = .ok (.iconst 0, 1) := by decide +kernel
theorem dX5_sits_149 : decode cX5_sits 149 = .ok (.aload_n 0, 1) := by decide +kernel
theorem dX5_sits_150 : decode cX5_sits 150 = .ok (.iload_n 1, 1) := by decide +kernel
theorem dX5_sits_151 : decode cX5_sits 151 = .ok (.iconst 3, 1) := by decide +kernel
theorem dX5_sits_152 : decode cX5_sits 152 = .ok (.invokevirtual 104, 3) := by decide +kernel
theorem dX5_sits_155 : decode cX5_sits 155 = .ok (.iconst 1, 1) := by decide +kernel
theorem dX5_sits_156 : decode cX5_sits 156 = .ok (.isub, 1) := by decide +kernel
theorem dX5_sits_157 : decode cX5_sits 157 = .ok (.invokestatic 142, 3) := by decide +kernel
theorem dX5_sits_160 : decode cX5_sits 160 = .ok (.iastore, 1) := by decide +kernel
theorem dX5_sits_161 : decode cX5_sits 161 = .ok (.return_, 1) := by decide +kernel
theorem dX5_next_0 : decode cX5_next 0 = .ok (.aload_n 0, 1) := by decide +kernel
theorem dX5_next_1 : decode cX5_next 1 = .ok (.getfield 9, 3) := by decide +kernel
theorem dX5_next_4 : decode cX5_next 4 = .ok (.bipush 17, 2) := by decide +kernel
theorem dX5_next_6 : decode cX5_next 6 = .ok (.aload_n 0, 1) := by decide +kernel
theorem dX5_next_7 : decode cX5_next 7 = .ok (.getfield 9, 3) := by decide +kernel
theorem dX5_next_10 : decode cX5_next 10 = .ok (.iconst 0, 1) := by decide +kernel
theorem dX5_next_11 : decode cX5_next 11 = .ok (.iaload, 1) := by decide +kernel
theorem dX5_next_12 : decode cX5_next 12 = .ok (.bipush 6, 2) := by decide +kernel
theorem dX5_next_14 : decode cX5_next 14 = .ok (.irem, 1) := by decide +kernel
theorem dX5_next_15 : decode cX5_next 15 = .ok (.iadd, 1) := by decide +kernel
theorem dX5_next_16 : decode cX5_next 16 = .ok (.iaload, 1) := by decide +kernel
theorem dX5_next_17 : decode cX5_next 17 = .ok (.ireturn, 1) := by decide +kernel
theorem dX5_minute_0 : decode cX5_minute 0 = .ok (.aload_n 0, 1) := by decide +kernel
theorem dX5_minute_1 : decode cX5_minute 1 = .ok (.invokevirtual 152, 3) := by decide +kernel
theorem dX5_minute_4 : decode cX5_minute 4 = .ok (.istore_n 1, 1) := by decide +kernel
theorem dX5_minute_5 : decode cX5_minute 5 = .ok (.iload_n 1, 1) := by decide +kernel
theorem dX5_minute_6 : decode cX5_minute 6 = .ok (.ifCond .lt 23, 3) := by decide +kernel
theorem dX5_minute_9 : decode cX5_minute 9 = .ok (.aload_n 0, 1) := by decide +kernel
theorem dX5_minute_10 : decode cX5_minute 10 = .ok (.iload_n 1, 1) := by decide +kernel
theorem dX5_minute_11 : decode cX5_minute 11 = .ok (.iconst 4, 1) := by decide +kernel
theorem dX5_minute_12 : decode cX5_minute 12 = .ok (.invokevirtual 104, 3) := by decide +kernel
theorem dX5_minute_15 : decode cX5_minute 15 = .ok (.aload_n 0, 1) := by decide +kernel
theorem dX5_minute_16 : decode cX5_minute 16 = .ok (.getfield 9, 3) := by decide +kernel
theorem dX5_minute_19 : decode cX5_minute 19 = .ok (.iconst 5, 1) := by decide +kernel
theorem dX5_minute_20 : decode cX5_minute 20 = .ok (.iaload, 1) := by decide +kernel
theorem dX5_minute_21 : decode cX5_minute 21 = .ok (.if_icmp .lt 8, 3) := by decide +kernel
theorem dX5_minute_24 : decode cX5_minute 24 = .ok (.aload_n 0, 1) := by decide +kernel
theorem dX5_minute_25 : decode cX5_minute 25 = .ok (.iload_n 1, 1) := by decide +kernel
theorem dX5_minute_26 : decode cX5_minute 26 = .ok (.invokevirtual 156, 3) := by decide +kernel
theorem dX5_minute_29 : decode cX5_minute 29 = .ok (.aload_n 0, 1) := by decide +kernel
theorem dX5_minute_30 : decode cX5_minute 30 = .ok (.getfield 9, 3) := by decide +kernel
theorem dX5_minute_33 : decode cX5_minute 33 = .ok (.iconst 0, 1) := by decide +kernel
theorem dX5_minute_34 : decode cX5_minute 34 = .ok (.dup2, 1) := by decide +kernel
theorem dX5_minute_35 : decode cX5_minute 35 = .ok (.iaload, 1) := by decide +kernel
theorem dX5_minute_36 : decode cX5_minute 36 = .ok (.iconst 1, 1) := by decide +kernel
theorem dX5_minute_37 : decode cX5_minute 37 = .ok (.iadd, 1) := by decide +kernel
theorem dX5_minute_38 : decode cX5_minute 38 = .ok (.iastore, 1) := by decide +kernel
theorem dX5_minute_39 : decode cX5_minute 39 = .ok (.iconst 0, 1) := by decide +kernel
theorem dX5_minute_40 : decode cX5_minute 40 = .ok (.istore_n 2, 1) := by decide +kernel
theorem dX5_minute_41 : decode cX5_minute 41 = .ok (.iload_n 2, 1) := by decide +kernel
theorem dX5_minute_42 : decode cX5_minute 42 = .ok (.aload_n 0, 1) := by decide +kernel
theorem dX5_minute_43 : decode cX5_minute 43 = .ok (.getfield 9, 3) := by decide +kernel
theorem dX5_minute_46 : decode cX5_minute 46 = .ok (.iconst 1, 1) := by decide +kernel
theorem dX5_minute_47 : decode cX5_minute 47 = .ok (.iaload, 1) := by decide +kernel
theorem dX5_minute_48 : decode cX5_minute 48 = .ok (.if_icmp .ge 45, 3) := by decide +kernel
theorem dX5_minute_51 : decode cX5_minute 51 = .ok (.aload_n 0, 1) := by decide +kernel
theorem dX5_minute_52 : decode cX5_minute 52 = .ok (.getfield 9, 3) := by decide +kernel
theorem dX5_minute_55 : decode cX5_minute 55 = .ok (.iconst 0, 1) := by decide +kernel
theorem dX5_minute_56 : decode cX5_minute 56 = .ok (.iaload, 1) := by decide +kernel
theorem dX5_minute_57 : decode cX5_minute 57 = .ok (.bipush 6, 2) := by decide +kernel
theorem dX5_minute_59 : decode cX5_minute 59 = .ok (.irem, 1) := by decide +kernel
theorem dX5_minute_60 : decode cX5_minute 60 = .ok (.ifCond .ne 33, 3) := by decide +kernel
theorem dX5_minute_63 : decode cX5_minute 63 = .ok (.aload_n 0, 1) := by decide +kernel
theorem dX5_minute_64 : decode cX5_minute 64 = .ok (.getfield 9, 3) := by decide +kernel
theorem dX5_minute_67 : decode cX5_minute 67 = .ok (.iload_n 2, 1) := by decide +kernel
theorem dX5_minute_68 : decode cX5_minute 68 = .ok (.iconst 4, 1) := by decide +kernel
theorem dX5_minute_69 : decode cX5_minute 69 = .ok (.invokestatic 93, 3) := by decide +kernel
theorem dX5_minute_72 : decode cX5_minute 72 = .ok (.sipush 999, 3) := by decide +kernel
theorem dX5_minute_75 : decode cX5_minute 75 = .ok (.aload_n 0, 1) := by decide +kernel
theorem dX5_minute_76 : decode cX5_minute 76 = .ok (.iload_n 2, 1) := by decide +kernel
theorem dX5_minute_77 : decode cX5_minute 77 = .ok (.iconst 4, 1) := by decide +kernel
theorem dX5_minute_78 : decode cX5_minute 78 = .ok (.invokevirtual 104, 3) := by decide +kernel
theorem dX5_minute_81 : decode cX5_minute 81 = .ok (.iconst 3, 1) := by decide +kernel
theorem dX5_minute_82 : decode cX5_minute 82 = .ok (.iadd, 1) := by decide +kernel
theorem dX5_minute_83 : decode cX5_minute 83 = .ok (.invokestatic 139, 3) := by decide +kernel
theorem dX5_minute_86 : decode cX5_minute 86 = .ok (.iastore, 1) := by decide +kernel
theorem dX5_minute_87 : decode cX5_minute 87 = .ok (.iinc 2 1, 3) := by decide +kernel
theorem dX5_minute_90 : decode cX5_minute 90 = .ok (.goto (-49), 3) := by decide +kernel
theorem dX5_minute_93 : decode cX5_minute 93 = .ok (.return_, 1) := by decide +kernel
theorem dX5_minutes_0 : decode cX5_minutes 0 = .ok (.iconst 0, 1) := by decide +kernel
theorem dX5_minutes_1 : decode cX5_minutes 1 = .ok (.istore_n 2, 1) := by decide +kernel
theorem dX5_minutes_2 : decode cX5_minutes 2 = .ok (.iload_n 2, 1) := by decide +kernel
theorem dX5_minutes_3 : decode cX5_minutes 3 = .ok (.iload_n 1, 1) := by decide +kernel
theorem dX5_minutes_4 : decode cX5_minutes 4 = .ok (.if_icmp .ge 13, 3) := by decide +kernel
theorem dX5_minutes_7 : decode cX5_minutes 7 = .ok (.aload_n 0, 1) := by decide +kernel
theorem dX5_minutes_8 : decode cX5_minutes 8 = .ok (.invokevirtual 159, 3) := by decide +kernel
theorem dX5_minutes_11 : decode cX5_minutes 11 = .ok (.iinc 2 1, 3) := by decide +kernel
theorem dX5_minutes_14 : decode cX5_minutes 14 = .ok (.goto (-12), 3) := by decide +kernel
theorem dX5_minutes_17 : decode cX5_minutes 17 = .ok (.return_, 1) := by decide +kernel
theorem dX5_sumOf_0 : decode cX5_sumOf 0 = .ok (.iconst 0, 1) := by decide +kernel
theorem dX5_sumOf_1 : decode cX5_sumOf 1 = .ok (.istore_n 2, 1) := by decide +kernel
theorem dX5_sumOf_2 : decode cX5_sumOf 2 = .ok (.iconst 0, 1) := by decide +kernel
theorem dX5_sumOf_3 : decode cX5_sumOf 3 = .ok (.istore_n 3, 1) := by decide +kernel
theorem dX5_sumOf_4 : decode cX5_sumOf 4 = .ok (.iload_n 3, 1) := by decide +kernel
theorem dX5_sumOf_5 : decode cX5_sumOf 5 = .ok (.aload_n 0, 1) := by decide +kernel
theorem dX5_sumOf_6 : decode cX5_sumOf 6 = .ok (.getfield 9, 3) := by decide +kernel
theorem dX5_sumOf_9 : decode cX5_sumOf 9 = .ok (.iconst 1, 1) := by decide +kernel
theorem dX5_sumOf_10 : decode cX5_sumOf 10 = .ok (.iaload, 1) := by decide +kernel
theorem dX5_sumOf_11 : decode cX5_sumOf 11 = .ok (.if_icmp .ge 18, 3) := by decide +kernel
theorem dX5_sumOf_14 : decode cX5_sumOf 14 = .ok (.iload_n 2, 1) := by decide +kernel
theorem dX5_sumOf_15 : decode cX5_sumOf 15 = .ok (.aload_n 0, 1) := by decide +kernel
theorem dX5_sumOf_16 : decode cX5_sumOf 16 = .ok (.iload_n 3, 1) := by decide +kernel
theorem dX5_sumOf_17 : decode cX5_sumOf 17 = .ok (.iload_n 1, 1) := by decide +kernel
theorem dX5_sumOf_18 : decode cX5_sumOf 18 = .ok (.invokevirtual 104, 3) := by decide +kernel
theorem dX5_sumOf_21 : decode cX5_sumOf 21 = .ok (.iadd, 1) := by decide +kernel
theorem dX5_sumOf_22 : decode cX5_sumOf 22 = .ok (.istore_n 2, 1) := by decide +kernel
theorem dX5_sumOf_23 : decode cX5_sumOf 23 = .ok (.iinc 3 1, 3) := by decide +kernel
theorem dX5_sumOf_26 : decode cX5_sumOf 26 = .ok (.goto (-22), 3) := by decide +kernel
theorem dX5_sumOf_29 : decode cX5_sumOf 29 = .ok (.iload_n 2, 1) := by decide +kernel
theorem dX5_sumOf_30 : decode cX5_sumOf 30 = .ok (.ireturn, 1) := by decide +kernel
theorem dX5_go_0 : decode cX5_go 0 = .ok (.iload_n 1, 1) := by decide +kernel
theorem dX5_go_1 : decode cX5_go 1 = .ok (.iconst 1, 1) := by decide +kernel
theorem dX5_go_2 : decode cX5_go 2 = .ok (.bipush 100, 2) := by decide +kernel
theorem dX5_go_4 : decode cX5_go 4 = .ok (.invokestatic 70, 3) := by decide +kernel
theorem dX5_go_7 : decode cX5_go 7 = .ok (.ifCond .ne 10, 3) := by decide +kernel
theorem dX5_go_10 : decode cX5_go 10 = .ok (.aload_n 0, 1) := by decide +kernel
theorem dX5_go_11 : decode cX5_go 11 = .ok (.ldc 60, 2) := by decide +kernel
theorem dX5_go_13 : decode cX5_go 13 = .ok (.invokevirtual 66, 3) := by decide +kernel
theorem dX5_go_16 : decode cX5_go 16 = .ok (.ireturn, 1) := by decide +kernel
theorem dX5_go_17 : decode cX5_go 17 = .ok (.aload_n 0, 1) := by decide +kernel
theorem dX5_go_18 : decode cX5_go 18 = .ok (.getfield 9, 3) := by decide +kernel
theorem dX5_go_21 : decode cX5_go 21 = .ok (.iconst 0, 1) := by decide +kernel
theorem dX5_go_22 : decode cX5_go 22 = .ok (.iaload, 1) := by decide +kernel
theorem dX5_go_23 : decode cX5_go 23 = .ok (.iload_n 1, 1) := by decide +kernel
theorem dX5_go_24 : decode cX5_go 24 = .ok (.iadd, 1) := by decide +kernel
theorem dX5_go_25 : decode cX5_go 25 = .ok (.ldc 74, 2) := by decide +kernel
theorem dX5_go_27 : decode cX5_go 27 = .ok (.if_icmp .le 10, 3) := by decide +kernel
theorem dX5_go_30 : decode cX5_go 30 = .ok (.aload_n 0, 1) := by decide +kernel
theorem dX5_go_31 : decode cX5_go 31 = .ok (.ldc 162, 2) := by decide +kernel
theorem dX5_go_33 : decode cX5_go 33 = .ok (.invokevirtual 66, 3) := by decide +kernel
theorem dX5_go_36 : decode cX5_go 36 = .ok (.ireturn, 1) := by decide +kernel
theorem dX5_go_37 : decode cX5_go 37 = .ok (.aload_n 0, 1) := by decide +kernel
theorem dX5_go_38 : decode cX5_go 38 = .ok (.iload_n 1, 1) := by decide +kernel
theorem dX5_go_39 : decode cX5_go 39 = .ok (.invokevirtual 163, 3) := by decide +kernel
theorem dX5_go_42 : decode cX5_go 42 = .ok (.aload_n 0, 1) := by decide +kernel
theorem dX5_go_43 : decode cX5_go 43 = .ok (.iconst 5, 1) := by decide +kernel
theorem dX5_go_44 : decode cX5_go 44 = .ok (.invokevirtual 166, 3) := by decide +kernel
theorem dX5_go_47 : decode cX5_go 47 = .ok (.ireturn, 1) := by decide +kernel
theorem dX5_goodOnes_0 : decode cX5_goodOnes 0 = .ok (.iconst 0, 1) := by decide +kernel
theorem dX5_goodOnes_1 : decode cX5_goodOnes 1 = .ok (.istore_n 1, 1) := by decide +kernel
theorem dX5_goodOnes_2 : decode cX5_goodOnes 2 = .ok (.iconst 0, 1) := by decide +kernel
theorem dX5_goodOnes_3 : decode cX5_goodOnes 3 = .ok (.istore_n 2, 1) := by decide +kernel
theorem dX5_goodOnes_4 : decode cX5_goodOnes 4 = .ok (.iload_n 2, 1) := by decide +kernel
theorem dX5_goodOnes_5 : decode cX5_goodOnes 5 = .ok (.aload_n 0, 1) := by decide +kernel
theorem dX5_goodOnes_6 : decode cX5_goodOnes 6 = .ok (.getfield 9, 3) := by decide +kernel
theorem dX5_goodOnes_9 : decode cX5_goodOnes 9 = .ok (.iconst 1, 1) := by decide +kernel
theorem dX5_goodOnes_10 : decode cX5_goodOnes 10 = .ok (.iaload, 1) := by decide +kernel
theorem dX5_goodOnes_11 : decode cX5_goodOnes 11 = .ok (.if_icmp .ge 27, 3) := by decide +kernel
theorem dX5_goodOnes_14 : decode cX5_goodOnes 14 = .ok (.iload_n 1, 1) := by decide +kernel
theorem dX5_goodOnes_15 : decode cX5_goodOnes 15 = .ok (.aload_n 0, 1) := by decide +kernel
theorem dX5_goodOnes_16 : decode cX5_goodOnes 16 = .ok (.iload_n 2, 1) := by decide +kernel
theorem dX5_goodOnes_17 : decode cX5_goodOnes 17 = .ok (.invokevirtual 149, 3) := by decide +kernel
theorem dX5_goodOnes_20 : decode cX5_goodOnes 20 = .ok (.ifCond .eq 9, 3) := by decide +kernel
theorem dX5_goodOnes_23 : decode cX5_goodOnes 23 = .ok (.iconst 1, 1) := by decide +kernel
theorem dX5_goodOnes_24 : decode cX5_goodOnes 24 = .ok (.iload_n 2, 1) := by decide +kernel
theorem dX5_goodOnes_25 : decode cX5_goodOnes 25 = .ok (.ishl, 1) := by decide +kernel
theorem dX5_goodOnes_26 : decode cX5_goodOnes 26 = .ok (.goto 4, 3) := by decide +kernel
theorem dX5_goodOnes_29 : decode cX5_goodOnes 29 = .ok (.iconst 0, 1) := by decide +kernel
theorem dX5_goodOnes_30 : decode cX5_goodOnes 30 = .ok (.ior, 1) := by decide +kernel
theorem dX5_goodOnes_31 : decode cX5_goodOnes 31 = .ok (.istore_n 1, 1) := by decide +kernel
theorem dX5_goodOnes_32 : decode cX5_goodOnes 32 = .ok (.iinc 2 1, 3) := by decide +kernel
theorem dX5_goodOnes_35 : decode cX5_goodOnes 35 = .ok (.goto (-31), 3) := by decide +kernel
theorem dX5_goodOnes_38 : decode cX5_goodOnes 38 = .ok (.iload_n 1, 1) := by decide +kernel
theorem dX5_goodOnes_39 : decode cX5_goodOnes 39 = .ok (.ireturn, 1) := by decide +kernel
theorem dX5_commonFaults_0 : decode cX5_commonFaults 0 = .ok (.aload_n 0, 1) := by decide +kernel
theorem dX5_commonFaults_1 : decode cX5_commonFaults 1 = .ok (.getfield 9, 3) := by decide +kernel
theorem dX5_commonFaults_4 : decode cX5_commonFaults 4 = .ok (.iconst 1, 1) := by decide +kernel
theorem dX5_commonFaults_5 : decode cX5_commonFaults 5 = .ok (.iaload, 1) := by decide +kernel
theorem dX5_commonFaults_6 : decode cX5_commonFaults 6 = .ok (.ifCond .ne 7, 3) := by decide +kernel
theorem dX5_commonFaults_9 : decode cX5_commonFaults 9 = .ok (.iconst 0, 1) := by decide +kernel
theorem dX5_commonFaults_10 : decode cX5_commonFaults 10 = .ok (.goto 5, 3) := by decide +kernel
theorem dX5_commonFaults_13 : decode cX5_commonFaults 13 = .ok (.bipush 31, 2) := by decide +kernel
theorem dX5_commonFaults_15 : decode cX5_commonFaults 15 = .ok (.istore_n 1, 1) := by decide +kernel
theorem dX5_commonFaults_16 : decode cX5_commonFaults 16 = .ok (.iconst 0, 1) := by decide +kernel
theorem dX5_commonFaults_17 : decode cX5_commonFaults 17 = .ok (.istore_n 2, 1) := by decide +kernel
theorem dX5_commonFaults_18 : decode cX5_commonFaults 18 = .ok (.iload_n 2, 1) := by decide +kernel
theorem dX5_commonFaults_19 : decode cX5_commonFaults 19 = .ok (.aload_n 0, 1) := by decide +kernel
theorem dX5_commonFaults_20 : decode cX5_commonFaults 20 = .ok (.getfield 9, 3) := by decide +kernel
theorem dX5_commonFaults_23 : decode cX5_commonFaults 23 = .ok (.iconst 1, 1) := by decide +kernel
theorem dX5_commonFaults_24 : decode cX5_commonFaults 24 = .ok (.iaload, 1) := by decide +kernel
theorem dX5_commonFaults_25 : decode cX5_commonFaults 25 = .ok (.if_icmp .ge 31, 3) := by decide +kernel
theorem dX5_commonFaults_28 : decode cX5_commonFaults 28 = .ok (.iconst 0, 1) := by decide +kernel
theorem dX5_commonFaults_29 : decode cX5_commonFaults 29 = .ok (.istore_n 3, 1) := by decide +kernel
theorem dX5_commonFaults_30 : decode cX5_commonFaults 30 = .ok (.iload_n 3, 1) := by decide +kernel
theorem dX5_commonFaults_31 : decode cX5_commonFaults 31 = .ok (.iconst 4, 1) := by decide +kernel
theorem dX5_commonFaults_32 : decode cX5_commonFaults 32 = .ok (.if_icmp .ge 18, 3) := by decide +kernel
theorem dX5_commonFaults_35 : decode cX5_commonFaults 35 = .ok (.iload_n 1, 1) := by decide +kernel
theorem dX5_commonFaults_36 : decode cX5_commonFaults 36 = .ok (.aload_n 0, 1) := by decide +kernel
theorem dX5_commonFaults_37 : decode cX5_commonFaults 37 = .ok (.iload_n 2, 1) := by decide +kernel
theorem dX5_commonFaults_38 : decode cX5_commonFaults 38 = .ok (.iload_n 3, 1) := by decide +kernel
theorem dX5_commonFaults_39 : decode cX5_commonFaults 39 = .ok (.invokevirtual 133, 3) := by decide +kernel
theorem dX5_commonFaults_42 : decode cX5_commonFaults 42 = .ok (.iand, 1) := by decide +kernel
theorem dX5_commonFaults_43 : decode cX5_commonFaults 43 = .ok (.istore_n 1, 1) := by decide +kernel
theorem dX5_commonFaults_44 : decode cX5_commonFaults 44 = .ok (.iinc 3 1, 3) := by decide +kernel
theorem dX5_commonFaults_47 : decode cX5_commonFaults 47 = .ok (.goto (-17), 3) := by decide +kernel
theorem dX5_commonFaults_50 : decode cX5_commonFaults 50 = .ok (.iinc 2 1, 3) := by decide +kernel
theorem dX5_commonFaults_53 : decode cX5_commonFaults 53 = .ok (.goto (-35), 3) := by decide +kernel
theorem dX5_commonFaults_56 : decode cX5_commonFaults 56 = .ok (.iload_n 1, 1) := by decide +kernel
theorem dX5_commonFaults_57 : decode cX5_commonFaults 57 = .ok (.ireturn, 1) := by decide +kernel
theorem dX5_now_0 : decode cX5_now 0 = .ok (.iload_n 1, 1) := by decide +kernel
theorem dX5_now_1 : decode cX5_now 1 = .ok (.tableswitch 84 0 6 #[43, 50, 56, 63, 69, 74, 79], 43) := by decide +kernel
theorem dX5_now_44 : decode cX5_now 44 = .ok (.aload_n 0, 1) := by decide +kernel
theorem dX5_now_45 : decode cX5_now 45 = .ok (.getfield 9, 3) := by decide +kernel
theorem dX5_now_48 : decode cX5_now 48 = .ok (.iconst 0, 1) := by decide +kernel
theorem dX5_now_49 : decode cX5_now 49 = .ok (.iaload, 1) := by decide +kernel
theorem dX5_now_50 : decode cX5_now 50 = .ok (.ireturn, 1) := by decide +kernel
theorem dX5_now_51 : decode cX5_now 51 = .ok (.aload_n 0, 1) := by decide +kernel
theorem dX5_now_52 : decode cX5_now 52 = .ok (.iconst 5, 1) := by decide +kernel
theorem dX5_now_53 : decode cX5_now 53 = .ok (.invokevirtual 166, 3) := by decide +kernel
theorem dX5_now_56 : decode cX5_now 56 = .ok (.ireturn, 1) := by decide +kernel
theorem dX5_now_57 : decode cX5_now 57 = .ok (.aload_n 0, 1) := by decide +kernel
theorem dX5_now_58 : decode cX5_now 58 = .ok (.bipush 6, 2) := by decide +kernel
theorem dX5_now_60 : decode cX5_now 60 = .ok (.invokevirtual 166, 3) := by decide +kernel
theorem dX5_now_63 : decode cX5_now 63 = .ok (.ireturn, 1) := by decide +kernel
theorem dX5_now_64 : decode cX5_now 64 = .ok (.aload_n 0, 1) := by decide +kernel
theorem dX5_now_65 : decode cX5_now 65 = .ok (.iconst 4, 1) := by decide +kernel
theorem dX5_now_66 : decode cX5_now 66 = .ok (.invokevirtual 166, 3) := by decide +kernel
theorem dX5_now_69 : decode cX5_now 69 = .ok (.ireturn, 1) := by decide +kernel
theorem dX5_now_70 : decode cX5_now 70 = .ok (.aload_n 0, 1) := by decide +kernel
theorem dX5_now_71 : decode cX5_now 71 = .ok (.invokevirtual 152, 3) := by decide +kernel
theorem dX5_now_74 : decode cX5_now 74 = .ok (.ireturn, 1) := by decide +kernel
theorem dX5_now_75 : decode cX5_now 75 = .ok (.aload_n 0, 1) := by decide +kernel
theorem dX5_now_76 : decode cX5_now 76 = .ok (.invokevirtual 169, 3) := by decide +kernel
theorem dX5_now_79 : decode cX5_now 79 = .ok (.ireturn, 1) := by decide +kernel
theorem dX5_now_80 : decode cX5_now 80 = .ok (.aload_n 0, 1) := by decide +kernel
theorem dX5_now_81 : decode cX5_now 81 = .ok (.invokevirtual 172, 3) := by decide +kernel
theorem dX5_now_84 : decode cX5_now 84 = .ok (.ireturn, 1) := by decide +kernel
theorem dX5_now_85 : decode cX5_now 85 = .ok (.aload_n 0, 1) := by decide +kernel
theorem dX5_now_86 : decode cX5_now 86 = .ok (.ldc 60, 2) := by decide +kernel
theorem dX5_now_88 : decode cX5_now 88 = .ok (.invokevirtual 66, 3) := by decide +kernel
theorem dX5_now_91 : decode cX5_now 91 = .ok (.ireturn, 1) := by decide +kernel
theorem dX5_behind_0 : decode cX5_behind 0 = .ok (.aload_n 0, 1) := by decide +kernel
theorem dX5_behind_1 : decode cX5_behind 1 = .ok (.getfield 9, 3) := by decide +kernel
theorem dX5_behind_4 : decode cX5_behind 4 = .ok (.aload_n 0, 1) := by decide +kernel
theorem dX5_behind_5 : decode cX5_behind 5 = .ok (.getfield 16, 3) := by decide +kernel
theorem dX5_behind_8 : decode cX5_behind 8 = .ok (.invokestatic 61, 3) := by decide +kernel
theorem dX5_behind_11 : decode cX5_behind 11 = .ok (.aload_n 0, 1) := by decide +kernel
theorem dX5_behind_12 : decode cX5_behind 12 = .ok (.iload_n 2, 1) := by decide +kernel
theorem dX5_behind_13 : decode cX5_behind 13 = .ok (.invokevirtual 163, 3) := by decide +kernel
theorem dX5_behind_16 : decode cX5_behind 16 = .ok (.aload_n 0, 1) := by decide +kernel
theorem dX5_behind_17 : decode cX5_behind 17 = .ok (.aload_n 0, 1) := by decide +kernel
theorem dX5_behind_18 : decode cX5_behind 18 = .ok (.getfield 9, 3) := by decide +kernel
theorem dX5_behind_21 : decode cX5_behind 21 = .ok (.iload_n 1, 1) := by decide +kernel
theorem dX5_behind_22 : decode cX5_behind 22 = .ok (.iaload, 1) := by decide +kernel
theorem dX5_behind_23 : decode cX5_behind 23 = .ok (.invokevirtual 175, 3) := by decide +kernel
theorem dX5_behind_26 : decode cX5_behind 26 = .ok (.ireturn, 1) := by decide +kernel
theorem dX5_ahead_0 : decode cX5_ahead 0 = .ok (.aload_n 0, 1) := by decide +kernel
theorem dX5_ahead_1 : decode cX5_ahead 1 = .ok (.iload_n 1, 1) := by decide +kernel
theorem dX5_ahead_2 : decode cX5_ahead 2 = .ok (.invokevirtual 83, 3) := by decide +kernel
theorem dX5_ahead_5 : decode cX5_ahead 5 = .ok (.ifCond .eq 37, 3) := by decide +kernel
theorem dX5_ahead_8 : decode cX5_ahead 8 = .ok (.iload_n 2, 1) := by decide +kernel
theorem dX5_ahead_9 : decode cX5_ahead 9 = .ok (.iconst 2, 1) := by decide +kernel
theorem dX5_ahead_10 : decode cX5_ahead 10 = .ok (.bipush 6, 2) := by decide +kernel
theorem dX5_ahead_12 : decode cX5_ahead 12 = .ok (.invokestatic 70, 3) := by decide +kernel
theorem dX5_ahead_15 : decode cX5_ahead 15 = .ok (.ifCond .eq 27, 3) := by decide +kernel
theorem dX5_ahead_18 : decode cX5_ahead 18 = .ok (.iload_n 3, 1) := by decide +kernel
theorem dX5_ahead_19 : decode cX5_ahead 19 = .ok (.iconst 0, 1) := by decide +kernel
theorem dX5_ahead_20 : decode cX5_ahead 20 = .ok (.sipush 200, 3) := by decide +kernel
theorem dX5_ahead_23 : decode cX5_ahead 23 = .ok (.invokestatic 70, 3) := by decide +kernel
theorem dX5_ahead_26 : decode cX5_ahead 26 = .ok (.ifCond .eq 16, 3) := by decide +kernel
theorem dX5_ahead_29 : decode cX5_ahead 29 = .ok (.aload_n 0, 1) := by decide +kernel
theorem dX5_ahead_30 : decode cX5_ahead 30 = .ok (.iload_n 1, 1) := by decide +kernel
theorem dX5_ahead_31 : decode cX5_ahead 31 = .ok (.iload_n 2, 1) := by decide +kernel
theorem dX5_ahead_32 : decode cX5_ahead 32 = .ok (.invokestatic 93, 3) := by decide +kernel
theorem dX5_ahead_35 : decode cX5_ahead 35 = .ok (.iload_n 3, 1) := by decide +kernel
theorem dX5_ahead_36 : decode cX5_ahead 36 = .ok (.invokevirtual 178, 3) := by decide +kernel
theorem dX5_ahead_39 : decode cX5_ahead 39 = .ok (.goto 9, 3) := by decide +kernel
theorem dX5_ahead_42 : decode cX5_ahead 42 = .ok (.aload_n 0, 1) := by decide +kernel
theorem dX5_ahead_43 : decode cX5_ahead 43 = .ok (.ldc 60, 2) := by decide +kernel
theorem dX5_ahead_45 : decode cX5_ahead 45 = .ok (.invokevirtual 66, 3) := by decide +kernel
theorem dX5_ahead_48 : decode cX5_ahead 48 = .ok (.ireturn, 1) := by decide +kernel
theorem dX5_later_0 : decode cX5_later 0 = .ok (.iload_n 1, 1) := by decide +kernel
theorem dX5_later_1 : decode cX5_later 1 = .ok (.ifCond .eq 8, 3) := by decide +kernel
theorem dX5_later_4 : decode cX5_later 4 = .ok (.iload_n 1, 1) := by decide +kernel
theorem dX5_later_5 : decode cX5_later 5 = .ok (.iconst 3, 1) := by decide +kernel
theorem dX5_later_6 : decode cX5_later 6 = .ok (.if_icmp .ne 25, 3) := by decide +kernel
theorem dX5_later_9 : decode cX5_later 9 = .ok (.iload_n 2, 1) := by decide +kernel
theorem dX5_later_10 : decode cX5_later 10 = .ok (.iconst 0, 1) := by decide +kernel
theorem dX5_later_11 : decode cX5_later 11 = .ok (.sipush 200, 3) := by decide +kernel
theorem dX5_later_14 : decode cX5_later 14 = .ok (.invokestatic 70, 3) := by decide +kernel
theorem dX5_later_17 : decode cX5_later 17 = .ok (.ifCond .eq 14, 3) := by decide +kernel
theorem dX5_later_20 : decode cX5_later 20 = .ok (.aload_n 0, 1) := by decide +kernel
theorem dX5_later_21 : decode cX5_later 21 = .ok (.iconst 3, 1) := by decide +kernel
theorem dX5_later_22 : decode cX5_later 22 = .ok (.iload_n 1, 1) := by decide +kernel
theorem dX5_later_23 : decode cX5_later 23 = .ok (.iadd, 1) := by decide +kernel
theorem dX5_later_24 : decode cX5_later 24 = .ok (.iload_n 2, 1) := by decide +kernel
theorem dX5_later_25 : decode cX5_later 25 = .ok (.invokevirtual 178, 3) := by decide +kernel
theorem dX5_later_28 : decode cX5_later 28 = .ok (.goto 9, 3) := by decide +kernel
theorem dX5_later_31 : decode cX5_later 31 = .ok (.aload_n 0, 1) := by decide +kernel
theorem dX5_later_32 : decode cX5_later 32 = .ok (.ldc 60, 2) := by decide +kernel
theorem dX5_later_34 : decode cX5_later 34 = .ok (.invokevirtual 66, 3) := by decide +kernel
theorem dX5_later_37 : decode cX5_later 37 = .ok (.ireturn, 1) := by decide +kernel
theorem dX5_when_0 : decode cX5_when 0 = .ok (.aload_n 0, 1) := by decide +kernel
theorem dX5_when_1 : decode cX5_when 1 = .ok (.iload_n 1, 1) := by decide +kernel
theorem dX5_when_2 : decode cX5_when 2 = .ok (.invokevirtual 83, 3) := by decide +kernel
theorem dX5_when_5 : decode cX5_when 5 = .ok (.ifCond .eq 14, 3) := by decide +kernel
theorem dX5_when_8 : decode cX5_when 8 = .ok (.iload_n 2, 1) := by decide +kernel
theorem dX5_when_9 : decode cX5_when 9 = .ok (.iconst 0, 1) := by decide +kernel
theorem dX5_when_10 : decode cX5_when 10 = .ok (.sipush 999, 3) := by decide +kernel
theorem dX5_when_13 : decode cX5_when 13 = .ok (.invokestatic 70, 3) := by decide +kernel
theorem dX5_when_16 : decode cX5_when 16 = .ok (.ifCond .ne 10, 3) := by decide +kernel
theorem dX5_when_19 : decode cX5_when 19 = .ok (.aload_n 0, 1) := by decide +kernel
theorem dX5_when_20 : decode cX5_when 20 = .ok (.ldc 60, 2) := by decide +kernel
theorem dX5_when_22 : decode cX5_when 22 = .ok (.invokevirtual 66, 3) := by decide +kernel
theorem dX5_when_25 : decode cX5_when 25 = .ok (.ireturn, 1) := by decide +kernel
theorem dX5_when_26 : decode cX5_when 26 = .ok (.aload_n 0, 1) := by decide +kernel
theorem dX5_when_27 : decode cX5_when 27 = .ok (.getfield 9, 3) := by decide +kernel
theorem dX5_when_30 : decode cX5_when 30 = .ok (.aload_n 0, 1) := by decide +kernel
theorem dX5_when_31 : decode cX5_when 31 = .ok (.getfield 16, 3) := by decide +kernel
theorem dX5_when_34 : decode cX5_when 34 = .ok (.invokestatic 61, 3) := by decide +kernel
theorem dX5_when_37 : decode cX5_when 37 = .ok (.iconst 0, 1) := by decide +kernel
theorem dX5_when_38 : decode cX5_when 38 = .ok (.istore_n 3, 1) := by decide +kernel
theorem dX5_when_39 : decode cX5_when 39 = .ok (.iload_n 3, 1) := by decide +kernel
theorem dX5_when_40 : decode cX5_when 40 = .ok (.sipush 200, 3) := by decide +kernel
theorem dX5_when_43 : decode cX5_when 43 = .ok (.if_icmp .ge 23, 3) := by decide +kernel
theorem dX5_when_46 : decode cX5_when 46 = .ok (.aload_n 0, 1) := by decide +kernel
theorem dX5_when_47 : decode cX5_when 47 = .ok (.iload_n 1, 1) := by decide +kernel
theorem dX5_when_48 : decode cX5_when 48 = .ok (.iconst 5, 1) := by decide +kernel
theorem dX5_when_49 : decode cX5_when 49 = .ok (.invokevirtual 104, 3) := by decide +kernel
theorem dX5_when_52 : decode cX5_when 52 = .ok (.iload_n 2, 1) := by decide +kernel
theorem dX5_when_53 : decode cX5_when 53 = .ok (.if_icmp .ge 13, 3) := by decide +kernel
theorem dX5_when_56 : decode cX5_when 56 = .ok (.aload_n 0, 1) := by decide +kernel
theorem dX5_when_57 : decode cX5_when 57 = .ok (.invokevirtual 159, 3) := by decide +kernel
theorem dX5_when_60 : decode cX5_when 60 = .ok (.iinc 3 1, 3) := by decide +kernel
theorem dX5_when_63 : decode cX5_when 63 = .ok (.goto (-24), 3) := by decide +kernel
theorem dX5_when_66 : decode cX5_when 66 = .ok (.aload_n 0, 1) := by decide +kernel
theorem dX5_when_67 : decode cX5_when 67 = .ok (.aload_n 0, 1) := by decide +kernel
theorem dX5_when_68 : decode cX5_when 68 = .ok (.aload_n 0, 1) := by decide +kernel
theorem dX5_when_69 : decode cX5_when 69 = .ok (.iload_n 1, 1) := by decide +kernel
theorem dX5_when_70 : decode cX5_when 70 = .ok (.iconst 5, 1) := by decide +kernel
theorem dX5_when_71 : decode cX5_when 71 = .ok (.invokevirtual 104, 3) := by decide +kernel
theorem dX5_when_74 : decode cX5_when 74 = .ok (.iload_n 2, 1) := by decide +kernel
theorem dX5_when_75 : decode cX5_when 75 = .ok (.if_icmp .ge 7, 3) := by decide +kernel
theorem dX5_when_78 : decode cX5_when 78 = .ok (.iconst (-1), 1) := by decide +kernel
theorem dX5_when_79 : decode cX5_when 79 = .ok (.goto 4, 3) := by decide +kernel
theorem dX5_when_82 : decode cX5_when 82 = .ok (.iload_n 3, 1) := by decide +kernel
theorem dX5_when_83 : decode cX5_when 83 = .ok (.invokevirtual 175, 3) := by decide +kernel
theorem dX5_when_86 : decode cX5_when 86 = .ok (.invokevirtual 181, 3) := by decide +kernel
theorem dX5_when_89 : decode cX5_when 89 = .ok (.ireturn, 1) := by decide +kernel
theorem dX5_broke_0 : decode cX5_broke 0 = .ok (.aload_n 0, 1) := by decide +kernel
theorem dX5_broke_1 : decode cX5_broke 1 = .ok (.iload_n 1, 1) := by decide +kernel
theorem dX5_broke_2 : decode cX5_broke 2 = .ok (.invokevirtual 83, 3) := by decide +kernel
theorem dX5_broke_5 : decode cX5_broke 5 = .ok (.ifCond .ne 10, 3) := by decide +kernel
theorem dX5_broke_8 : decode cX5_broke 8 = .ok (.aload_n 0, 1) := by decide +kernel
theorem dX5_broke_9 : decode cX5_broke 9 = .ok (.ldc 60, 2) := by decide +kernel
theorem dX5_broke_11 : decode cX5_broke 11 = .ok (.invokevirtual 66, 3) := by decide +kernel
theorem dX5_broke_14 : decode cX5_broke 14 = .ok (.ireturn, 1) := by decide +kernel
theorem dX5_broke_15 : decode cX5_broke 15 = .ok (.aload_n 0, 1) := by decide +kernel
theorem dX5_broke_16 : decode cX5_broke 16 = .ok (.getfield 9, 3) := by decide +kernel
theorem dX5_broke_19 : decode cX5_broke 19 = .ok (.aload_n 0, 1) := by decide +kernel
theorem dX5_broke_20 : decode cX5_broke 20 = .ok (.getfield 16, 3) := by decide +kernel
theorem dX5_broke_23 : decode cX5_broke 23 = .ok (.invokestatic 61, 3) := by decide +kernel
theorem dX5_broke_26 : decode cX5_broke 26 = .ok (.iconst 0, 1) := by decide +kernel
theorem dX5_broke_27 : decode cX5_broke 27 = .ok (.istore_n 2, 1) := by decide +kernel
theorem dX5_broke_28 : decode cX5_broke 28 = .ok (.iload_n 2, 1) := by decide +kernel
theorem dX5_broke_29 : decode cX5_broke 29 = .ok (.sipush 200, 3) := by decide +kernel
theorem dX5_broke_32 : decode cX5_broke 32 = .ok (.if_icmp .ge 28, 3) := by decide +kernel
theorem dX5_broke_35 : decode cX5_broke 35 = .ok (.aload_n 0, 1) := by decide +kernel
theorem dX5_broke_36 : decode cX5_broke 36 = .ok (.iload_n 1, 1) := by decide +kernel
theorem dX5_broke_37 : decode cX5_broke 37 = .ok (.iconst 4, 1) := by decide +kernel
theorem dX5_broke_38 : decode cX5_broke 38 = .ok (.invokevirtual 104, 3) := by decide +kernel
theorem dX5_broke_41 : decode cX5_broke 41 = .ok (.aload_n 0, 1) := by decide +kernel
theorem dX5_broke_42 : decode cX5_broke 42 = .ok (.getfield 9, 3) := by decide +kernel
theorem dX5_broke_45 : decode cX5_broke 45 = .ok (.iconst 5, 1) := by decide +kernel
theorem dX5_broke_46 : decode cX5_broke 46 = .ok (.iaload, 1) := by decide +kernel
theorem dX5_broke_47 : decode cX5_broke 47 = .ok (.if_icmp .lt 13, 3) := by decide +kernel
theorem dX5_broke_50 : decode cX5_broke 50 = .ok (.aload_n 0, 1) := by decide +kernel
theorem dX5_broke_51 : decode cX5_broke 51 = .ok (.invokevirtual 159, 3) := by decide +kernel
theorem dX5_broke_54 : decode cX5_broke 54 = .ok (.iinc 2 1, 3) := by decide +kernel
theorem dX5_broke_57 : decode cX5_broke 57 = .ok (.goto (-29), 3) := by decide +kernel
theorem dX5_broke_60 : decode cX5_broke 60 = .ok (.aload_n 0, 1) := by decide +kernel
theorem dX5_broke_61 : decode cX5_broke 61 = .ok (.aload_n 0, 1) := by decide +kernel
theorem dX5_broke_62 : decode cX5_broke 62 = .ok (.aload_n 0, 1) := by decide +kernel
theorem dX5_broke_63 : decode cX5_broke 63 = .ok (.iload_n 1, 1) := by decide +kernel
theorem dX5_broke_64 : decode cX5_broke 64 = .ok (.iconst 4, 1) := by decide +kernel
theorem dX5_broke_65 : decode cX5_broke 65 = .ok (.invokevirtual 104, 3) := by decide +kernel
theorem dX5_broke_68 : decode cX5_broke 68 = .ok (.aload_n 0, 1) := by decide +kernel
theorem dX5_broke_69 : decode cX5_broke 69 = .ok (.getfield 9, 3) := by decide +kernel
theorem dX5_broke_72 : decode cX5_broke 72 = .ok (.iconst 5, 1) := by decide +kernel
theorem dX5_broke_73 : decode cX5_broke 73 = .ok (.iaload, 1) := by decide +kernel
theorem dX5_broke_74 : decode cX5_broke 74 = .ok (.if_icmp .lt 7, 3) := by decide +kernel
theorem dX5_broke_77 : decode cX5_broke 77 = .ok (.iconst (-1), 1) := by decide +kernel
theorem dX5_broke_78 : decode cX5_broke 78 = .ok (.goto 4, 3) := by decide +kernel
theorem dX5_broke_81 : decode cX5_broke 81 = .ok (.iload_n 2, 1) := by decide +kernel
theorem dX5_broke_82 : decode cX5_broke 82 = .ok (.invokevirtual 175, 3) := by decide +kernel
theorem dX5_broke_85 : decode cX5_broke 85 = .ok (.invokevirtual 181, 3) := by decide +kernel
theorem dX5_broke_88 : decode cX5_broke 88 = .ok (.ireturn, 1) := by decide +kernel
theorem dX5_areAllTaken_0 : decode cX5_areAllTaken 0 = .ok (.iconst 1, 1) := by decide +kernel
theorem dX5_areAllTaken_1 : decode cX5_areAllTaken 1 = .ok (.istore_n 1, 1) := by decide +kernel
theorem dX5_areAllTaken_2 : decode cX5_areAllTaken 2 = .ok (.iconst 0, 1) := by decide +kernel
theorem dX5_areAllTaken_3 : decode cX5_areAllTaken 3 = .ok (.istore_n 2, 1) := by decide +kernel
theorem dX5_areAllTaken_4 : decode cX5_areAllTaken 4 = .ok (.iload_n 2, 1) := by decide +kernel
theorem dX5_areAllTaken_5 : decode cX5_areAllTaken 5 = .ok (.aload_n 0, 1) := by decide +kernel
theorem dX5_areAllTaken_6 : decode cX5_areAllTaken 6 = .ok (.getfield 9, 3) := by decide +kernel
theorem dX5_areAllTaken_9 : decode cX5_areAllTaken 9 = .ok (.iconst 1, 1) := by decide +kernel
theorem dX5_areAllTaken_10 : decode cX5_areAllTaken 10 = .ok (.iaload, 1) := by decide +kernel
theorem dX5_areAllTaken_11 : decode cX5_areAllTaken 11 = .ok (.if_icmp .ge 28, 3) := by decide +kernel
theorem dX5_areAllTaken_14 : decode cX5_areAllTaken 14 = .ok (.iload_n 1, 1) := by decide +kernel
theorem dX5_areAllTaken_15 : decode cX5_areAllTaken 15 = .ok (.ifCond .eq 16, 3) := by decide +kernel
theorem dX5_areAllTaken_18 : decode cX5_areAllTaken 18 = .ok (.aload_n 0, 1) := by decide +kernel
theorem dX5_areAllTaken_19 : decode cX5_areAllTaken 19 = .ok (.iload_n 2, 1) := by decide +kernel
theorem dX5_areAllTaken_20 : decode cX5_areAllTaken 20 = .ok (.iconst 5, 1) := by decide +kernel
theorem dX5_areAllTaken_21 : decode cX5_areAllTaken 21 = .ok (.invokevirtual 104, 3) := by decide +kernel
theorem dX5_areAllTaken_24 : decode cX5_areAllTaken 24 = .ok (.ifCond .le 7, 3) := by decide +kernel
theorem dX5_areAllTaken_27 : decode cX5_areAllTaken 27 = .ok (.iconst 1, 1) := by decide +kernel
theorem dX5_areAllTaken_28 : decode cX5_areAllTaken 28 = .ok (.goto 4, 3) := by decide +kernel
theorem dX5_areAllTaken_31 : decode cX5_areAllTaken 31 = .ok (.iconst 0, 1) := by decide +kernel
theorem dX5_areAllTaken_32 : decode cX5_areAllTaken 32 = .ok (.istore_n 1, 1) := by decide +kernel
theorem dX5_areAllTaken_33 : decode cX5_areAllTaken 33 = .ok (.iinc 2 1, 3) := by decide +kernel
theorem dX5_areAllTaken_36 : decode cX5_areAllTaken 36 = .ok (.goto (-32), 3) := by decide +kernel
theorem dX5_areAllTaken_39 : decode cX5_areAllTaken 39 = .ok (.iload_n 1, 1) := by decide +kernel
theorem dX5_areAllTaken_40 : decode cX5_areAllTaken 40 = .ok (.ireturn, 1) := by decide +kernel
theorem dX5_all_0 : decode cX5_all 0 = .ok (.aload_n 0, 1) := by decide +kernel
theorem dX5_all_1 : decode cX5_all 1 = .ok (.getfield 9, 3) := by decide +kernel
theorem dX5_all_4 : decode cX5_all 4 = .ok (.iconst 1, 1) := by decide +kernel
theorem dX5_all_5 : decode cX5_all 5 = .ok (.iaload, 1) := by decide +kernel
theorem dX5_all_6 : decode cX5_all 6 = .ok (.ifCond .ne 10, 3) := by decide +kernel
theorem dX5_all_9 : decode cX5_all 9 = .ok (.aload_n 0, 1) := by decide +kernel
theorem dX5_all_10 : decode cX5_all 10 = .ok (.ldc 162, 2) := by decide +kernel
theorem dX5_all_12 : decode cX5_all 12 = .ok (.invokevirtual 66, 3) := by decide +kernel
theorem dX5_all_15 : decode cX5_all 15 = .ok (.ireturn, 1) := by decide +kernel
theorem dX5_all_16 : decode cX5_all 16 = .ok (.aload_n 0, 1) := by decide +kernel
theorem dX5_all_17 : decode cX5_all 17 = .ok (.getfield 9, 3) := by decide +kernel
theorem dX5_all_20 : decode cX5_all 20 = .ok (.aload_n 0, 1) := by decide +kernel
theorem dX5_all_21 : decode cX5_all 21 = .ok (.getfield 16, 3) := by decide +kernel
theorem dX5_all_24 : decode cX5_all 24 = .ok (.invokestatic 61, 3) := by decide +kernel
theorem dX5_all_27 : decode cX5_all 27 = .ok (.iconst 0, 1) := by decide +kernel
theorem dX5_all_28 : decode cX5_all 28 = .ok (.istore_n 1, 1) := by decide +kernel
theorem dX5_all_29 : decode cX5_all 29 = .ok (.iload_n 1, 1) := by decide +kernel
theorem dX5_all_30 : decode cX5_all 30 = .ok (.sipush 200, 3) := by decide +kernel
theorem dX5_all_33 : decode cX5_all 33 = .ok (.if_icmp .ge 20, 3) := by decide +kernel
theorem dX5_all_36 : decode cX5_all 36 = .ok (.aload_n 0, 1) := by decide +kernel
theorem dX5_all_37 : decode cX5_all 37 = .ok (.invokevirtual 184, 3) := by decide +kernel
theorem dX5_all_40 : decode cX5_all 40 = .ok (.ifCond .ne 13, 3) := by decide +kernel
theorem dX5_all_43 : decode cX5_all 43 = .ok (.aload_n 0, 1) := by decide +kernel
theorem dX5_all_44 : decode cX5_all 44 = .ok (.invokevirtual 159, 3) := by decide +kernel
theorem dX5_all_47 : decode cX5_all 47 = .ok (.iinc 1 1, 3) := by decide +kernel
theorem dX5_all_50 : decode cX5_all 50 = .ok (.goto (-21), 3) := by decide +kernel
theorem dX5_all_53 : decode cX5_all 53 = .ok (.aload_n 0, 1) := by decide +kernel
theorem dX5_all_54 : decode cX5_all 54 = .ok (.aload_n 0, 1) := by decide +kernel
theorem dX5_all_55 : decode cX5_all 55 = .ok (.aload_n 0, 1) := by decide +kernel
theorem dX5_all_56 : decode cX5_all 56 = .ok (.invokevirtual 184, 3) := by decide +kernel
theorem dX5_all_59 : decode cX5_all 59 = .ok (.ifCond .eq 7, 3) := by decide +kernel
theorem dX5_all_62 : decode cX5_all 62 = .ok (.iload_n 1, 1) := by decide +kernel
theorem dX5_all_63 : decode cX5_all 63 = .ok (.goto 4, 3) := by decide +kernel
theorem dX5_all_66 : decode cX5_all 66 = .ok (.iconst (-1), 1) := by decide +kernel
theorem dX5_all_67 : decode cX5_all 67 = .ok (.invokevirtual 175, 3) := by decide +kernel
theorem dX5_all_70 : decode cX5_all 70 = .ok (.invokevirtual 181, 3) := by decide +kernel
theorem dX5_all_73 : decode cX5_all 73 = .ok (.ireturn, 1) := by decide +kernel
theorem dX5_faultsTogether_0 : decode cX5_faultsTogether 0 = .ok (.iconst 0, 1) := by decide +kernel
theorem dX5_faultsTogether_1 : decode cX5_faultsTogether 1 = .ok (.istore_n 2, 1) := by decide +kernel
theorem dX5_faultsTogether_2 : decode cX5_faultsTogether 2 = .ok (.iconst 0, 1) := by decide +kernel
theorem dX5_faultsTogether_3 : decode cX5_faultsTogether 3 = .ok (.istore_n 3, 1) := by decide +kernel
theorem dX5_faultsTogether_4 : decode cX5_faultsTogether 4 = .ok (.iload_n 3, 1) := by decide +kernel
theorem dX5_faultsTogether_5 : decode cX5_faultsTogether 5 = .ok (.iconst 4, 1) := by decide +kernel
theorem dX5_faultsTogether_6 : decode cX5_faultsTogether 6 = .ok (.if_icmp .ge 21, 3) := by decide +kernel
theorem dX5_faultsTogether_9 : decode cX5_faultsTogether 9 = .ok (.iload_n 2, 1) := by decide +kernel
theorem dX5_faultsTogether_10 : decode cX5_faultsTogether 10 = .ok (.aload_n 0, 1) := by decide +kernel
theorem dX5_faultsTogether_11 : decode cX5_faultsTogether 11 = .ok (.iload_n 1, 1) := by decide +kernel
theorem dX5_faultsTogether_12 : decode cX5_faultsTogether 12 = .ok (.iload_n 3, 1) := by decide +kernel
theorem dX5_faultsTogether_13 : decode cX5_faultsTogether 13 = .ok (.invokevirtual 133, 3) := by decide +kernel
theorem dX5_faultsTogether_16 : decode cX5_faultsTogether 16 = .ok (.invokestatic 136, 3) := by decide +kernel
theorem dX5_faultsTogether_19 : decode cX5_faultsTogether 19 = .ok (.iadd, 1) := by decide +kernel
theorem dX5_faultsTogether_20 : decode cX5_faultsTogether 20 = .ok (.istore_n 2, 1) := by decide +kernel
theorem dX5_faultsTogether_21 : decode cX5_faultsTogether 21 = .ok (.iinc 3 1, 3) := by decide +kernel
theorem dX5_faultsTogether_24 : decode cX5_faultsTogether 24 = .ok (.goto (-20), 3) := by decide +kernel
theorem dX5_faultsTogether_27 : decode cX5_faultsTogether 27 = .ok (.iload_n 2, 1) := by decide +kernel
theorem dX5_faultsTogether_28 : decode cX5_faultsTogether 28 = .ok (.ireturn, 1) := by decide +kernel
theorem dX5_stoolFor_0 : decode cX5_stoolFor 0 = .ok (.aload_n 0, 1) := by decide +kernel
theorem dX5_stoolFor_1 : decode cX5_stoolFor 1 = .ok (.iload_n 1, 1) := by decide +kernel
theorem dX5_stoolFor_2 : decode cX5_stoolFor 2 = .ok (.invokevirtual 83, 3) := by decide +kernel
theorem dX5_stoolFor_5 : decode cX5_stoolFor 5 = .ok (.ifCond .ne 10, 3) := by decide +kernel
theorem dX5_stoolFor_8 : decode cX5_stoolFor 8 = .ok (.aload_n 0, 1) := by decide +kernel
theorem dX5_stoolFor_9 : decode cX5_stoolFor 9 = .ok (.ldc 60, 2) := by decide +kernel
theorem dX5_stoolFor_11 : decode cX5_stoolFor 11 = .ok (.invokevirtual 66, 3) := by decide +kernel
theorem dX5_stoolFor_14 : decode cX5_stoolFor 14 = .ok (.ireturn, 1) := by decide +kernel
theorem dX5_stoolFor_15 : decode cX5_stoolFor 15 = .ok (.aload_n 0, 1) := by decide +kernel
theorem dX5_stoolFor_16 : decode cX5_stoolFor 16 = .ok (.getfield 9, 3) := by decide +kernel
theorem dX5_stoolFor_19 : decode cX5_stoolFor 19 = .ok (.iconst 3, 1) := by decide +kernel
theorem dX5_stoolFor_20 : decode cX5_stoolFor 20 = .ok (.iaload, 1) := by decide +kernel
theorem dX5_stoolFor_21 : decode cX5_stoolFor 21 = .ok (.istore_n 2, 1) := by decide +kernel
theorem dX5_stoolFor_22 : decode cX5_stoolFor 22 = .ok (.iconst 0, 1) := by decide +kernel
theorem dX5_stoolFor_23 : decode cX5_stoolFor 23 = .ok (.istore_n 3, 1) := by decide +kernel
theorem dX5_stoolFor_24 : decode cX5_stoolFor 24 = .ok (.bipush 99, 2) := by decide +kernel
theorem dX5_stoolFor_26 : decode cX5_stoolFor 26 = .ok (.istore 4, 2) := by decide +kernel
theorem dX5_stoolFor_28 : decode cX5_stoolFor 28 = .ok (.iconst 0, 1) := by decide +kernel
theorem dX5_stoolFor_29 : decode cX5_stoolFor 29 = .ok (.istore 5, 2) := by decide +kernel
theorem dX5_stoolFor_31 : decode cX5_stoolFor 31 = .ok (.iload 5, 2) := by decide +kernel
theorem dX5_stoolFor_33 : decode cX5_stoolFor 33 = .ok (.bipush 60, 2) := by decide +kernel
theorem dX5_stoolFor_35 : decode cX5_stoolFor 35 = .ok (.if_icmp .gt 47, 3) := by decide +kernel
theorem dX5_stoolFor_38 : decode cX5_stoolFor 38 = .ok (.aload_n 0, 1) := by decide +kernel
theorem dX5_stoolFor_39 : decode cX5_stoolFor 39 = .ok (.getfield 9, 3) := by decide +kernel
theorem dX5_stoolFor_42 : decode cX5_stoolFor 42 = .ok (.iconst 3, 1) := by decide +kernel
theorem dX5_stoolFor_43 : decode cX5_stoolFor 43 = .ok (.iload 5, 2) := by decide +kernel
theorem dX5_stoolFor_45 : decode cX5_stoolFor 45 = .ok (.iastore, 1) := by decide +kernel
theorem dX5_stoolFor_46 : decode cX5_stoolFor 46 = .ok (.aload_n 0, 1) := by decide +kernel
theorem dX5_stoolFor_47 : decode cX5_stoolFor 47 = .ok (.iload_n 1, 1) := by decide +kernel
theorem dX5_stoolFor_48 : decode cX5_stoolFor 48 = .ok (.invokevirtual 188, 3) := by decide +kernel
theorem dX5_stoolFor_51 : decode cX5_stoolFor 51 = .ok (.istore 6, 2) := by decide +kernel
theorem dX5_stoolFor_53 : decode cX5_stoolFor 53 = .ok (.iload 6, 2) := by decide +kernel
theorem dX5_stoolFor_55 : decode cX5_stoolFor 55 = .ok (.iload 4, 2) := by decide +kernel
theorem dX5_stoolFor_57 : decode cX5_stoolFor 57 = .ok (.if_icmp .ge 8, 3) := by decide +kernel
theorem dX5_stoolFor_60 : decode cX5_stoolFor 60 = .ok (.iload 5, 2) := by decide +kernel
theorem dX5_stoolFor_62 : decode cX5_stoolFor 62 = .ok (.goto 4, 3) := by decide +kernel
theorem dX5_stoolFor_65 : decode cX5_stoolFor 65 = .ok (.iload_n 3, 1) := by decide +kernel
theorem dX5_stoolFor_66 : decode cX5_stoolFor 66 = .ok (.istore_n 3, 1) := by decide +kernel
theorem dX5_stoolFor_67 : decode cX5_stoolFor 67 = .ok (.iload 4, 2) := by decide +kernel
theorem dX5_stoolFor_69 : decode cX5_stoolFor 69 = .ok (.iload 6, 2) := by decide +kernel
theorem dX5_stoolFor_71 : decode cX5_stoolFor 71 = .ok (.invokestatic 139, 3) := by decide +kernel
theorem dX5_stoolFor_74 : decode cX5_stoolFor 74 = .ok (.istore 4, 2) := by decide +kernel
theorem dX5_stoolFor_76 : decode cX5_stoolFor 76 = .ok (.iinc 5 1, 3) := by decide +kernel
theorem dX5_stoolFor_79 : decode cX5_stoolFor 79 = .ok (.goto (-48), 3) := by decide +kernel
theorem dX5_stoolFor_82 : decode cX5_stoolFor 82 = .ok (.aload_n 0, 1) := by decide +kernel
theorem dX5_stoolFor_83 : decode cX5_stoolFor 83 = .ok (.getfield 9, 3) := by decide +kernel
theorem dX5_stoolFor_86 : decode cX5_stoolFor 86 = .ok (.iconst 3, 1) := by decide +kernel
theorem dX5_stoolFor_87 : decode cX5_stoolFor 87 = .ok (.iload_n 2, 1) := by decide +kernel
theorem dX5_stoolFor_88 : decode cX5_stoolFor 88 = .ok (.iastore, 1) := by decide +kernel
theorem dX5_stoolFor_89 : decode cX5_stoolFor 89 = .ok (.iload_n 3, 1) := by decide +kernel
theorem dX5_stoolFor_90 : decode cX5_stoolFor 90 = .ok (.ireturn, 1) := by decide +kernel
theorem dX5_isThought_0 : decode cX5_isThought 0 = .ok (.iload_n 0, 1) := by decide +kernel
theorem dX5_isThought_1 : decode cX5_isThought 1 = .ok (.iconst 0, 1) := by decide +kernel
theorem dX5_isThought_2 : decode cX5_isThought 2 = .ok (.bipush 60, 2) := by decide +kernel
theorem dX5_isThought_4 : decode cX5_isThought 4 = .ok (.invokestatic 70, 3) := by decide +kernel
theorem dX5_isThought_7 : decode cX5_isThought 7 = .ok (.ireturn, 1) := by decide +kernel
theorem dX5_isTakenWith_0 : decode cX5_isTakenWith 0 = .ok (.aload_n 0, 1) := by decide +kernel
theorem dX5_isTakenWith_1 : decode cX5_isTakenWith 1 = .ok (.iload_n 1, 1) := by decide +kernel
theorem dX5_isTakenWith_2 : decode cX5_isTakenWith 2 = .ok (.iload_n 2, 1) := by decide +kernel
theorem dX5_isTakenWith_3 : decode cX5_isTakenWith 3 = .ok (.invokevirtual 79, 3) := by decide +kernel
theorem dX5_isTakenWith_6 : decode cX5_isTakenWith 6 = .ok (.istore 5, 2) := by decide +kernel
theorem dX5_isTakenWith_8 : decode cX5_isTakenWith 8 = .ok (.aload_n 0, 1) := by decide +kernel
theorem dX5_isTakenWith_9 : decode cX5_isTakenWith 9 = .ok (.iload_n 3, 1) := by decide +kernel
theorem dX5_isTakenWith_10 : decode cX5_isTakenWith 10 = .ok (.iconst 5, 1) := by decide +kernel
theorem dX5_isTakenWith_11 : decode cX5_isTakenWith 11 = .ok (.invokestatic 93, 3) := by decide +kernel
theorem dX5_isTakenWith_14 : decode cX5_isTakenWith 14 = .ok (.iload 4, 2) := by decide +kernel
theorem dX5_isTakenWith_16 : decode cX5_isTakenWith 16 = .ok (.invokevirtual 178, 3) := by decide +kernel
theorem dX5_isTakenWith_19 : decode cX5_isTakenWith 19 = .ok (.aload_n 0, 1) := by decide +kernel
theorem dX5_isTakenWith_20 : decode cX5_isTakenWith 20 = .ok (.iload_n 3, 1) := by decide +kernel
theorem dX5_isTakenWith_21 : decode cX5_isTakenWith 21 = .ok (.iconst 5, 1) := by decide +kernel
theorem dX5_isTakenWith_22 : decode cX5_isTakenWith 22 = .ok (.invokevirtual 104, 3) := by decide +kernel
theorem dX5_isTakenWith_25 : decode cX5_isTakenWith 25 = .ok (.if_icmp .le 7, 3) := by decide +kernel
theorem dX5_isTakenWith_28 : decode cX5_isTakenWith 28 = .ok (.iconst 1, 1) := by decide +kernel
theorem dX5_isTakenWith_29 : decode cX5_isTakenWith 29 = .ok (.goto 4, 3) := by decide +kernel
theorem dX5_isTakenWith_32 : decode cX5_isTakenWith 32 = .ok (.iconst 0, 1) := by decide +kernel
theorem dX5_isTakenWith_33 : decode cX5_isTakenWith 33 = .ok (.istore 6, 2) := by decide +kernel
theorem dX5_isTakenWith_35 : decode cX5_isTakenWith 35 = .ok (.aload_n 0, 1) := by decide +kernel
theorem dX5_isTakenWith_36 : decode cX5_isTakenWith 36 = .ok (.getfield 9, 3) := by decide +kernel
theorem dX5_isTakenWith_39 : decode cX5_isTakenWith 39 = .ok (.iload_n 1, 1) := by decide +kernel
theorem dX5_isTakenWith_40 : decode cX5_isTakenWith 40 = .ok (.iload 5, 2) := by decide +kernel
theorem dX5_isTakenWith_42 : decode cX5_isTakenWith 42 = .ok (.iastore, 1) := by decide +kernel
theorem dX5_isTakenWith_43 : decode cX5_isTakenWith 43 = .ok (.iload 6, 2) := by decide +kernel
theorem dX5_isTakenWith_45 : decode cX5_isTakenWith 45 = .ok (.ireturn, 1) := by decide +kernel
theorem dX5_lightFor_0 : decode cX5_lightFor 0 = .ok (.aload_n 0, 1) := by decide +kernel
theorem dX5_lightFor_1 : decode cX5_lightFor 1 = .ok (.iload_n 1, 1) := by decide +kernel
theorem dX5_lightFor_2 : decode cX5_lightFor 2 = .ok (.invokevirtual 83, 3) := by decide +kernel
theorem dX5_lightFor_5 : decode cX5_lightFor 5 = .ok (.ifCond .eq 10, 3) := by decide +kernel
theorem dX5_lightFor_8 : decode cX5_lightFor 8 = .ok (.iload_n 2, 1) := by decide +kernel
theorem dX5_lightFor_9 : decode cX5_lightFor 9 = .ok (.invokestatic 191, 3) := by decide +kernel
theorem dX5_lightFor_12 : decode cX5_lightFor 12 = .ok (.ifCond .ne 10, 3) := by decide +kernel
theorem dX5_lightFor_15 : decode cX5_lightFor 15 = .ok (.aload_n 0, 1) := by decide +kernel
theorem dX5_lightFor_16 : decode cX5_lightFor 16 = .ok (.ldc 60, 2) := by decide +kernel
theorem dX5_lightFor_18 : decode cX5_lightFor 18 = .ok (.invokevirtual 66, 3) := by decide +kernel
theorem dX5_lightFor_21 : decode cX5_lightFor 21 = .ok (.ireturn, 1) := by decide +kernel
theorem dX5_lightFor_22 : decode cX5_lightFor 22 = .ok (.iconst (-1), 1) := by decide +kernel
theorem dX5_lightFor_23 : decode cX5_lightFor 23 = .ok (.istore_n 3, 1) := by decide +kernel
theorem dX5_lightFor_24 : decode cX5_lightFor 24 = .ok (.bipush 9, 2) := by decide +kernel
theorem dX5_lightFor_26 : decode cX5_lightFor 26 = .ok (.istore 4, 2) := by decide +kernel
theorem dX5_lightFor_28 : decode cX5_lightFor 28 = .ok (.iload 4, 2) := by decide +kernel
theorem dX5_lightFor_30 : decode cX5_lightFor 30 = .ok (.ifCond .lt 28, 3) := by decide +kernel
theorem dX5_lightFor_33 : decode cX5_lightFor 33 = .ok (.aload_n 0, 1) := by decide +kernel
theorem dX5_lightFor_34 : decode cX5_lightFor 34 = .ok (.iconst 4, 1) := by decide +kernel
theorem dX5_lightFor_35 : decode cX5_lightFor 35 = .ok (.iload 4, 2) := by decide +kernel
theorem dX5_lightFor_37 : decode cX5_lightFor 37 = .ok (.iload_n 1, 1) := by decide +kernel
theorem dX5_lightFor_38 : decode cX5_lightFor 38 = .ok (.iload_n 2, 1) := by decide +kernel
theorem dX5_lightFor_39 : decode cX5_lightFor 39 = .ok (.invokevirtual 194, 3) := by decide +kernel
theorem dX5_lightFor_42 : decode cX5_lightFor 42 = .ok (.ifCond .eq 8, 3) := by decide +kernel
theorem dX5_lightFor_45 : decode cX5_lightFor 45 = .ok (.iload 4, 2) := by decide +kernel
theorem dX5_lightFor_47 : decode cX5_lightFor 47 = .ok (.goto 4, 3) := by decide +kernel
theorem dX5_lightFor_50 : decode cX5_lightFor 50 = .ok (.iload_n 3, 1) := by decide +kernel
theorem dX5_lightFor_51 : decode cX5_lightFor 51 = .ok (.istore_n 3, 1) := by decide +kernel
theorem dX5_lightFor_52 : decode cX5_lightFor 52 = .ok (.iinc 4 (-1), 3) := by decide +kernel
theorem dX5_lightFor_55 : decode cX5_lightFor 55 = .ok (.goto (-27), 3) := by decide +kernel
theorem dX5_lightFor_58 : decode cX5_lightFor 58 = .ok (.aload_n 0, 1) := by decide +kernel
theorem dX5_lightFor_59 : decode cX5_lightFor 59 = .ok (.iload_n 3, 1) := by decide +kernel
theorem dX5_lightFor_60 : decode cX5_lightFor 60 = .ok (.invokevirtual 181, 3) := by decide +kernel
theorem dX5_lightFor_63 : decode cX5_lightFor 63 = .ok (.ireturn, 1) := by decide +kernel
theorem dX5_merryFor_0 : decode cX5_merryFor 0 = .ok (.aload_n 0, 1) := by decide +kernel
theorem dX5_merryFor_1 : decode cX5_merryFor 1 = .ok (.iload_n 1, 1) := by decide +kernel
theorem dX5_merryFor_2 : decode cX5_merryFor 2 = .ok (.invokevirtual 83, 3) := by decide +kernel
theorem dX5_merryFor_5 : decode cX5_merryFor 5 = .ok (.ifCond .eq 10, 3) := by decide +kernel
theorem dX5_merryFor_8 : decode cX5_merryFor 8 = .ok (.iload_n 2, 1) := by decide +kernel
theorem dX5_merryFor_9 : decode cX5_merryFor 9 = .ok (.invokestatic 191, 3) := by decide +kernel
theorem dX5_merryFor_12 : decode cX5_merryFor 12 = .ok (.ifCond .ne 10, 3) := by decide +kernel
theorem dX5_merryFor_15 : decode cX5_merryFor 15 = .ok (.aload_n 0, 1) := by decide +kernel
theorem dX5_merryFor_16 : decode cX5_merryFor 16 = .ok (.ldc 60, 2) := by decide +kernel
theorem dX5_merryFor_18 : decode cX5_merryFor 18 = .ok (.invokevirtual 66, 3) := by decide +kernel
theorem dX5_merryFor_21 : decode cX5_merryFor 21 = .ok (.ireturn, 1) := by decide +kernel
theorem dX5_merryFor_22 : decode cX5_merryFor 22 = .ok (.iconst (-1), 1) := by decide +kernel
theorem dX5_merryFor_23 : decode cX5_merryFor 23 = .ok (.istore_n 3, 1) := by decide +kernel
theorem dX5_merryFor_24 : decode cX5_merryFor 24 = .ok (.iconst 0, 1) := by decide +kernel
theorem dX5_merryFor_25 : decode cX5_merryFor 25 = .ok (.istore 4, 2) := by decide +kernel
theorem dX5_merryFor_27 : decode cX5_merryFor 27 = .ok (.iload 4, 2) := by decide +kernel
theorem dX5_merryFor_29 : decode cX5_merryFor 29 = .ok (.bipush 9, 2) := by decide +kernel
theorem dX5_merryFor_31 : decode cX5_merryFor 31 = .ok (.if_icmp .gt 32, 3) := by decide +kernel
theorem dX5_merryFor_34 : decode cX5_merryFor 34 = .ok (.aload_n 0, 1) := by decide +kernel
theorem dX5_merryFor_35 : decode cX5_merryFor 35 = .ok (.iload_n 1, 1) := by decide +kernel
theorem dX5_merryFor_36 : decode cX5_merryFor 36 = .ok (.iconst 3, 1) := by decide +kernel
theorem dX5_merryFor_37 : decode cX5_merryFor 37 = .ok (.invokestatic 93, 3) := by decide +kernel
theorem dX5_merryFor_40 : decode cX5_merryFor 40 = .ok (.iload 4, 2) := by decide +kernel
theorem dX5_merryFor_42 : decode cX5_merryFor 42 = .ok (.iload_n 1, 1) := by decide +kernel
theorem dX5_merryFor_43 : decode cX5_merryFor 43 = .ok (.iload_n 2, 1) := by decide +kernel
theorem dX5_merryFor_44 : decode cX5_merryFor 44 = .ok (.invokevirtual 194, 3) := by decide +kernel
theorem dX5_merryFor_47 : decode cX5_merryFor 47 = .ok (.ifCond .eq 8, 3) := by decide +kernel
theorem dX5_merryFor_50 : decode cX5_merryFor 50 = .ok (.iload 4, 2) := by decide +kernel
theorem dX5_merryFor_52 : decode cX5_merryFor 52 = .ok (.goto 4, 3) := by decide +kernel
theorem dX5_merryFor_55 : decode cX5_merryFor 55 = .ok (.iload_n 3, 1) := by decide +kernel
theorem dX5_merryFor_56 : decode cX5_merryFor 56 = .ok (.istore_n 3, 1) := by decide +kernel
theorem dX5_merryFor_57 : decode cX5_merryFor 57 = .ok (.iinc 4 1, 3) := by decide +kernel
theorem dX5_merryFor_60 : decode cX5_merryFor 60 = .ok (.goto (-33), 3) := by decide +kernel
theorem dX5_merryFor_63 : decode cX5_merryFor 63 = .ok (.aload_n 0, 1) := by decide +kernel
theorem dX5_merryFor_64 : decode cX5_merryFor 64 = .ok (.iload_n 3, 1) := by decide +kernel
theorem dX5_merryFor_65 : decode cX5_merryFor 65 = .ok (.invokevirtual 181, 3) := by decide +kernel
theorem dX5_merryFor_68 : decode cX5_merryFor 68 = .ok (.ireturn, 1) := by decide +kernel
theorem dX5_takenWith_0 : decode cX5_takenWith 0 = .ok (.aload_n 0, 1) := by decide +kernel
theorem dX5_takenWith_1 : decode cX5_takenWith 1 = .ok (.iload_n 1, 1) := by decide +kernel
theorem dX5_takenWith_2 : decode cX5_takenWith 2 = .ok (.iload_n 2, 1) := by decide +kernel
theorem dX5_takenWith_3 : decode cX5_takenWith 3 = .ok (.invokevirtual 79, 3) := by decide +kernel
theorem dX5_takenWith_6 : decode cX5_takenWith 6 = .ok (.istore 5, 2) := by decide +kernel
theorem dX5_takenWith_8 : decode cX5_takenWith 8 = .ok (.aload_n 0, 1) := by decide +kernel
theorem dX5_takenWith_9 : decode cX5_takenWith 9 = .ok (.iload_n 3, 1) := by decide +kernel
theorem dX5_takenWith_10 : decode cX5_takenWith 10 = .ok (.iconst 5, 1) := by decide +kernel
theorem dX5_takenWith_11 : decode cX5_takenWith 11 = .ok (.invokestatic 93, 3) := by decide +kernel
theorem dX5_takenWith_14 : decode cX5_takenWith 14 = .ok (.iload 4, 2) := by decide +kernel
theorem dX5_takenWith_16 : decode cX5_takenWith 16 = .ok (.invokevirtual 178, 3) := by decide +kernel
theorem dX5_takenWith_19 : decode cX5_takenWith 19 = .ok (.istore 6, 2) := by decide +kernel
theorem dX5_takenWith_21 : decode cX5_takenWith 21 = .ok (.aload_n 0, 1) := by decide +kernel
theorem dX5_takenWith_22 : decode cX5_takenWith 22 = .ok (.getfield 9, 3) := by decide +kernel
theorem dX5_takenWith_25 : decode cX5_takenWith 25 = .ok (.iload_n 1, 1) := by decide +kernel
theorem dX5_takenWith_26 : decode cX5_takenWith 26 = .ok (.iload 5, 2) := by decide +kernel
theorem dX5_takenWith_28 : decode cX5_takenWith 28 = .ok (.iastore, 1) := by decide +kernel
theorem dX5_takenWith_29 : decode cX5_takenWith 29 = .ok (.iload 6, 2) := by decide +kernel
theorem dX5_takenWith_31 : decode cX5_takenWith 31 = .ok (.ireturn, 1) := by decide +kernel
theorem dX5_turnFor_0 : decode cX5_turnFor 0 = .ok (.aload_n 0, 1) := by decide +kernel
theorem dX5_turnFor_1 : decode cX5_turnFor 1 = .ok (.iload_n 1, 1) := by decide +kernel
theorem dX5_turnFor_2 : decode cX5_turnFor 2 = .ok (.invokevirtual 83, 3) := by decide +kernel
theorem dX5_turnFor_5 : decode cX5_turnFor 5 = .ok (.ifCond .eq 10, 3) := by decide +kernel
theorem dX5_turnFor_8 : decode cX5_turnFor 8 = .ok (.iload_n 2, 1) := by decide +kernel
theorem dX5_turnFor_9 : decode cX5_turnFor 9 = .ok (.invokestatic 191, 3) := by decide +kernel
theorem dX5_turnFor_12 : decode cX5_turnFor 12 = .ok (.ifCond .ne 10, 3) := by decide +kernel
theorem dX5_turnFor_15 : decode cX5_turnFor 15 = .ok (.aload_n 0, 1) := by decide +kernel
theorem dX5_turnFor_16 : decode cX5_turnFor 16 = .ok (.ldc 60, 2) := by decide +kernel
theorem dX5_turnFor_18 : decode cX5_turnFor 18 = .ok (.invokevirtual 66, 3) := by decide +kernel
theorem dX5_turnFor_21 : decode cX5_turnFor 21 = .ok (.ireturn, 1) := by decide +kernel
theorem dX5_turnFor_22 : decode cX5_turnFor 22 = .ok (.iconst 0, 1) := by decide +kernel
theorem dX5_turnFor_23 : decode cX5_turnFor 23 = .ok (.istore_n 3, 1) := by decide +kernel
theorem dX5_turnFor_24 : decode cX5_turnFor 24 = .ok (.iconst (-1), 1) := by decide +kernel
theorem dX5_turnFor_25 : decode cX5_turnFor 25 = .ok (.istore 4, 2) := by decide +kernel
theorem dX5_turnFor_27 : decode cX5_turnFor 27 = .ok (.iconst 0, 1) := by decide +kernel
theorem dX5_turnFor_28 : decode cX5_turnFor 28 = .ok (.istore 5, 2) := by decide +kernel
theorem dX5_turnFor_30 : decode cX5_turnFor 30 = .ok (.iload 5, 2) := by decide +kernel
theorem dX5_turnFor_32 : decode cX5_turnFor 32 = .ok (.bipush 6, 2) := by decide +kernel
theorem dX5_turnFor_34 : decode cX5_turnFor 34 = .ok (.if_icmp .ge 46, 3) := by decide +kernel
theorem dX5_turnFor_37 : decode cX5_turnFor 37 = .ok (.aload_n 0, 1) := by decide +kernel
theorem dX5_turnFor_38 : decode cX5_turnFor 38 = .ok (.bipush 17, 2) := by decide +kernel
theorem dX5_turnFor_40 : decode cX5_turnFor 40 = .ok (.iload 5, 2) := by decide +kernel
theorem dX5_turnFor_42 : decode cX5_turnFor 42 = .ok (.iadd, 1) := by decide +kernel
theorem dX5_turnFor_43 : decode cX5_turnFor 43 = .ok (.iload_n 1, 1) := by decide +kernel
theorem dX5_turnFor_44 : decode cX5_turnFor 44 = .ok (.iload_n 1, 1) := by decide +kernel
theorem dX5_turnFor_45 : decode cX5_turnFor 45 = .ok (.iload_n 2, 1) := by decide +kernel
theorem dX5_turnFor_46 : decode cX5_turnFor 46 = .ok (.invokevirtual 198, 3) := by decide +kernel
theorem dX5_turnFor_49 : decode cX5_turnFor 49 = .ok (.istore 6, 2) := by decide +kernel
theorem dX5_turnFor_51 : decode cX5_turnFor 51 = .ok (.iload 6, 2) := by decide +kernel
theorem dX5_turnFor_53 : decode cX5_turnFor 53 = .ok (.iload 4, 2) := by decide +kernel
theorem dX5_turnFor_55 : decode cX5_turnFor 55 = .ok (.if_icmp .le 8, 3) := by decide +kernel
theorem dX5_turnFor_58 : decode cX5_turnFor 58 = .ok (.iload 5, 2) := by decide +kernel
theorem dX5_turnFor_60 : decode cX5_turnFor 60 = .ok (.goto 4, 3) := by decide +kernel
theorem dX5_turnFor_63 : decode cX5_turnFor 63 = .ok (.iload_n 3, 1) := by decide +kernel
theorem dX5_turnFor_64 : decode cX5_turnFor 64 = .ok (.istore_n 3, 1) := by decide +kernel
theorem dX5_turnFor_65 : decode cX5_turnFor 65 = .ok (.iload 4, 2) := by decide +kernel
theorem dX5_turnFor_67 : decode cX5_turnFor 67 = .ok (.iload 6, 2) := by decide +kernel
theorem dX5_turnFor_69 : decode cX5_turnFor 69 = .ok (.invokestatic 142, 3) := by decide +kernel
theorem dX5_turnFor_72 : decode cX5_turnFor 72 = .ok (.istore 4, 2) := by decide +kernel
theorem dX5_turnFor_74 : decode cX5_turnFor 74 = .ok (.iinc 5 1, 3) := by decide +kernel
theorem dX5_turnFor_77 : decode cX5_turnFor 77 = .ok (.goto (-47), 3) := by decide +kernel
theorem dX5_turnFor_80 : decode cX5_turnFor 80 = .ok (.iload_n 3, 1) := by decide +kernel
theorem dX5_turnFor_81 : decode cX5_turnFor 81 = .ok (.ireturn, 1) := by decide +kernel
theorem dX5_kindFor_0 : decode cX5_kindFor 0 = .ok (.aload_n 0, 1) := by decide +kernel
theorem dX5_kindFor_1 : decode cX5_kindFor 1 = .ok (.iload_n 1, 1) := by decide +kernel
theorem dX5_kindFor_2 : decode cX5_kindFor 2 = .ok (.invokevirtual 83, 3) := by decide +kernel
theorem dX5_kindFor_5 : decode cX5_kindFor 5 = .ok (.ifCond .eq 10, 3) := by decide +kernel
theorem dX5_kindFor_8 : decode cX5_kindFor 8 = .ok (.iload_n 2, 1) := by decide +kernel
theorem dX5_kindFor_9 : decode cX5_kindFor 9 = .ok (.invokestatic 191, 3) := by decide +kernel
theorem dX5_kindFor_12 : decode cX5_kindFor 12 = .ok (.ifCond .ne 10, 3) := by decide +kernel
theorem dX5_kindFor_15 : decode cX5_kindFor 15 = .ok (.aload_n 0, 1) := by decide +kernel
theorem dX5_kindFor_16 : decode cX5_kindFor 16 = .ok (.ldc 60, 2) := by decide +kernel
theorem dX5_kindFor_18 : decode cX5_kindFor 18 = .ok (.invokevirtual 66, 3) := by decide +kernel
theorem dX5_kindFor_21 : decode cX5_kindFor 21 = .ok (.ireturn, 1) := by decide +kernel
theorem dX5_kindFor_22 : decode cX5_kindFor 22 = .ok (.iconst 0, 1) := by decide +kernel
theorem dX5_kindFor_23 : decode cX5_kindFor 23 = .ok (.istore_n 3, 1) := by decide +kernel
theorem dX5_kindFor_24 : decode cX5_kindFor 24 = .ok (.iconst (-1), 1) := by decide +kernel
theorem dX5_kindFor_25 : decode cX5_kindFor 25 = .ok (.istore 4, 2) := by decide +kernel
theorem dX5_kindFor_27 : decode cX5_kindFor 27 = .ok (.iconst 0, 1) := by decide +kernel
theorem dX5_kindFor_28 : decode cX5_kindFor 28 = .ok (.istore 5, 2) := by decide +kernel
theorem dX5_kindFor_30 : decode cX5_kindFor 30 = .ok (.iload 5, 2) := by decide +kernel
theorem dX5_kindFor_32 : decode cX5_kindFor 32 = .ok (.bipush 6, 2) := by decide +kernel
theorem dX5_kindFor_34 : decode cX5_kindFor 34 = .ok (.if_icmp .gt 47, 3) := by decide +kernel
theorem dX5_kindFor_37 : decode cX5_kindFor 37 = .ok (.aload_n 0, 1) := by decide +kernel
theorem dX5_kindFor_38 : decode cX5_kindFor 38 = .ok (.iload_n 1, 1) := by decide +kernel
theorem dX5_kindFor_39 : decode cX5_kindFor 39 = .ok (.iconst 0, 1) := by decide +kernel
theorem dX5_kindFor_40 : decode cX5_kindFor 40 = .ok (.invokestatic 93, 3) := by decide +kernel
theorem dX5_kindFor_43 : decode cX5_kindFor 43 = .ok (.iload 5, 2) := by decide +kernel
theorem dX5_kindFor_45 : decode cX5_kindFor 45 = .ok (.iload_n 1, 1) := by decide +kernel
theorem dX5_kindFor_46 : decode cX5_kindFor 46 = .ok (.iload_n 2, 1) := by decide +kernel
theorem dX5_kindFor_47 : decode cX5_kindFor 47 = .ok (.invokevirtual 198, 3) := by decide +kernel
theorem dX5_kindFor_50 : decode cX5_kindFor 50 = .ok (.istore 6, 2) := by decide +kernel
theorem dX5_kindFor_52 : decode cX5_kindFor 52 = .ok (.iload 6, 2) := by decide +kernel
theorem dX5_kindFor_54 : decode cX5_kindFor 54 = .ok (.iload 4, 2) := by decide +kernel
theorem dX5_kindFor_56 : decode cX5_kindFor 56 = .ok (.if_icmp .le 8, 3) := by decide +kernel
theorem dX5_kindFor_59 : decode cX5_kindFor 59 = .ok (.iload 5, 2) := by decide +kernel
theorem dX5_kindFor_61 : decode cX5_kindFor 61 = .ok (.goto 4, 3) := by decide +kernel
theorem dX5_kindFor_64 : decode cX5_kindFor 64 = .ok (.iload_n 3, 1) := by decide +kernel
theorem dX5_kindFor_65 : decode cX5_kindFor 65 = .ok (.istore_n 3, 1) := by decide +kernel
theorem dX5_kindFor_66 : decode cX5_kindFor 66 = .ok (.iload 4, 2) := by decide +kernel
theorem dX5_kindFor_68 : decode cX5_kindFor 68 = .ok (.iload 6, 2) := by decide +kernel
theorem dX5_kindFor_70 : decode cX5_kindFor 70 = .ok (.invokestatic 142, 3) := by decide +kernel
theorem dX5_kindFor_73 : decode cX5_kindFor 73 = .ok (.istore 4, 2) := by decide +kernel
theorem dX5_kindFor_75 : decode cX5_kindFor 75 = .ok (.iinc 5 1, 3) := by decide +kernel
theorem dX5_kindFor_78 : decode cX5_kindFor 78 = .ok (.goto (-48), 3) := by decide +kernel
theorem dX5_kindFor_81 : decode cX5_kindFor 81 = .ok (.iload_n 3, 1) := by decide +kernel
theorem dX5_kindFor_82 : decode cX5_kindFor 82 = .ok (.ireturn, 1) := by decide +kernel
theorem dX5_priceFor_0 : decode cX5_priceFor 0 = .ok (.iload_n 1, 1) := by decide +kernel
theorem dX5_priceFor_1 : decode cX5_priceFor 1 = .ok (.invokestatic 191, 3) := by decide +kernel
theorem dX5_priceFor_4 : decode cX5_priceFor 4 = .ok (.ifCond .ne 10, 3) := by decide +kernel
theorem dX5_priceFor_7 : decode cX5_priceFor 7 = .ok (.aload_n 0, 1) := by decide +kernel
theorem dX5_priceFor_8 : decode cX5_priceFor 8 = .ok (.ldc 60, 2) := by decide +kernel
theorem dX5_priceFor_10 : decode cX5_priceFor 10 = .ok (.invokevirtual 66, 3) := by decide +kernel
theorem dX5_priceFor_13 : decode cX5_priceFor 13 = .ok (.ireturn, 1) := by decide +kernel
theorem dX5_priceFor_14 : decode cX5_priceFor 14 = .ok (.aload_n 0, 1) := by decide +kernel
theorem dX5_priceFor_15 : decode cX5_priceFor 15 = .ok (.getfield 9, 3) := by decide +kernel
theorem dX5_priceFor_18 : decode cX5_priceFor 18 = .ok (.iconst 5, 1) := by decide +kernel
theorem dX5_priceFor_19 : decode cX5_priceFor 19 = .ok (.iaload, 1) := by decide +kernel
theorem dX5_priceFor_20 : decode cX5_priceFor 20 = .ok (.istore_n 2, 1) := by decide +kernel
theorem dX5_priceFor_21 : decode cX5_priceFor 21 = .ok (.iconst 0, 1) := by decide +kernel
theorem dX5_priceFor_22 : decode cX5_priceFor 22 = .ok (.istore_n 3, 1) := by decide +kernel
theorem dX5_priceFor_23 : decode cX5_priceFor 23 = .ok (.iconst (-1), 1) := by decide +kernel
theorem dX5_priceFor_24 : decode cX5_priceFor 24 = .ok (.istore 4, 2) := by decide +kernel
theorem dX5_priceFor_26 : decode cX5_priceFor 26 = .ok (.iconst 0, 1) := by decide +kernel
theorem dX5_priceFor_27 : decode cX5_priceFor 27 = .ok (.istore 5, 2) := by decide +kernel
theorem dX5_priceFor_29 : decode cX5_priceFor 29 = .ok (.iload 5, 2) := by decide +kernel
theorem dX5_priceFor_31 : decode cX5_priceFor 31 = .ok (.bipush 20, 2) := by decide +kernel
theorem dX5_priceFor_33 : decode cX5_priceFor 33 = .ok (.if_icmp .gt 49, 3) := by decide +kernel
theorem dX5_priceFor_36 : decode cX5_priceFor 36 = .ok (.aload_n 0, 1) := by decide +kernel
theorem dX5_priceFor_37 : decode cX5_priceFor 37 = .ok (.getfield 9, 3) := by decide +kernel
theorem dX5_priceFor_40 : decode cX5_priceFor 40 = .ok (.iconst 5, 1) := by decide +kernel
theorem dX5_priceFor_41 : decode cX5_priceFor 41 = .ok (.iload 5, 2) := by decide +kernel
theorem dX5_priceFor_43 : decode cX5_priceFor 43 = .ok (.iastore, 1) := by decide +kernel
theorem dX5_priceFor_44 : decode cX5_priceFor 44 = .ok (.aload_n 0, 1) := by decide +kernel
theorem dX5_priceFor_45 : decode cX5_priceFor 45 = .ok (.bipush 6, 2) := by decide +kernel
theorem dX5_priceFor_47 : decode cX5_priceFor 47 = .ok (.iload_n 1, 1) := by decide +kernel
theorem dX5_priceFor_48 : decode cX5_priceFor 48 = .ok (.invokevirtual 178, 3) := by decide +kernel
theorem dX5_priceFor_51 : decode cX5_priceFor 51 = .ok (.istore 6, 2) := by decide +kernel
theorem dX5_priceFor_53 : decode cX5_priceFor 53 = .ok (.iload 6, 2) := by decide +kernel
theorem dX5_priceFor_55 : decode cX5_priceFor 55 = .ok (.iload 4, 2) := by decide +kernel
theorem dX5_priceFor_57 : decode cX5_priceFor 57 = .ok (.if_icmp .le 8, 3) := by decide +kernel
theorem dX5_priceFor_60 : decode cX5_priceFor 60 = .ok (.iload 5, 2) := by decide +kernel
theorem dX5_priceFor_62 : decode cX5_priceFor 62 = .ok (.goto 4, 3) := by decide +kernel
theorem dX5_priceFor_65 : decode cX5_priceFor 65 = .ok (.iload_n 3, 1) := by decide +kernel
theorem dX5_priceFor_66 : decode cX5_priceFor 66 = .ok (.istore_n 3, 1) := by decide +kernel
theorem dX5_priceFor_67 : decode cX5_priceFor 67 = .ok (.iload 4, 2) := by decide +kernel
theorem dX5_priceFor_69 : decode cX5_priceFor 69 = .ok (.iload 6, 2) := by decide +kernel
theorem dX5_priceFor_71 : decode cX5_priceFor 71 = .ok (.invokestatic 142, 3) := by decide +kernel
theorem dX5_priceFor_74 : decode cX5_priceFor 74 = .ok (.istore 4, 2) := by decide +kernel
theorem dX5_priceFor_76 : decode cX5_priceFor 76 = .ok (.iinc 5 1, 3) := by decide +kernel
theorem dX5_priceFor_79 : decode cX5_priceFor 79 = .ok (.goto (-50), 3) := by decide +kernel
theorem dX5_priceFor_82 : decode cX5_priceFor 82 = .ok (.aload_n 0, 1) := by decide +kernel
theorem dX5_priceFor_83 : decode cX5_priceFor 83 = .ok (.getfield 9, 3) := by decide +kernel
theorem dX5_priceFor_86 : decode cX5_priceFor 86 = .ok (.iconst 5, 1) := by decide +kernel
theorem dX5_priceFor_87 : decode cX5_priceFor 87 = .ok (.iload_n 2, 1) := by decide +kernel
theorem dX5_priceFor_88 : decode cX5_priceFor 88 = .ok (.iastore, 1) := by decide +kernel
theorem dX5_priceFor_89 : decode cX5_priceFor 89 = .ok (.iload_n 3, 1) := by decide +kernel
theorem dX5_priceFor_90 : decode cX5_priceFor 90 = .ok (.ireturn, 1) := by decide +kernel
theorem dX5_takenWithout_0 : decode cX5_takenWithout 0 = .ok (.aload_n 0, 1) := by decide +kernel
theorem dX5_takenWithout_1 : decode cX5_takenWithout 1 = .ok (.getfield 9, 3) := by decide +kernel
theorem dX5_takenWithout_4 : decode cX5_takenWithout 4 = .ok (.aload_n 0, 1) := by decide +kernel
theorem dX5_takenWithout_5 : decode cX5_takenWithout 5 = .ok (.getfield 16, 3) := by decide +kernel
theorem dX5_takenWithout_8 : decode cX5_takenWithout 8 = .ok (.invokestatic 61, 3) := by decide +kernel
theorem dX5_takenWithout_11 : decode cX5_takenWithout 11 = .ok (.iconst 0, 1) := by decide +kernel
theorem dX5_takenWithout_12 : decode cX5_takenWithout 12 = .ok (.istore 4, 2) := by decide +kernel
theorem dX5_takenWithout_14 : decode cX5_takenWithout 14 = .ok (.iload 4, 2) := by decide +kernel
theorem dX5_takenWithout_16 : decode cX5_takenWithout 16 = .ok (.bipush 6, 2) := by decide +kernel
theorem dX5_takenWithout_18 : decode cX5_takenWithout 18 = .ok (.if_icmp .ge 51, 3) := by decide +kernel
theorem dX5_takenWithout_21 : decode cX5_takenWithout 21 = .ok (.aload_n 0, 1) := by decide +kernel
theorem dX5_takenWithout_22 : decode cX5_takenWithout 22 = .ok (.getfield 9, 3) := by decide +kernel
theorem dX5_takenWithout_25 : decode cX5_takenWithout 25 = .ok (.bipush 17, 2) := by decide +kernel
theorem dX5_takenWithout_27 : decode cX5_takenWithout 27 = .ok (.iload 4, 2) := by decide +kernel
theorem dX5_takenWithout_29 : decode cX5_takenWithout 29 = .ok (.iadd, 1) := by decide +kernel
theorem dX5_takenWithout_30 : decode cX5_takenWithout 30 = .ok (.iaload, 1) := by decide +kernel
theorem dX5_takenWithout_31 : decode cX5_takenWithout 31 = .ok (.istore 5, 2) := by decide +kernel
theorem dX5_takenWithout_33 : decode cX5_takenWithout 33 = .ok (.aload_n 0, 1) := by decide +kernel
theorem dX5_takenWithout_34 : decode cX5_takenWithout 34 = .ok (.getfield 9, 3) := by decide +kernel
theorem dX5_takenWithout_37 : decode cX5_takenWithout 37 = .ok (.bipush 17, 2) := by decide +kernel
theorem dX5_takenWithout_39 : decode cX5_takenWithout 39 = .ok (.iload 4, 2) := by decide +kernel
theorem dX5_takenWithout_41 : decode cX5_takenWithout 41 = .ok (.iadd, 1) := by decide +kernel
theorem dX5_takenWithout_42 : decode cX5_takenWithout 42 = .ok (.iload 5, 2) := by decide +kernel
theorem dX5_takenWithout_44 : decode cX5_takenWithout 44 = .ok (.ifCond .lt 16, 3) := by decide +kernel
theorem dX5_takenWithout_47 : decode cX5_takenWithout 47 = .ok (.iload_n 1, 1) := by decide +kernel
theorem dX5_takenWithout_48 : decode cX5_takenWithout 48 = .ok (.iload 5, 2) := by decide +kernel
theorem dX5_takenWithout_50 : decode cX5_takenWithout 50 = .ok (.invokestatic 202, 3) := by decide +kernel
theorem dX5_takenWithout_53 : decode cX5_takenWithout 53 = .ok (.ifCond .eq 7, 3) := by decide +kernel
theorem dX5_takenWithout_56 : decode cX5_takenWithout 56 = .ok (.iconst (-1), 1) := by decide +kernel
theorem dX5_takenWithout_57 : decode cX5_takenWithout 57 = .ok (.goto 5, 3) := by decide +kernel
theorem dX5_takenWithout_60 : decode cX5_takenWithout 60 = .ok (.iload 5, 2) := by decide +kernel
theorem dX5_takenWithout_62 : decode cX5_takenWithout 62 = .ok (.iastore, 1) := by decide +kernel
theorem dX5_takenWithout_63 : decode cX5_takenWithout 63 = .ok (.iinc 4 1, 3) := by decide +kernel
theorem dX5_takenWithout_66 : decode cX5_takenWithout 66 = .ok (.goto (-52), 3) := by decide +kernel
theorem dX5_takenWithout_69 : decode cX5_takenWithout 69 = .ok (.aload_n 0, 1) := by decide +kernel
theorem dX5_takenWithout_70 : decode cX5_takenWithout 70 = .ok (.iload_n 3, 1) := by decide +kernel
theorem dX5_takenWithout_71 : decode cX5_takenWithout 71 = .ok (.invokevirtual 163, 3) := by decide +kernel
theorem dX5_takenWithout_74 : decode cX5_takenWithout 74 = .ok (.aload_n 0, 1) := by decide +kernel
theorem dX5_takenWithout_75 : decode cX5_takenWithout 75 = .ok (.aload_n 0, 1) := by decide +kernel
theorem dX5_takenWithout_76 : decode cX5_takenWithout 76 = .ok (.iload_n 2, 1) := by decide +kernel
theorem dX5_takenWithout_77 : decode cX5_takenWithout 77 = .ok (.iconst 5, 1) := by decide +kernel
theorem dX5_takenWithout_78 : decode cX5_takenWithout 78 = .ok (.invokevirtual 104, 3) := by decide +kernel
theorem dX5_takenWithout_81 : decode cX5_takenWithout 81 = .ok (.invokevirtual 175, 3) := by decide +kernel
theorem dX5_takenWithout_84 : decode cX5_takenWithout 84 = .ok (.ireturn, 1) := by decide +kernel
theorem dX5_away_0 : decode cX5_away 0 = .ok (.aload_n 0, 1) := by decide +kernel
theorem dX5_away_1 : decode cX5_away 1 = .ok (.iload_n 1, 1) := by decide +kernel
theorem dX5_away_2 : decode cX5_away 2 = .ok (.invokevirtual 83, 3) := by decide +kernel
theorem dX5_away_5 : decode cX5_away 5 = .ok (.ifCond .eq 24, 3) := by decide +kernel
theorem dX5_away_8 : decode cX5_away 8 = .ok (.iload_n 2, 1) := by decide +kernel
theorem dX5_away_9 : decode cX5_away 9 = .ok (.iconst 0, 1) := by decide +kernel
theorem dX5_away_10 : decode cX5_away 10 = .ok (.sipush 999, 3) := by decide +kernel
theorem dX5_away_13 : decode cX5_away 13 = .ok (.invokestatic 70, 3) := by decide +kernel
theorem dX5_away_16 : decode cX5_away 16 = .ok (.ifCond .eq 13, 3) := by decide +kernel
theorem dX5_away_19 : decode cX5_away 19 = .ok (.iload_n 3, 1) := by decide +kernel
theorem dX5_away_20 : decode cX5_away 20 = .ok (.iconst 0, 1) := by decide +kernel
theorem dX5_away_21 : decode cX5_away 21 = .ok (.bipush 20, 2) := by decide +kernel
theorem dX5_away_23 : decode cX5_away 23 = .ok (.invokestatic 70, 3) := by decide +kernel
theorem dX5_away_26 : decode cX5_away 26 = .ok (.ifCond .ne 10, 3) := by decide +kernel
theorem dX5_away_29 : decode cX5_away 29 = .ok (.aload_n 0, 1) := by decide +kernel
theorem dX5_away_30 : decode cX5_away 30 = .ok (.ldc 60, 2) := by decide +kernel
theorem dX5_away_32 : decode cX5_away 32 = .ok (.invokevirtual 66, 3) := by decide +kernel
theorem dX5_away_35 : decode cX5_away 35 = .ok (.ireturn, 1) := by decide +kernel
theorem dX5_away_36 : decode cX5_away 36 = .ok (.iconst (-1), 1) := by decide +kernel
theorem dX5_away_37 : decode cX5_away 37 = .ok (.istore 4, 2) := by decide +kernel
theorem dX5_away_39 : decode cX5_away 39 = .ok (.iconst 0, 1) := by decide +kernel
theorem dX5_away_40 : decode cX5_away 40 = .ok (.istore 5, 2) := by decide +kernel
theorem dX5_away_42 : decode cX5_away 42 = .ok (.iload 5, 2) := by decide +kernel
theorem dX5_away_44 : decode cX5_away 44 = .ok (.iconst 1, 1) := by decide +kernel
theorem dX5_away_45 : decode cX5_away 45 = .ok (.aload_n 0, 1) := by decide +kernel
theorem dX5_away_46 : decode cX5_away 46 = .ok (.getfield 9, 3) := by decide +kernel
theorem dX5_away_49 : decode cX5_away 49 = .ok (.iconst 1, 1) := by decide +kernel
theorem dX5_away_50 : decode cX5_away 50 = .ok (.iaload, 1) := by decide +kernel
theorem dX5_away_51 : decode cX5_away 51 = .ok (.ishl, 1) := by decide +kernel
theorem dX5_away_52 : decode cX5_away 52 = .ok (.if_icmp .ge 69, 3) := by decide +kernel
theorem dX5_away_55 : decode cX5_away 55 = .ok (.iload 5, 2) := by decide +kernel
theorem dX5_away_57 : decode cX5_away 57 = .ok (.iload_n 1, 1) := by decide +kernel
theorem dX5_away_58 : decode cX5_away 58 = .ok (.invokestatic 202, 3) := by decide +kernel
theorem dX5_away_61 : decode cX5_away 61 = .ok (.ifCond .ne 25, 3) := by decide +kernel
theorem dX5_away_64 : decode cX5_away 64 = .ok (.iload 4, 2) := by decide +kernel
theorem dX5_away_66 : decode cX5_away 66 = .ok (.ifCond .lt 16, 3) := by decide +kernel
theorem dX5_away_69 : decode cX5_away 69 = .ok (.iload 5, 2) := by decide +kernel
theorem dX5_away_71 : decode cX5_away 71 = .ok (.invokestatic 136, 3) := by decide +kernel
theorem dX5_away_74 : decode cX5_away 74 = .ok (.iload 4, 2) := by decide +kernel
theorem dX5_away_76 : decode cX5_away 76 = .ok (.invokestatic 136, 3) := by decide +kernel
theorem dX5_away_79 : decode cX5_away 79 = .ok (.if_icmp .ge 7, 3) := by decide +kernel
theorem dX5_away_82 : decode cX5_away 82 = .ok (.iconst 1, 1) := by decide +kernel
theorem dX5_away_83 : decode cX5_away 83 = .ok (.goto 4, 3) := by decide +kernel
theorem dX5_away_86 : decode cX5_away 86 = .ok (.iconst 0, 1) := by decide +kernel
theorem dX5_away_87 : decode cX5_away 87 = .ok (.istore 6, 2) := by decide +kernel
theorem dX5_away_89 : decode cX5_away 89 = .ok (.iload 6, 2) := by decide +kernel
theorem dX5_away_91 : decode cX5_away 91 = .ok (.ifCond .eq 20, 3) := by decide +kernel
theorem dX5_away_94 : decode cX5_away 94 = .ok (.aload_n 0, 1) := by decide +kernel
theorem dX5_away_95 : decode cX5_away 95 = .ok (.iload 5, 2) := by decide +kernel
theorem dX5_away_97 : decode cX5_away 97 = .ok (.iload_n 1, 1) := by decide +kernel
theorem dX5_away_98 : decode cX5_away 98 = .ok (.iload_n 3, 1) := by decide +kernel
theorem dX5_away_99 : decode cX5_away 99 = .ok (.invokevirtual 205, 3) := by decide +kernel
theorem dX5_away_102 : decode cX5_away 102 = .ok (.iload_n 2, 1) := by decide +kernel
theorem dX5_away_103 : decode cX5_away 103 = .ok (.if_icmp .lt 8, 3) := by decide +kernel
theorem dX5_away_106 : decode cX5_away 106 = .ok (.iload 5, 2) := by decide +kernel
theorem dX5_away_108 : decode cX5_away 108 = .ok (.goto 5, 3) := by decide +kernel
theorem dX5_away_111 : decode cX5_away 111 = .ok (.iload 4, 2) := by decide +kernel
theorem dX5_away_113 : decode cX5_away 113 = .ok (.istore 4, 2) := by decide +kernel
theorem dX5_away_115 : decode cX5_away 115 = .ok (.iinc 5 1, 3) := by decide +kernel
theorem dX5_away_118 : decode cX5_away 118 = .ok (.goto (-76), 3) := by decide +kernel
theorem dX5_away_121 : decode cX5_away 121 = .ok (.aload_n 0, 1) := by decide +kernel
theorem dX5_away_122 : decode cX5_away 122 = .ok (.iload 4, 2) := by decide +kernel
theorem dX5_away_124 : decode cX5_away 124 = .ok (.invokevirtual 181, 3) := by decide +kernel
theorem dX5_away_127 : decode cX5_away 127 = .ok (.ireturn, 1) := by decide +kernel
theorem dX5_lacks_0 : decode cX5_lacks 0 = .ok (.iload_n 1, 1) := by decide +kernel
theorem dX5_lacks_1 : decode cX5_lacks 1 = .ok (.invokestatic 209, 3) := by decide +kernel
theorem dX5_lacks_4 : decode cX5_lacks 4 = .ok (.ifCond .ne 8, 3) := by decide +kernel
theorem dX5_lacks_7 : decode cX5_lacks 7 = .ok (.ldc 60, 2) := by decide +kernel
theorem dX5_lacks_9 : decode cX5_lacks 9 = .ok (.goto 27, 3) := by decide +kernel
theorem dX5_lacks_12 : decode cX5_lacks 12 = .ok (.aload_n 0, 1) := by decide +kernel
theorem dX5_lacks_13 : decode cX5_lacks 13 = .ok (.getfield 48, 3) := by decide +kernel
theorem dX5_lacks_16 : decode cX5_lacks 16 = .ok (.iload_n 1, 1) := by decide +kernel
theorem dX5_lacks_17 : decode cX5_lacks 17 = .ok (.iaload, 1) := by decide +kernel
theorem dX5_lacks_18 : decode cX5_lacks 18 = .ok (.ifCond .ne 8, 3) := by decide +kernel
theorem dX5_lacks_21 : decode cX5_lacks 21 = .ok (.ldc 212, 2) := by decide +kernel
theorem dX5_lacks_23 : decode cX5_lacks 23 = .ok (.goto 13, 3) := by decide +kernel
theorem dX5_lacks_26 : decode cX5_lacks 26 = .ok (.iload_n 2, 1) := by decide +kernel
theorem dX5_lacks_27 : decode cX5_lacks 27 = .ok (.ifCond .eq 7, 3) := by decide +kernel
theorem dX5_lacks_30 : decode cX5_lacks 30 = .ok (.iconst 0, 1) := by decide +kernel
theorem dX5_lacks_31 : decode cX5_lacks 31 = .ok (.goto 5, 3) := by decide +kernel
theorem dX5_lacks_34 : decode cX5_lacks 34 = .ok (.ldc 60, 2) := by decide +kernel
theorem dX5_lacks_36 : decode cX5_lacks 36 = .ok (.ireturn, 1) := by decide +kernel
theorem dX5_areFaultsSo_0 : decode cX5_areFaultsSo 0 = .ok (.iconst 1, 1) := by decide +kernel
theorem dX5_areFaultsSo_1 : decode cX5_areFaultsSo 1 = .ok (.istore_n 3, 1) := by decide +kernel
theorem dX5_areFaultsSo_2 : decode cX5_areFaultsSo 2 = .ok (.iconst 0, 1) := by decide +kernel
theorem dX5_areFaultsSo_3 : decode cX5_areFaultsSo 3 = .ok (.istore 4, 2) := by decide +kernel
theorem dX5_areFaultsSo_5 : decode cX5_areFaultsSo 5 = .ok (.iload 4, 2) := by decide +kernel
theorem dX5_areFaultsSo_7 : decode cX5_areFaultsSo 7 = .ok (.iconst 4, 1) := by decide +kernel
theorem dX5_areFaultsSo_8 : decode cX5_areFaultsSo 8 = .ok (.if_icmp .ge 62, 3) := by decide +kernel
theorem dX5_areFaultsSo_11 : decode cX5_areFaultsSo 11 = .ok (.iload 4, 2) := by decide +kernel
theorem dX5_areFaultsSo_13 : decode cX5_areFaultsSo 13 = .ok (.aload_n 0, 1) := by decide +kernel
theorem dX5_areFaultsSo_14 : decode cX5_areFaultsSo 14 = .ok (.getfield 51, 3) := by decide +kernel
theorem dX5_areFaultsSo_17 : decode cX5_areFaultsSo 17 = .ok (.iload_n 1, 1) := by decide +kernel
theorem dX5_areFaultsSo_18 : decode cX5_areFaultsSo 18 = .ok (.iaload, 1) := by decide +kernel
theorem dX5_areFaultsSo_19 : decode cX5_areFaultsSo 19 = .ok (.if_icmp .ge 51, 3) := by decide +kernel
theorem dX5_areFaultsSo_22 : decode cX5_areFaultsSo 22 = .ok (.aload_n 0, 1) := by decide +kernel
theorem dX5_areFaultsSo_23 : decode cX5_areFaultsSo 23 = .ok (.getfield 54, 3) := by decide +kernel
theorem dX5_areFaultsSo_26 : decode cX5_areFaultsSo 26 = .ok (.bipush 40, 2) := by decide +kernel
theorem dX5_areFaultsSo_28 : decode cX5_areFaultsSo 28 = .ok (.iload_n 1, 1) := by decide +kernel
theorem dX5_areFaultsSo_29 : decode cX5_areFaultsSo 29 = .ok (.imul, 1) := by decide +kernel
theorem dX5_areFaultsSo_30 : decode cX5_areFaultsSo 30 = .ok (.iload 4, 2) := by decide +kernel
theorem dX5_areFaultsSo_32 : decode cX5_areFaultsSo 32 = .ok (.iadd, 1) := by decide +kernel
theorem dX5_areFaultsSo_33 : decode cX5_areFaultsSo 33 = .ok (.iaload, 1) := by decide +kernel
theorem dX5_areFaultsSo_34 : decode cX5_areFaultsSo 34 = .ok (.istore 5, 2) := by decide +kernel
theorem dX5_areFaultsSo_36 : decode cX5_areFaultsSo 36 = .ok (.iload_n 3, 1) := by decide +kernel
theorem dX5_areFaultsSo_37 : decode cX5_areFaultsSo 37 = .ok (.ifCond .eq 25, 3) := by decide +kernel
theorem dX5_areFaultsSo_40 : decode cX5_areFaultsSo 40 = .ok (.iload 5, 2) := by decide +kernel
theorem dX5_areFaultsSo_42 : decode cX5_areFaultsSo 42 = .ok (.iconst (-1), 1) := by decide +kernel
theorem dX5_areFaultsSo_43 : decode cX5_areFaultsSo 43 = .ok (.if_icmp .eq 15, 3) := by decide +kernel
theorem dX5_areFaultsSo_46 : decode cX5_areFaultsSo 46 = .ok (.iload 5, 2) := by decide +kernel
theorem dX5_areFaultsSo_48 : decode cX5_areFaultsSo 48 = .ok (.aload_n 0, 1) := by decide +kernel
theorem dX5_areFaultsSo_49 : decode cX5_areFaultsSo 49 = .ok (.iload_n 2, 1) := by decide +kernel
theorem dX5_areFaultsSo_50 : decode cX5_areFaultsSo 50 = .ok (.iload 4, 2) := by decide +kernel
theorem dX5_areFaultsSo_52 : decode cX5_areFaultsSo 52 = .ok (.invokevirtual 133, 3) := by decide +kernel
theorem dX5_areFaultsSo_55 : decode cX5_areFaultsSo 55 = .ok (.if_icmp .ne 7, 3) := by decide +kernel
theorem dX5_areFaultsSo_58 : decode cX5_areFaultsSo 58 = .ok (.iconst 1, 1) := by decide +kernel
theorem dX5_areFaultsSo_59 : decode cX5_areFaultsSo 59 = .ok (.goto 4, 3) := by decide +kernel
theorem dX5_areFaultsSo_62 : decode cX5_areFaultsSo 62 = .ok (.iconst 0, 1) := by decide +kernel
theorem dX5_areFaultsSo_63 : decode cX5_areFaultsSo 63 = .ok (.istore_n 3, 1) := by decide +kernel
theorem dX5_areFaultsSo_64 : decode cX5_areFaultsSo 64 = .ok (.iinc 4 1, 3) := by decide +kernel
theorem dX5_areFaultsSo_67 : decode cX5_areFaultsSo 67 = .ok (.goto (-62), 3) := by decide +kernel
theorem dX5_areFaultsSo_70 : decode cX5_areFaultsSo 70 = .ok (.iload_n 3, 1) := by decide +kernel
theorem dX5_areFaultsSo_71 : decode cX5_areFaultsSo 71 = .ok (.ireturn, 1) := by decide +kernel
theorem dX5_fitTall_0 : decode cX5_fitTall 0 = .ok (.iload_n 2, 1) := by decide +kernel
theorem dX5_fitTall_1 : decode cX5_fitTall 1 = .ok (.iconst 1, 1) := by decide +kernel
theorem dX5_fitTall_2 : decode cX5_fitTall 2 = .ok (.invokestatic 93, 3) := by decide +kernel
theorem dX5_fitTall_5 : decode cX5_fitTall 5 = .ok (.istore_n 3, 1) := by decide +kernel
theorem dX5_fitTall_6 : decode cX5_fitTall 6 = .ok (.aload_n 0, 1) := by decide +kernel
theorem dX5_fitTall_7 : decode cX5_fitTall 7 = .ok (.getfield 9, 3) := by decide +kernel
theorem dX5_fitTall_10 : decode cX5_fitTall 10 = .ok (.iload_n 3, 1) := by decide +kernel
theorem dX5_fitTall_11 : decode cX5_fitTall 11 = .ok (.iaload, 1) := by decide +kernel
theorem dX5_fitTall_12 : decode cX5_fitTall 12 = .ok (.istore 4, 2) := by decide +kernel
theorem dX5_fitTall_14 : decode cX5_fitTall 14 = .ok (.aload_n 0, 1) := by decide +kernel
theorem dX5_fitTall_15 : decode cX5_fitTall 15 = .ok (.iconst 0, 1) := by decide +kernel
theorem dX5_fitTall_16 : decode cX5_fitTall 16 = .ok (.putfield 213, 3) := by decide +kernel
theorem dX5_fitTall_19 : decode cX5_fitTall 19 = .ok (.aload_n 0, 1) := by decide +kernel
theorem dX5_fitTall_20 : decode cX5_fitTall 20 = .ok (.iconst (-1), 1) := by decide +kernel
theorem dX5_fitTall_21 : decode cX5_fitTall 21 = .ok (.putfield 217, 3) := by decide +kernel
theorem dX5_fitTall_24 : decode cX5_fitTall 24 = .ok (.bipush 90, 2) := by decide +kernel
theorem dX5_fitTall_26 : decode cX5_fitTall 26 = .ok (.istore 5, 2) := by decide +kernel
theorem dX5_fitTall_28 : decode cX5_fitTall 28 = .ok (.iload 5, 2) := by decide +kernel
theorem dX5_fitTall_30 : decode cX5_fitTall 30 = .ok (.ifCond .lt 62, 3) := by decide +kernel
theorem dX5_fitTall_33 : decode cX5_fitTall 33 = .ok (.aload_n 0, 1) := by decide +kernel
theorem dX5_fitTall_34 : decode cX5_fitTall 34 = .ok (.getfield 9, 3) := by decide +kernel
theorem dX5_fitTall_37 : decode cX5_fitTall 37 = .ok (.iload_n 3, 1) := by decide +kernel
theorem dX5_fitTall_38 : decode cX5_fitTall 38 = .ok (.iload 5, 2) := by decide +kernel
theorem dX5_fitTall_40 : decode cX5_fitTall 40 = .ok (.iastore, 1) := by decide +kernel
theorem dX5_fitTall_41 : decode cX5_fitTall 41 = .ok (.aload_n 0, 1) := by decide +kernel
theorem dX5_fitTall_42 : decode cX5_fitTall 42 = .ok (.iload_n 1, 1) := by decide +kernel
theorem dX5_fitTall_43 : decode cX5_fitTall 43 = .ok (.iload_n 2, 1) := by decide +kernel
theorem dX5_fitTall_44 : decode cX5_fitTall 44 = .ok (.invokevirtual 220, 3) := by decide +kernel
theorem dX5_fitTall_47 : decode cX5_fitTall 47 = .ok (.istore 6, 2) := by decide +kernel
theorem dX5_fitTall_49 : decode cX5_fitTall 49 = .ok (.aload_n 0, 1) := by decide +kernel
theorem dX5_fitTall_50 : decode cX5_fitTall 50 = .ok (.dup, 1) := by decide +kernel
theorem dX5_fitTall_51 : decode cX5_fitTall 51 = .ok (.getfield 213, 3) := by decide +kernel
theorem dX5_fitTall_54 : decode cX5_fitTall 54 = .ok (.iload 6, 2) := by decide +kernel
theorem dX5_fitTall_56 : decode cX5_fitTall 56 = .ok (.ifCond .eq 7, 3) := by decide +kernel
theorem dX5_fitTall_59 : decode cX5_fitTall 59 = .ok (.iconst 1, 1) := by decide +kernel
theorem dX5_fitTall_60 : decode cX5_fitTall 60 = .ok (.goto 4, 3) := by decide +kernel
theorem dX5_fitTall_63 : decode cX5_fitTall 63 = .ok (.iconst 0, 1) := by decide +kernel
theorem dX5_fitTall_64 : decode cX5_fitTall 64 = .ok (.iadd, 1) := by decide +kernel
theorem dX5_fitTall_65 : decode cX5_fitTall 65 = .ok (.putfield 213, 3) := by decide +kernel
theorem dX5_fitTall_68 : decode cX5_fitTall 68 = .ok (.aload_n 0, 1) := by decide +kernel
theorem dX5_fitTall_69 : decode cX5_fitTall 69 = .ok (.iload 6, 2) := by decide +kernel
theorem dX5_fitTall_71 : decode cX5_fitTall 71 = .ok (.ifCond .eq 8, 3) := by decide +kernel
theorem dX5_fitTall_74 : decode cX5_fitTall 74 = .ok (.iload 5, 2) := by decide +kernel
theorem dX5_fitTall_76 : decode cX5_fitTall 76 = .ok (.goto 7, 3) := by decide +kernel
theorem dX5_fitTall_79 : decode cX5_fitTall 79 = .ok (.aload_n 0, 1) := by decide +kernel
theorem dX5_fitTall_80 : decode cX5_fitTall 80 = .ok (.getfield 217, 3) := by decide +kernel
theorem dX5_fitTall_83 : decode cX5_fitTall 83 = .ok (.putfield 217, 3) := by decide +kernel
theorem dX5_fitTall_86 : decode cX5_fitTall 86 = .ok (.iinc 5 (-1), 3) := by decide +kernel
theorem dX5_fitTall_89 : decode cX5_fitTall 89 = .ok (.goto (-61), 3) := by decide +kernel
theorem dX5_fitTall_92 : decode cX5_fitTall 92 = .ok (.aload_n 0, 1) := by decide +kernel
theorem dX5_fitTall_93 : decode cX5_fitTall 93 = .ok (.getfield 9, 3) := by decide +kernel
theorem dX5_fitTall_96 : decode cX5_fitTall 96 = .ok (.iload_n 3, 1) := by decide +kernel
theorem dX5_fitTall_97 : decode cX5_fitTall 97 = .ok (.iload 4, 2) := by decide +kernel
theorem dX5_fitTall_99 : decode cX5_fitTall 99 = .ok (.iastore, 1) := by decide +kernel
theorem dX5_fitTall_100 : decode cX5_fitTall 100 = .ok (.return_, 1) := by decide +kernel
theorem dX5_fits_0 : decode cX5_fits 0 = .ok (.aload_n 0, 1) := by decide +kernel
theorem dX5_fits_1 : decode cX5_fits 1 = .ok (.iload_n 1, 1) := by decide +kernel
theorem dX5_fits_2 : decode cX5_fits 2 = .ok (.aload_n 0, 1) := by decide +kernel
theorem dX5_fits_3 : decode cX5_fits 3 = .ok (.iload_n 2, 1) := by decide +kernel
theorem dX5_fits_4 : decode cX5_fits 4 = .ok (.invokevirtual 83, 3) := by decide +kernel
theorem dX5_fits_7 : decode cX5_fits 7 = .ok (.invokevirtual 223, 3) := by decide +kernel
theorem dX5_fits_10 : decode cX5_fits 10 = .ok (.istore_n 3, 1) := by decide +kernel
theorem dX5_fits_11 : decode cX5_fits 11 = .ok (.iload_n 3, 1) := by decide +kernel
theorem dX5_fits_12 : decode cX5_fits 12 = .ok (.ifCond .eq 9, 3) := by decide +kernel
theorem dX5_fits_15 : decode cX5_fits 15 = .ok (.aload_n 0, 1) := by decide +kernel
theorem dX5_fits_16 : decode cX5_fits 16 = .ok (.iload_n 3, 1) := by decide +kernel
theorem dX5_fits_17 : decode cX5_fits 17 = .ok (.invokevirtual 66, 3) := by decide +kernel
theorem dX5_fits_20 : decode cX5_fits 20 = .ok (.ireturn, 1) := by decide +kernel
theorem dX5_fits_21 : decode cX5_fits 21 = .ok (.aload_n 0, 1) := by decide +kernel
theorem dX5_fits_22 : decode cX5_fits 22 = .ok (.iload_n 1, 1) := by decide +kernel
theorem dX5_fits_23 : decode cX5_fits 23 = .ok (.iload_n 2, 1) := by decide +kernel
theorem dX5_fits_24 : decode cX5_fits 24 = .ok (.invokevirtual 227, 3) := by decide +kernel
theorem dX5_fits_27 : decode cX5_fits 27 = .ok (.aload_n 0, 1) := by decide +kernel
theorem dX5_fits_28 : decode cX5_fits 28 = .ok (.getfield 213, 3) := by decide +kernel
theorem dX5_fits_31 : decode cX5_fits 31 = .ok (.ireturn, 1) := by decide +kernel
theorem dX5_tall_0 : decode cX5_tall 0 = .ok (.aload_n 0, 1) := by decide +kernel
theorem dX5_tall_1 : decode cX5_tall 1 = .ok (.iload_n 1, 1) := by decide +kernel
theorem dX5_tall_2 : decode cX5_tall 2 = .ok (.aload_n 0, 1) := by decide +kernel
theorem dX5_tall_3 : decode cX5_tall 3 = .ok (.iload_n 2, 1) := by decide +kernel
theorem dX5_tall_4 : decode cX5_tall 4 = .ok (.invokevirtual 83, 3) := by decide +kernel
theorem dX5_tall_7 : decode cX5_tall 7 = .ok (.invokevirtual 223, 3) := by decide +kernel
theorem dX5_tall_10 : decode cX5_tall 10 = .ok (.istore_n 3, 1) := by decide +kernel
theorem dX5_tall_11 : decode cX5_tall 11 = .ok (.iload_n 3, 1) := by decide +kernel
theorem dX5_tall_12 : decode cX5_tall 12 = .ok (.ifCond .eq 9, 3) := by decide +kernel
theorem dX5_tall_15 : decode cX5_tall 15 = .ok (.aload_n 0, 1) := by decide +kernel
theorem dX5_tall_16 : decode cX5_tall 16 = .ok (.iload_n 3, 1) := by decide +kernel
theorem dX5_tall_17 : decode cX5_tall 17 = .ok (.invokevirtual 66, 3) := by decide +kernel
theorem dX5_tall_20 : decode cX5_tall 20 = .ok (.ireturn, 1) := by decide +kernel
theorem dX5_tall_21 : decode cX5_tall 21 = .ok (.aload_n 0, 1) := by decide +kernel
theorem dX5_tall_22 : decode cX5_tall 22 = .ok (.iload_n 1, 1) := by decide +kernel
theorem dX5_tall_23 : decode cX5_tall 23 = .ok (.iload_n 2, 1) := by decide +kernel
theorem dX5_tall_24 : decode cX5_tall 24 = .ok (.invokevirtual 227, 3) := by decide +kernel
theorem dX5_tall_27 : decode cX5_tall 27 = .ok (.aload_n 0, 1) := by decide +kernel
theorem dX5_tall_28 : decode cX5_tall 28 = .ok (.aload_n 0, 1) := by decide +kernel
theorem dX5_tall_29 : decode cX5_tall 29 = .ok (.getfield 217, 3) := by decide +kernel
theorem dX5_tall_32 : decode cX5_tall 32 = .ok (.invokevirtual 181, 3) := by decide +kernel
theorem dX5_tall_35 : decode cX5_tall 35 = .ok (.ireturn, 1) := by decide +kernel
theorem dX5_wasTakenSo_0 : decode cX5_wasTakenSo 0 = .ok (.aload_n 0, 1) := by decide +kernel
theorem dX5_wasTakenSo_1 : decode cX5_wasTakenSo 1 = .ok (.getfield 9, 3) := by decide +kernel
theorem dX5_wasTakenSo_4 : decode cX5_wasTakenSo 4 = .ok (.aload_n 0, 1) := by decide +kernel
theorem dX5_wasTakenSo_5 : decode cX5_wasTakenSo 5 = .ok (.getfield 16, 3) := by decide +kernel
theorem dX5_wasTakenSo_8 : decode cX5_wasTakenSo 8 = .ok (.invokestatic 61, 3) := by decide +kernel
theorem dX5_wasTakenSo_11 : decode cX5_wasTakenSo 11 = .ok (.iconst 1, 1) := by decide +kernel
theorem dX5_wasTakenSo_12 : decode cX5_wasTakenSo 12 = .ok (.istore_n 3, 1) := by decide +kernel
theorem dX5_wasTakenSo_13 : decode cX5_wasTakenSo 13 = .ok (.iconst 0, 1) := by decide +kernel
theorem dX5_wasTakenSo_14 : decode cX5_wasTakenSo 14 = .ok (.istore 4, 2) := by decide +kernel
theorem dX5_wasTakenSo_16 : decode cX5_wasTakenSo 16 = .ok (.iload 4, 2) := by decide +kernel
theorem dX5_wasTakenSo_18 : decode cX5_wasTakenSo 18 = .ok (.aload_n 0, 1) := by decide +kernel
theorem dX5_wasTakenSo_19 : decode cX5_wasTakenSo 19 = .ok (.getfield 51, 3) := by decide +kernel
theorem dX5_wasTakenSo_22 : decode cX5_wasTakenSo 22 = .ok (.iload_n 1, 1) := by decide +kernel
theorem dX5_wasTakenSo_23 : decode cX5_wasTakenSo 23 = .ok (.iaload, 1) := by decide +kernel
theorem dX5_wasTakenSo_24 : decode cX5_wasTakenSo 24 = .ok (.if_icmp .ge 54, 3) := by decide +kernel
theorem dX5_wasTakenSo_27 : decode cX5_wasTakenSo 27 = .ok (.iload_n 3, 1) := by decide +kernel
theorem dX5_wasTakenSo_28 : decode cX5_wasTakenSo 28 = .ok (.ifCond .eq 50, 3) := by decide +kernel
theorem dX5_wasTakenSo_31 : decode cX5_wasTakenSo 31 = .ok (.aload_n 0, 1) := by decide +kernel
theorem dX5_wasTakenSo_32 : decode cX5_wasTakenSo 32 = .ok (.getfield 54, 3) := by decide +kernel
theorem dX5_wasTakenSo_35 : decode cX5_wasTakenSo 35 = .ok (.bipush 40, 2) := by decide +kernel
theorem dX5_wasTakenSo_37 : decode cX5_wasTakenSo 37 = .ok (.iload_n 1, 1) := by decide +kernel
theorem dX5_wasTakenSo_38 : decode cX5_wasTakenSo 38 = .ok (.imul, 1) := by decide +kernel
theorem dX5_wasTakenSo_39 : decode cX5_wasTakenSo 39 = .ok (.iload 4, 2) := by decide +kernel
theorem dX5_wasTakenSo_41 : decode cX5_wasTakenSo 41 = .ok (.iadd, 1) := by decide +kernel
theorem dX5_wasTakenSo_42 : decode cX5_wasTakenSo 42 = .ok (.iaload, 1) := by decide +kernel
theorem dX5_wasTakenSo_43 : decode cX5_wasTakenSo 43 = .ok (.istore 5, 2) := by decide +kernel
theorem dX5_wasTakenSo_45 : decode cX5_wasTakenSo 45 = .ok (.iload 5, 2) := by decide +kernel
theorem dX5_wasTakenSo_47 : decode cX5_wasTakenSo 47 = .ok (.iconst (-1), 1) := by decide +kernel
theorem dX5_wasTakenSo_48 : decode cX5_wasTakenSo 48 = .ok (.if_icmp .eq 14, 3) := by decide +kernel
theorem dX5_wasTakenSo_51 : decode cX5_wasTakenSo 51 = .ok (.iload 5, 2) := by decide +kernel
theorem dX5_wasTakenSo_53 : decode cX5_wasTakenSo 53 = .ok (.aload_n 0, 1) := by decide +kernel
theorem dX5_wasTakenSo_54 : decode cX5_wasTakenSo 54 = .ok (.iload_n 2, 1) := by decide +kernel
theorem dX5_wasTakenSo_55 : decode cX5_wasTakenSo 55 = .ok (.iconst 5, 1) := by decide +kernel
theorem dX5_wasTakenSo_56 : decode cX5_wasTakenSo 56 = .ok (.invokevirtual 104, 3) := by decide +kernel
theorem dX5_wasTakenSo_59 : decode cX5_wasTakenSo 59 = .ok (.if_icmp .ne 7, 3) := by decide +kernel
theorem dX5_wasTakenSo_62 : decode cX5_wasTakenSo 62 = .ok (.iconst 1, 1) := by decide +kernel
theorem dX5_wasTakenSo_63 : decode cX5_wasTakenSo 63 = .ok (.goto 4, 3) := by decide +kernel
theorem dX5_wasTakenSo_66 : decode cX5_wasTakenSo 66 = .ok (.iconst 0, 1) := by decide +kernel
theorem dX5_wasTakenSo_67 : decode cX5_wasTakenSo 67 = .ok (.istore_n 3, 1) := by decide +kernel
theorem dX5_wasTakenSo_68 : decode cX5_wasTakenSo 68 = .ok (.aload_n 0, 1) := by decide +kernel
theorem dX5_wasTakenSo_69 : decode cX5_wasTakenSo 69 = .ok (.invokevirtual 159, 3) := by decide +kernel
theorem dX5_wasTakenSo_72 : decode cX5_wasTakenSo 72 = .ok (.iinc 4 1, 3) := by decide +kernel
theorem dX5_wasTakenSo_75 : decode cX5_wasTakenSo 75 = .ok (.goto (-59), 3) := by decide +kernel
theorem dX5_wasTakenSo_78 : decode cX5_wasTakenSo 78 = .ok (.aload_n 0, 1) := by decide +kernel
theorem dX5_wasTakenSo_79 : decode cX5_wasTakenSo 79 = .ok (.getfield 16, 3) := by decide +kernel
theorem dX5_wasTakenSo_82 : decode cX5_wasTakenSo 82 = .ok (.aload_n 0, 1) := by decide +kernel
theorem dX5_wasTakenSo_83 : decode cX5_wasTakenSo 83 = .ok (.getfield 9, 3) := by decide +kernel
theorem dX5_wasTakenSo_86 : decode cX5_wasTakenSo 86 = .ok (.invokestatic 61, 3) := by decide +kernel
theorem dX5_wasTakenSo_89 : decode cX5_wasTakenSo 89 = .ok (.iload_n 3, 1) := by decide +kernel
theorem dX5_wasTakenSo_90 : decode cX5_wasTakenSo 90 = .ok (.ireturn, 1) := by decide +kernel
theorem dX5_kinds_0 : decode cX5_kinds 0 = .ok (.aload_n 0, 1) := by decide +kernel
theorem dX5_kinds_1 : decode cX5_kinds 1 = .ok (.iload_n 1, 1) := by decide +kernel
theorem dX5_kinds_2 : decode cX5_kinds 2 = .ok (.aload_n 0, 1) := by decide +kernel
theorem dX5_kinds_3 : decode cX5_kinds 3 = .ok (.iload_n 2, 1) := by decide +kernel
theorem dX5_kinds_4 : decode cX5_kinds 4 = .ok (.invokevirtual 83, 3) := by decide +kernel
theorem dX5_kinds_7 : decode cX5_kinds 7 = .ok (.invokevirtual 223, 3) := by decide +kernel
theorem dX5_kinds_10 : decode cX5_kinds 10 = .ok (.istore_n 3, 1) := by decide +kernel
theorem dX5_kinds_11 : decode cX5_kinds 11 = .ok (.iload_n 3, 1) := by decide +kernel
theorem dX5_kinds_12 : decode cX5_kinds 12 = .ok (.ifCond .eq 9, 3) := by decide +kernel
theorem dX5_kinds_15 : decode cX5_kinds 15 = .ok (.aload_n 0, 1) := by decide +kernel
theorem dX5_kinds_16 : decode cX5_kinds 16 = .ok (.iload_n 3, 1) := by decide +kernel
theorem dX5_kinds_17 : decode cX5_kinds 17 = .ok (.invokevirtual 66, 3) := by decide +kernel
theorem dX5_kinds_20 : decode cX5_kinds 20 = .ok (.ireturn, 1) := by decide +kernel
theorem dX5_kinds_21 : decode cX5_kinds 21 = .ok (.iload_n 2, 1) := by decide +kernel
theorem dX5_kinds_22 : decode cX5_kinds 22 = .ok (.iconst 0, 1) := by decide +kernel
theorem dX5_kinds_23 : decode cX5_kinds 23 = .ok (.invokestatic 93, 3) := by decide +kernel
theorem dX5_kinds_26 : decode cX5_kinds 26 = .ok (.istore 4, 2) := by decide +kernel
theorem dX5_kinds_28 : decode cX5_kinds 28 = .ok (.aload_n 0, 1) := by decide +kernel
theorem dX5_kinds_29 : decode cX5_kinds 29 = .ok (.getfield 9, 3) := by decide +kernel
theorem dX5_kinds_32 : decode cX5_kinds 32 = .ok (.iload 4, 2) := by decide +kernel
theorem dX5_kinds_34 : decode cX5_kinds 34 = .ok (.iaload, 1) := by decide +kernel
theorem dX5_kinds_35 : decode cX5_kinds 35 = .ok (.istore 5, 2) := by decide +kernel
theorem dX5_kinds_37 : decode cX5_kinds 37 = .ok (.iconst 0, 1) := by decide +kernel
theorem dX5_kinds_38 : decode cX5_kinds 38 = .ok (.istore 6, 2) := by decide +kernel
theorem dX5_kinds_40 : decode cX5_kinds 40 = .ok (.iconst 0, 1) := by decide +kernel
theorem dX5_kinds_41 : decode cX5_kinds 41 = .ok (.istore 7, 2) := by decide +kernel
theorem dX5_kinds_43 : decode cX5_kinds 43 = .ok (.iload 7, 2) := by decide +kernel
theorem dX5_kinds_45 : decode cX5_kinds 45 = .ok (.bipush 6, 2) := by decide +kernel
theorem dX5_kinds_47 : decode cX5_kinds 47 = .ok (.if_icmp .gt 40, 3) := by decide +kernel
theorem dX5_kinds_50 : decode cX5_kinds 50 = .ok (.aload_n 0, 1) := by decide +kernel
theorem dX5_kinds_51 : decode cX5_kinds 51 = .ok (.getfield 9, 3) := by decide +kernel
theorem dX5_kinds_54 : decode cX5_kinds 54 = .ok (.iload 4, 2) := by decide +kernel
theorem dX5_kinds_56 : decode cX5_kinds 56 = .ok (.iload 7, 2) := by decide +kernel
theorem dX5_kinds_58 : decode cX5_kinds 58 = .ok (.iastore, 1) := by decide +kernel
theorem dX5_kinds_59 : decode cX5_kinds 59 = .ok (.iload 6, 2) := by decide +kernel
theorem dX5_kinds_61 : decode cX5_kinds 61 = .ok (.aload_n 0, 1) := by decide +kernel
theorem dX5_kinds_62 : decode cX5_kinds 62 = .ok (.iload_n 1, 1) := by decide +kernel
theorem dX5_kinds_63 : decode cX5_kinds 63 = .ok (.iload_n 2, 1) := by decide +kernel
theorem dX5_kinds_64 : decode cX5_kinds 64 = .ok (.invokevirtual 231, 3) := by decide +kernel
theorem dX5_kinds_67 : decode cX5_kinds 67 = .ok (.ifCond .eq 10, 3) := by decide +kernel
theorem dX5_kinds_70 : decode cX5_kinds 70 = .ok (.iconst 1, 1) := by decide +kernel
theorem dX5_kinds_71 : decode cX5_kinds 71 = .ok (.iload 7, 2) := by decide +kernel
theorem dX5_kinds_73 : decode cX5_kinds 73 = .ok (.ishl, 1) := by decide +kernel
theorem dX5_kinds_74 : decode cX5_kinds 74 = .ok (.goto 4, 3) := by decide +kernel
theorem dX5_kinds_77 : decode cX5_kinds 77 = .ok (.iconst 0, 1) := by decide +kernel
theorem dX5_kinds_78 : decode cX5_kinds 78 = .ok (.ior, 1) := by decide +kernel
theorem dX5_kinds_79 : decode cX5_kinds 79 = .ok (.istore 6, 2) := by decide +kernel
theorem dX5_kinds_81 : decode cX5_kinds 81 = .ok (.iinc 7 1, 3) := by decide +kernel
theorem dX5_kinds_84 : decode cX5_kinds 84 = .ok (.goto (-41), 3) := by decide +kernel
theorem dX5_kinds_87 : decode cX5_kinds 87 = .ok (.aload_n 0, 1) := by decide +kernel
theorem dX5_kinds_88 : decode cX5_kinds 88 = .ok (.getfield 9, 3) := by decide +kernel
theorem dX5_kinds_91 : decode cX5_kinds 91 = .ok (.iload 4, 2) := by decide +kernel
theorem dX5_kinds_93 : decode cX5_kinds 93 = .ok (.iload 5, 2) := by decide +kernel
theorem dX5_kinds_95 : decode cX5_kinds 95 = .ok (.iastore, 1) := by decide +kernel
theorem dX5_kinds_96 : decode cX5_kinds 96 = .ok (.iload 6, 2) := by decide +kernel
theorem dX5_kinds_98 : decode cX5_kinds 98 = .ok (.ireturn, 1) := by decide +kernel
theorem dX5_drawn_0 : decode cX5_drawn 0 = .ok (.aload_n 0, 1) := by decide +kernel
theorem dX5_drawn_1 : decode cX5_drawn 1 = .ok (.getfield 9, 3) := by decide +kernel
theorem dX5_drawn_4 : decode cX5_drawn 4 = .ok (.iconst 2, 1) := by decide +kernel
theorem dX5_drawn_5 : decode cX5_drawn 5 = .ok (.aload_n 0, 1) := by decide +kernel
theorem dX5_drawn_6 : decode cX5_drawn 6 = .ok (.getfield 9, 3) := by decide +kernel
theorem dX5_drawn_9 : decode cX5_drawn 9 = .ok (.iconst 2, 1) := by decide +kernel
theorem dX5_drawn_10 : decode cX5_drawn 10 = .ok (.iaload, 1) := by decide +kernel
theorem dX5_drawn_11 : decode cX5_drawn 11 = .ok (.ldc 234, 2) := by decide +kernel
theorem dX5_drawn_13 : decode cX5_drawn 13 = .ok (.imul, 1) := by decide +kernel
theorem dX5_drawn_14 : decode cX5_drawn 14 = .ok (.sipush 12345, 3) := by decide +kernel
theorem dX5_drawn_17 : decode cX5_drawn 17 = .ok (.iadd, 1) := by decide +kernel
theorem dX5_drawn_18 : decode cX5_drawn 18 = .ok (.iastore, 1) := by decide +kernel
theorem dX5_drawn_19 : decode cX5_drawn 19 = .ok (.aload_n 0, 1) := by decide +kernel
theorem dX5_drawn_20 : decode cX5_drawn 20 = .ok (.getfield 9, 3) := by decide +kernel
theorem dX5_drawn_23 : decode cX5_drawn 23 = .ok (.iconst 2, 1) := by decide +kernel
theorem dX5_drawn_24 : decode cX5_drawn 24 = .ok (.iaload, 1) := by decide +kernel
theorem dX5_drawn_25 : decode cX5_drawn 25 = .ok (.bipush 8, 2) := by decide +kernel
theorem dX5_drawn_27 : decode cX5_drawn 27 = .ok (.iushr, 1) := by decide +kernel
theorem dX5_drawn_28 : decode cX5_drawn 28 = .ok (.ireturn, 1) := by decide +kernel
theorem dX5_lamps_0 : decode cX5_lamps 0 = .ok (.iload_n 1, 1) := by decide +kernel
theorem dX5_lamps_1 : decode cX5_lamps 1 = .ok (.iconst 1, 1) := by decide +kernel
theorem dX5_lamps_2 : decode cX5_lamps 2 = .ok (.bipush 20, 2) := by decide +kernel
theorem dX5_lamps_4 : decode cX5_lamps 4 = .ok (.invokestatic 70, 3) := by decide +kernel
theorem dX5_lamps_7 : decode cX5_lamps 7 = .ok (.ifCond .ne 10, 3) := by decide +kernel
theorem dX5_lamps_10 : decode cX5_lamps 10 = .ok (.aload_n 0, 1) := by decide +kernel
theorem dX5_lamps_11 : decode cX5_lamps 11 = .ok (.ldc 60, 2) := by decide +kernel
theorem dX5_lamps_13 : decode cX5_lamps 13 = .ok (.invokevirtual 66, 3) := by decide +kernel
theorem dX5_lamps_16 : decode cX5_lamps 16 = .ok (.ireturn, 1) := by decide +kernel
theorem dX5_lamps_17 : decode cX5_lamps 17 = .ok (.aload_n 0, 1) := by decide +kernel
theorem dX5_lamps_18 : decode cX5_lamps 18 = .ok (.getfield 9, 3) := by decide +kernel
theorem dX5_lamps_21 : decode cX5_lamps 21 = .ok (.iconst 0, 1) := by decide +kernel
theorem dX5_lamps_22 : decode cX5_lamps 22 = .ok (.iaload, 1) := by decide +kernel
theorem dX5_lamps_23 : decode cX5_lamps 23 = .ok (.iload_n 1, 1) := by decide +kernel
theorem dX5_lamps_24 : decode cX5_lamps 24 = .ok (.iadd, 1) := by decide +kernel
theorem dX5_lamps_25 : decode cX5_lamps 25 = .ok (.ldc 74, 2) := by decide +kernel
theorem dX5_lamps_27 : decode cX5_lamps 27 = .ok (.if_icmp .le 10, 3) := by decide +kernel
theorem dX5_lamps_30 : decode cX5_lamps 30 = .ok (.aload_n 0, 1) := by decide +kernel
theorem dX5_lamps_31 : decode cX5_lamps 31 = .ok (.ldc 162, 2) := by decide +kernel
theorem dX5_lamps_33 : decode cX5_lamps 33 = .ok (.invokevirtual 66, 3) := by decide +kernel
theorem dX5_lamps_36 : decode cX5_lamps 36 = .ok (.ireturn, 1) := by decide +kernel
theorem dX5_lamps_37 : decode cX5_lamps 37 = .ok (.iconst 0, 1) := by decide +kernel
theorem dX5_lamps_38 : decode cX5_lamps 38 = .ok (.istore_n 2, 1) := by decide +kernel
theorem dX5_lamps_39 : decode cX5_lamps 39 = .ok (.iload_n 2, 1) := by decide +kernel
theorem dX5_lamps_40 : decode cX5_lamps 40 = .ok (.iload_n 1, 1) := by decide +kernel
theorem dX5_lamps_41 : decode cX5_lamps 41 = .ok (.if_icmp .ge 74, 3) := by decide +kernel
theorem dX5_lamps_44 : decode cX5_lamps 44 = .ok (.aload_n 0, 1) := by decide +kernel
theorem dX5_lamps_45 : decode cX5_lamps 45 = .ok (.getfield 9, 3) := by decide +kernel
theorem dX5_lamps_48 : decode cX5_lamps 48 = .ok (.iconst 4, 1) := by decide +kernel
theorem dX5_lamps_49 : decode cX5_lamps 49 = .ok (.aload_n 0, 1) := by decide +kernel
theorem dX5_lamps_50 : decode cX5_lamps 50 = .ok (.invokevirtual 235, 3) := by decide +kernel
theorem dX5_lamps_53 : decode cX5_lamps 53 = .ok (.bipush 10, 2) := by decide +kernel
theorem dX5_lamps_55 : decode cX5_lamps 55 = .ok (.irem, 1) := by decide +kernel
theorem dX5_lamps_56 : decode cX5_lamps 56 = .ok (.iastore, 1) := by decide +kernel
theorem dX5_lamps_57 : decode cX5_lamps 57 = .ok (.aload_n 0, 1) := by decide +kernel
theorem dX5_lamps_58 : decode cX5_lamps 58 = .ok (.invokevirtual 235, 3) := by decide +kernel
theorem dX5_lamps_61 : decode cX5_lamps 61 = .ok (.bipush 8, 2) := by decide +kernel
theorem dX5_lamps_63 : decode cX5_lamps 63 = .ok (.irem, 1) := by decide +kernel
theorem dX5_lamps_64 : decode cX5_lamps 64 = .ok (.istore_n 3, 1) := by decide +kernel
theorem dX5_lamps_65 : decode cX5_lamps 65 = .ok (.bipush 17, 2) := by decide +kernel
theorem dX5_lamps_67 : decode cX5_lamps 67 = .ok (.aload_n 0, 1) := by decide +kernel
theorem dX5_lamps_68 : decode cX5_lamps 68 = .ok (.getfield 9, 3) := by decide +kernel
theorem dX5_lamps_71 : decode cX5_lamps 71 = .ok (.iconst 0, 1) := by decide +kernel
theorem dX5_lamps_72 : decode cX5_lamps 72 = .ok (.iaload, 1) := by decide +kernel
theorem dX5_lamps_73 : decode cX5_lamps 73 = .ok (.bipush 6, 2) := by decide +kernel
theorem dX5_lamps_75 : decode cX5_lamps 75 = .ok (.irem, 1) := by decide +kernel
theorem dX5_lamps_76 : decode cX5_lamps 76 = .ok (.iadd, 1) := by decide +kernel
theorem dX5_lamps_77 : decode cX5_lamps 77 = .ok (.istore 4, 2) := by decide +kernel
theorem dX5_lamps_79 : decode cX5_lamps 79 = .ok (.aload_n 0, 1) := by decide +kernel
theorem dX5_lamps_80 : decode cX5_lamps 80 = .ok (.getfield 9, 3) := by decide +kernel
theorem dX5_lamps_83 : decode cX5_lamps 83 = .ok (.iload 4, 2) := by decide +kernel
theorem dX5_lamps_85 : decode cX5_lamps 85 = .ok (.aload_n 0, 1) := by decide +kernel
theorem dX5_lamps_86 : decode cX5_lamps 86 = .ok (.iload_n 3, 1) := by decide +kernel
theorem dX5_lamps_87 : decode cX5_lamps 87 = .ok (.invokevirtual 83, 3) := by decide +kernel
theorem dX5_lamps_90 : decode cX5_lamps 90 = .ok (.ifCond .eq 7, 3) := by decide +kernel
theorem dX5_lamps_93 : decode cX5_lamps 93 = .ok (.iload_n 3, 1) := by decide +kernel
theorem dX5_lamps_94 : decode cX5_lamps 94 = .ok (.goto 10, 3) := by decide +kernel
theorem dX5_lamps_97 : decode cX5_lamps 97 = .ok (.aload_n 0, 1) := by decide +kernel
theorem dX5_lamps_98 : decode cX5_lamps 98 = .ok (.getfield 9, 3) := by decide +kernel
theorem dX5_lamps_101 : decode cX5_lamps 101 = .ok (.iload 4, 2) := by decide +kernel
theorem dX5_lamps_103 : decode cX5_lamps 103 = .ok (.iaload, 1) := by decide +kernel
theorem dX5_lamps_104 : decode cX5_lamps 104 = .ok (.iastore, 1) := by decide +kernel
theorem dX5_lamps_105 : decode cX5_lamps 105 = .ok (.aload_n 0, 1) := by decide +kernel
theorem dX5_lamps_106 : decode cX5_lamps 106 = .ok (.invokevirtual 159, 3) := by decide +kernel
theorem dX5_lamps_109 : decode cX5_lamps 109 = .ok (.iinc 2 1, 3) := by decide +kernel
theorem dX5_lamps_112 : decode cX5_lamps 112 = .ok (.goto (-73), 3) := by decide +kernel
theorem dX5_lamps_115 : decode cX5_lamps 115 = .ok (.aload_n 0, 1) := by decide +kernel
theorem dX5_lamps_116 : decode cX5_lamps 116 = .ok (.iconst 5, 1) := by decide +kernel
theorem dX5_lamps_117 : decode cX5_lamps 117 = .ok (.invokevirtual 166, 3) := by decide +kernel
theorem dX5_lamps_120 : decode cX5_lamps 120 = .ok (.ireturn, 1) := by decide +kernel
theorem dX5_odds_0 : decode cX5_odds 0 = .ok (.aload_n 0, 1) := by decide +kernel
theorem dX5_odds_1 : decode cX5_odds 1 = .ok (.iload_n 1, 1) := by decide +kernel
theorem dX5_odds_2 : decode cX5_odds 2 = .ok (.invokevirtual 83, 3) := by decide +kernel
theorem dX5_odds_5 : decode cX5_odds 5 = .ok (.ifCond .eq 30, 3) := by decide +kernel
theorem dX5_odds_8 : decode cX5_odds 8 = .ok (.iload_n 2, 1) := by decide +kernel
theorem dX5_odds_9 : decode cX5_odds 9 = .ok (.invokestatic 130, 3) := by decide +kernel
theorem dX5_odds_12 : decode cX5_odds 12 = .ok (.ifCond .eq 23, 3) := by decide +kernel
theorem dX5_odds_15 : decode cX5_odds 15 = .ok (.iload_n 3, 1) := by decide +kernel
theorem dX5_odds_16 : decode cX5_odds 16 = .ok (.iconst 0, 1) := by decide +kernel
theorem dX5_odds_17 : decode cX5_odds 17 = .ok (.bipush 18, 2) := by decide +kernel
theorem dX5_odds_19 : decode cX5_odds 19 = .ok (.invokestatic 70, 3) := by decide +kernel
theorem dX5_odds_22 : decode cX5_odds 22 = .ok (.ifCond .eq 13, 3) := by decide +kernel
theorem dX5_odds_25 : decode cX5_odds 25 = .ok (.iload 4, 2) := by decide +kernel
theorem dX5_odds_27 : decode cX5_odds 27 = .ok (.iconst 0, 1) := by decide +kernel
theorem dX5_odds_28 : decode cX5_odds 28 = .ok (.iconst 1, 1) := by decide +kernel
theorem dX5_odds_29 : decode cX5_odds 29 = .ok (.invokestatic 70, 3) := by decide +kernel
theorem dX5_odds_32 : decode cX5_odds 32 = .ok (.ifCond .ne 11, 3) := by decide +kernel
theorem dX5_odds_35 : decode cX5_odds 35 = .ok (.aload_n 0, 1) := by decide +kernel
theorem dX5_odds_36 : decode cX5_odds 36 = .ok (.ldc 60, 2) := by decide +kernel
theorem dX5_odds_38 : decode cX5_odds 38 = .ok (.invokevirtual 66, 3) := by decide +kernel
theorem dX5_odds_41 : decode cX5_odds 41 = .ok (.i2l, 1) := by decide +kernel
theorem dX5_odds_42 : decode cX5_odds 42 = .ok (.lreturn, 1) := by decide +kernel
theorem dX5_odds_43 : decode cX5_odds 43 = .ok (.aload_n 0, 1) := by decide +kernel
theorem dX5_odds_44 : decode cX5_odds 44 = .ok (.getfield 9, 3) := by decide +kernel
theorem dX5_odds_47 : decode cX5_odds 47 = .ok (.iconst 4, 1) := by decide +kernel
theorem dX5_odds_48 : decode cX5_odds 48 = .ok (.iaload, 1) := by decide +kernel
theorem dX5_odds_49 : decode cX5_odds 49 = .ok (.istore 5, 2) := by decide +kernel
theorem dX5_odds_51 : decode cX5_odds 51 = .ok (.iconst 0, 1) := by decide +kernel
theorem dX5_odds_52 : decode cX5_odds 52 = .ok (.istore 6, 2) := by decide +kernel
theorem dX5_odds_54 : decode cX5_odds 54 = .ok (.iconst 0, 1) := by decide +kernel
theorem dX5_odds_55 : decode cX5_odds 55 = .ok (.istore 7, 2) := by decide +kernel
theorem dX5_odds_57 : decode cX5_odds 57 = .ok (.iload 7, 2) := by decide +kernel
theorem dX5_odds_59 : decode cX5_odds 59 = .ok (.bipush 9, 2) := by decide +kernel
theorem dX5_odds_61 : decode cX5_odds 61 = .ok (.if_icmp .gt 36, 3) := by decide +kernel
theorem dX5_odds_64 : decode cX5_odds 64 = .ok (.aload_n 0, 1) := by decide +kernel
theorem dX5_odds_65 : decode cX5_odds 65 = .ok (.getfield 9, 3) := by decide +kernel
theorem dX5_odds_68 : decode cX5_odds 68 = .ok (.iconst 4, 1) := by decide +kernel
theorem dX5_odds_69 : decode cX5_odds 69 = .ok (.iload 7, 2) := by decide +kernel
theorem dX5_odds_71 : decode cX5_odds 71 = .ok (.iastore, 1) := by decide +kernel
theorem dX5_odds_72 : decode cX5_odds 72 = .ok (.iload 6, 2) := by decide +kernel
theorem dX5_odds_74 : decode cX5_odds 74 = .ok (.aload_n 0, 1) := by decide +kernel
theorem dX5_odds_75 : decode cX5_odds 75 = .ok (.iload_n 1, 1) := by decide +kernel
theorem dX5_odds_76 : decode cX5_odds 76 = .ok (.iload_n 2, 1) := by decide +kernel
theorem dX5_odds_77 : decode cX5_odds 77 = .ok (.invokevirtual 133, 3) := by decide +kernel
theorem dX5_odds_80 : decode cX5_odds 80 = .ok (.ifCond .ne 7, 3) := by decide +kernel
theorem dX5_odds_83 : decode cX5_odds 83 = .ok (.iconst 1, 1) := by decide +kernel
theorem dX5_odds_84 : decode cX5_odds 84 = .ok (.goto 4, 3) := by decide +kernel
theorem dX5_odds_87 : decode cX5_odds 87 = .ok (.iconst 0, 1) := by decide +kernel
theorem dX5_odds_88 : decode cX5_odds 88 = .ok (.iadd, 1) := by decide +kernel
theorem dX5_odds_89 : decode cX5_odds 89 = .ok (.istore 6, 2) := by decide +kernel
theorem dX5_odds_91 : decode cX5_odds 91 = .ok (.iinc 7 1, 3) := by decide +kernel
theorem dX5_odds_94 : decode cX5_odds 94 = .ok (.goto (-37), 3) := by decide +kernel
theorem dX5_odds_97 : decode cX5_odds 97 = .ok (.aload_n 0, 1) := by decide +kernel
theorem dX5_odds_98 : decode cX5_odds 98 = .ok (.getfield 9, 3) := by decide +kernel
theorem dX5_odds_101 : decode cX5_odds 101 = .ok (.iconst 4, 1) := by decide +kernel
theorem dX5_odds_102 : decode cX5_odds 102 = .ok (.iload 5, 2) := by decide +kernel
theorem dX5_odds_104 : decode cX5_odds 104 = .ok (.iastore, 1) := by decide +kernel
theorem dX5_odds_105 : decode cX5_odds 105 = .ok (.bipush 10, 2) := by decide +kernel
theorem dX5_odds_107 : decode cX5_odds 107 = .ok (.istore 7, 2) := by decide +kernel
theorem dX5_odds_109 : decode cX5_odds 109 = .ok (.iload 6, 2) := by decide +kernel
theorem dX5_odds_111 : decode cX5_odds 111 = .ok (.istore 8, 2) := by decide +kernel
theorem dX5_odds_113 : decode cX5_odds 113 = .ok (.iload 8, 2) := by decide +kernel
theorem dX5_odds_115 : decode cX5_odds 115 = .ok (.ifCond .eq 21, 3) := by decide +kernel
theorem dX5_odds_118 : decode cX5_odds 118 = .ok (.iload 7, 2) := by decide +kernel
theorem dX5_odds_120 : decode cX5_odds 120 = .ok (.iload 8, 2) := by decide +kernel
theorem dX5_odds_122 : decode cX5_odds 122 = .ok (.irem, 1) := by decide +kernel
theorem dX5_odds_123 : decode cX5_odds 123 = .ok (.istore 9, 2) := by decide +kernel
theorem dX5_odds_125 : decode cX5_odds 125 = .ok (.iload 8, 2) := by decide +kernel
theorem dX5_odds_127 : decode cX5_odds 127 = .ok (.istore 7, 2) := by decide +kernel
theorem dX5_odds_129 : decode cX5_odds 129 = .ok (.iload 9, 2) := by decide +kernel
theorem dX5_odds_131 : decode cX5_odds 131 = .ok (.istore 8, 2) := by decide +kernel
theorem dX5_odds_133 : decode cX5_odds 133 = .ok (.goto (-20), 3) := by decide +kernel
theorem dX5_odds_136 : decode cX5_odds 136 = .ok (.lconst 1, 1) := by decide +kernel
theorem dX5_odds_137 : decode cX5_odds 137 = .ok (.lstore 9, 2) := by decide +kernel
theorem dX5_odds_139 : decode cX5_odds 139 = .ok (.iconst 0, 1) := by decide +kernel
theorem dX5_odds_140 : decode cX5_odds 140 = .ok (.istore 11, 2) := by decide +kernel
theorem dX5_odds_142 : decode cX5_odds 142 = .ok (.iload 11, 2) := by decide +kernel
theorem dX5_odds_144 : decode cX5_odds 144 = .ok (.iload_n 3, 1) := by decide +kernel
theorem dX5_odds_145 : decode cX5_odds 145 = .ok (.if_icmp .ge 34, 3) := by decide +kernel
theorem dX5_odds_148 : decode cX5_odds 148 = .ok (.lload 9, 2) := by decide +kernel
theorem dX5_odds_150 : decode cX5_odds 150 = .ok (.iload 4, 2) := by decide +kernel
theorem dX5_odds_152 : decode cX5_odds 152 = .ok (.ifCond .ne 12, 3) := by decide +kernel
theorem dX5_odds_155 : decode cX5_odds 155 = .ok (.iload 6, 2) := by decide +kernel
theorem dX5_odds_157 : decode cX5_odds 157 = .ok (.iload 7, 2) := by decide +kernel
theorem dX5_odds_159 : decode cX5_odds 159 = .ok (.idiv, 1) := by decide +kernel
theorem dX5_odds_160 : decode cX5_odds 160 = .ok (.i2l, 1) := by decide +kernel
theorem dX5_odds_161 : decode cX5_odds 161 = .ok (.goto 9, 3) := by decide +kernel
theorem dX5_odds_164 : decode cX5_odds 164 = .ok (.bipush 10, 2) := by decide +kernel
theorem dX5_odds_166 : decode cX5_odds 166 = .ok (.iload 7, 2) := by decide +kernel
theorem dX5_odds_168 : decode cX5_odds 168 = .ok (.idiv, 1) := by decide +kernel
theorem dX5_odds_169 : decode cX5_odds 169 = .ok (.i2l, 1) := by decide +kernel
theorem dX5_odds_170 : decode cX5_odds 170 = .ok (.lmul, 1) := by decide +kernel
theorem dX5_odds_171 : decode cX5_odds 171 = .ok (.lstore 9, 2) := by decide +kernel
theorem dX5_odds_173 : decode cX5_odds 173 = .ok (.iinc 11 1, 3) := by decide +kernel
theorem dX5_odds_176 : decode cX5_odds 176 = .ok (.goto (-34), 3) := by decide +kernel
theorem dX5_odds_179 : decode cX5_odds 179 = .ok (.lload 9, 2) := by decide +kernel
theorem dX5_odds_181 : decode cX5_odds 181 = .ok (.lreturn, 1) := by decide +kernel
theorem dX5_seed_0 : decode cX5_seed 0 = .ok (.aload_n 0, 1) := by decide +kernel
theorem dX5_seed_1 : decode cX5_seed 1 = .ok (.iconst 2, 1) := by decide +kernel
theorem dX5_seed_2 : decode cX5_seed 2 = .ok (.iload_n 1, 1) := by decide +kernel
theorem dX5_seed_3 : decode cX5_seed 3 = .ok (.invokevirtual 79, 3) := by decide +kernel
theorem dX5_seed_6 : decode cX5_seed 6 = .ok (.ireturn, 1) := by decide +kernel
theorem dX5_feed_0 : decode cX5_feed 0 = .ok (.iload_n 2, 1) := by decide +kernel
theorem dX5_feed_1 : decode cX5_feed 1 = .ok (.iconst 1, 1) := by decide +kernel
theorem dX5_feed_2 : decode cX5_feed 2 = .ok (.iconst 4, 1) := by decide +kernel
theorem dX5_feed_3 : decode cX5_feed 3 = .ok (.invokestatic 70, 3) := by decide +kernel
theorem dX5_feed_6 : decode cX5_feed 6 = .ok (.ifCond .ne 10, 3) := by decide +kernel
theorem dX5_feed_9 : decode cX5_feed 9 = .ok (.aload_n 0, 1) := by decide +kernel
theorem dX5_feed_10 : decode cX5_feed 10 = .ok (.ldc 60, 2) := by decide +kernel
theorem dX5_feed_12 : decode cX5_feed 12 = .ok (.invokevirtual 66, 3) := by decide +kernel
theorem dX5_feed_15 : decode cX5_feed 15 = .ok (.ireturn, 1) := by decide +kernel
theorem dX5_feed_16 : decode cX5_feed 16 = .ok (.aload_n 0, 1) := by decide +kernel
theorem dX5_feed_17 : decode cX5_feed 17 = .ok (.getfield 238, 3) := by decide +kernel
theorem dX5_feed_20 : decode cX5_feed 20 = .ok (.iload_n 2, 1) := by decide +kernel
theorem dX5_feed_21 : decode cX5_feed 21 = .ok (.iadd, 1) := by decide +kernel
theorem dX5_feed_22 : decode cX5_feed 22 = .ok (.bipush 120, 2) := by decide +kernel
theorem dX5_feed_24 : decode cX5_feed 24 = .ok (.if_icmp .le 10, 3) := by decide +kernel
theorem dX5_feed_27 : decode cX5_feed 27 = .ok (.aload_n 0, 1) := by decide +kernel
theorem dX5_feed_28 : decode cX5_feed 28 = .ok (.ldc 99, 2) := by decide +kernel
theorem dX5_feed_30 : decode cX5_feed 30 = .ok (.invokevirtual 66, 3) := by decide +kernel
theorem dX5_feed_33 : decode cX5_feed 33 = .ok (.ireturn, 1) := by decide +kernel
theorem dX5_feed_34 : decode cX5_feed 34 = .ok (.iload_n 2, 1) := by decide +kernel
theorem dX5_feed_35 : decode cX5_feed 35 = .ok (.iconst 1, 1) := by decide +kernel
theorem dX5_feed_36 : decode cX5_feed 36 = .ok (.isub, 1) := by decide +kernel
theorem dX5_feed_37 : decode cX5_feed 37 = .ok (.istore_n 3, 1) := by decide +kernel
theorem dX5_feed_38 : decode cX5_feed 38 = .ok (.iload_n 3, 1) := by decide +kernel
theorem dX5_feed_39 : decode cX5_feed 39 = .ok (.ifCond .lt 38, 3) := by decide +kernel
theorem dX5_feed_42 : decode cX5_feed 42 = .ok (.aload_n 0, 1) := by decide +kernel
theorem dX5_feed_43 : decode cX5_feed 43 = .ok (.getfield 22, 3) := by decide +kernel
theorem dX5_feed_46 : decode cX5_feed 46 = .ok (.aload_n 0, 1) := by decide +kernel
theorem dX5_feed_47 : decode cX5_feed 47 = .ok (.getfield 238, 3) := by decide +kernel
theorem dX5_feed_50 : decode cX5_feed 50 = .ok (.iload_n 1, 1) := by decide +kernel
theorem dX5_feed_51 : decode cX5_feed 51 = .ok (.bipush 8, 2) := by decide +kernel
theorem dX5_feed_53 : decode cX5_feed 53 = .ok (.iload_n 3, 1) := by decide +kernel
theorem dX5_feed_54 : decode cX5_feed 54 = .ok (.imul, 1) := by decide +kernel
theorem dX5_feed_55 : decode cX5_feed 55 = .ok (.ishr, 1) := by decide +kernel
theorem dX5_feed_56 : decode cX5_feed 56 = .ok (.sipush 255, 3) := by decide +kernel
theorem dX5_feed_59 : decode cX5_feed 59 = .ok (.iand, 1) := by decide +kernel
theorem dX5_feed_60 : decode cX5_feed 60 = .ok (.iastore, 1) := by decide +kernel
theorem dX5_feed_61 : decode cX5_feed 61 = .ok (.aload_n 0, 1) := by decide +kernel
theorem dX5_feed_62 : decode cX5_feed 62 = .ok (.dup, 1) := by decide +kernel
theorem dX5_feed_63 : decode cX5_feed 63 = .ok (.getfield 238, 3) := by decide +kernel
theorem dX5_feed_66 : decode cX5_feed 66 = .ok (.iconst 1, 1) := by decide +kernel
theorem dX5_feed_67 : decode cX5_feed 67 = .ok (.iadd, 1) := by decide +kernel
theorem dX5_feed_68 : decode cX5_feed 68 = .ok (.putfield 238, 3) := by decide +kernel
theorem dX5_feed_71 : decode cX5_feed 71 = .ok (.iinc 3 (-1), 3) := by decide +kernel
theorem dX5_feed_74 : decode cX5_feed 74 = .ok (.goto (-36), 3) := by decide +kernel
theorem dX5_feed_77 : decode cX5_feed 77 = .ok (.aload_n 0, 1) := by decide +kernel
theorem dX5_feed_78 : decode cX5_feed 78 = .ok (.getfield 238, 3) := by decide +kernel
theorem dX5_feed_81 : decode cX5_feed 81 = .ok (.ireturn, 1) := by decide +kernel
theorem dX5_wipe_0 : decode cX5_wipe 0 = .ok (.aload_n 0, 1) := by decide +kernel
theorem dX5_wipe_1 : decode cX5_wipe 1 = .ok (.getfield 238, 3) := by decide +kernel
theorem dX5_wipe_4 : decode cX5_wipe 4 = .ok (.istore_n 1, 1) := by decide +kernel
theorem dX5_wipe_5 : decode cX5_wipe 5 = .ok (.aload_n 0, 1) := by decide +kernel
theorem dX5_wipe_6 : decode cX5_wipe 6 = .ok (.iconst 0, 1) := by decide +kernel
theorem dX5_wipe_7 : decode cX5_wipe 7 = .ok (.putfield 238, 3) := by decide +kernel
theorem dX5_wipe_10 : decode cX5_wipe 10 = .ok (.iload_n 1, 1) := by decide +kernel
theorem dX5_wipe_11 : decode cX5_wipe 11 = .ok (.ireturn, 1) := by decide +kernel
theorem dX5_byteAt_0 : decode cX5_byteAt 0 = .ok (.iload_n 1, 1) := by decide +kernel
theorem dX5_byteAt_1 : decode cX5_byteAt 1 = .ok (.aload_n 0, 1) := by decide +kernel
theorem dX5_byteAt_2 : decode cX5_byteAt 2 = .ok (.getfield 238, 3) := by decide +kernel
theorem dX5_byteAt_5 : decode cX5_byteAt 5 = .ok (.if_icmp .ge 12, 3) := by decide +kernel
theorem dX5_byteAt_8 : decode cX5_byteAt 8 = .ok (.aload_n 0, 1) := by decide +kernel
theorem dX5_byteAt_9 : decode cX5_byteAt 9 = .ok (.getfield 22, 3) := by decide +kernel
theorem dX5_byteAt_12 : decode cX5_byteAt 12 = .ok (.iload_n 1, 1) := by decide +kernel
theorem dX5_byteAt_13 : decode cX5_byteAt 13 = .ok (.iaload, 1) := by decide +kernel
theorem dX5_byteAt_14 : decode cX5_byteAt 14 = .ok (.goto 4, 3) := by decide +kernel
theorem dX5_byteAt_17 : decode cX5_byteAt 17 = .ok (.iconst (-1), 1) := by decide +kernel
theorem dX5_byteAt_18 : decode cX5_byteAt 18 = .ok (.ireturn, 1) := by decide +kernel
theorem dX5_token_0 : decode cX5_token 0 = .ok (.aload_n 0, 1) := by decide +kernel
theorem dX5_token_1 : decode cX5_token 1 = .ok (.aload_n 0, 1) := by decide +kernel
theorem dX5_token_2 : decode cX5_token 2 = .ok (.getfield 241, 3) := by decide +kernel
theorem dX5_token_5 : decode cX5_token 5 = .ok (.putfield 244, 3) := by decide +kernel
theorem dX5_token_8 : decode cX5_token 8 = .ok (.aload_n 0, 1) := by decide +kernel
theorem dX5_token_9 : decode cX5_token 9 = .ok (.aload_n 0, 1) := by decide +kernel
theorem dX5_token_10 : decode cX5_token 10 = .ok (.getfield 244, 3) := by decide +kernel
theorem dX5_token_13 : decode cX5_token 13 = .ok (.invokevirtual 247, 3) := by decide +kernel
theorem dX5_token_16 : decode cX5_token 16 = .ok (.bipush 32, 2) := by decide +kernel
theorem dX5_token_18 : decode cX5_token 18 = .ok (.if_icmp .ne 16, 3) := by decide +kernel
theorem dX5_token_21 : decode cX5_token 21 = .ok (.aload_n 0, 1) := by decide +kernel
theorem dX5_token_22 : decode cX5_token 22 = .ok (.dup, 1) := by decide +kernel
theorem dX5_token_23 : decode cX5_token 23 = .ok (.getfield 244, 3) := by decide +kernel
theorem dX5_token_26 : decode cX5_token 26 = .ok (.iconst 1, 1) := by decide +kernel
theorem dX5_token_27 : decode cX5_token 27 = .ok (.iadd, 1) := by decide +kernel
theorem dX5_token_28 : decode cX5_token 28 = .ok (.putfield 244, 3) := by decide +kernel
theorem dX5_token_31 : decode cX5_token 31 = .ok (.goto (-23), 3) := by decide +kernel
theorem dX5_token_34 : decode cX5_token 34 = .ok (.aload_n 0, 1) := by decide +kernel
theorem dX5_token_35 : decode cX5_token 35 = .ok (.aload_n 0, 1) := by decide +kernel
theorem dX5_token_36 : decode cX5_token 36 = .ok (.getfield 244, 3) := by decide +kernel
theorem dX5_token_39 : decode cX5_token 39 = .ok (.invokevirtual 247, 3) := by decide +kernel
theorem dX5_token_42 : decode cX5_token 42 = .ok (.istore_n 1, 1) := by decide +kernel
theorem dX5_token_43 : decode cX5_token 43 = .ok (.aload_n 0, 1) := by decide +kernel
theorem dX5_token_44 : decode cX5_token 44 = .ok (.aload_n 0, 1) := by decide +kernel
theorem dX5_token_45 : decode cX5_token 45 = .ok (.getfield 244, 3) := by decide +kernel
theorem dX5_token_48 : decode cX5_token 48 = .ok (.putfield 241, 3) := by decide +kernel
theorem dX5_token_51 : decode cX5_token 51 = .ok (.aload_n 0, 1) := by decide +kernel
theorem dX5_token_52 : decode cX5_token 52 = .ok (.iconst 0, 1) := by decide +kernel
theorem dX5_token_53 : decode cX5_token 53 = .ok (.putfield 250, 3) := by decide +kernel
theorem dX5_token_56 : decode cX5_token 56 = .ok (.iload_n 1, 1) := by decide +kernel
theorem dX5_token_57 : decode cX5_token 57 = .ok (.ifCond .ge 11, 3) := by decide +kernel
theorem dX5_token_60 : decode cX5_token 60 = .ok (.aload_n 0, 1) := by decide +kernel
theorem dX5_token_61 : decode cX5_token 61 = .ok (.iconst 0, 1) := by decide +kernel
theorem dX5_token_62 : decode cX5_token 62 = .ok (.putfield 253, 3) := by decide +kernel
theorem dX5_token_65 : decode cX5_token 65 = .ok (.goto 141, 3) := by decide +kernel
theorem dX5_token_68 : decode cX5_token 68 = .ok (.iload_n 1, 1) := by decide +kernel
theorem dX5_token_69 : decode cX5_token 69 = .ok (.bipush 97, 2) := by decide +kernel
theorem dX5_token_71 : decode cX5_token 71 = .ok (.bipush 122, 2) := by decide +kernel
theorem dX5_token_73 : decode cX5_token 73 = .ok (.invokestatic 70, 3) := by decide +kernel
theorem dX5_token_76 : decode cX5_token 76 = .ok (.ifCond .eq 39, 3) := by decide +kernel
theorem dX5_token_79 : decode cX5_token 79 = .ok (.aload_n 0, 1) := by decide +kernel
theorem dX5_token_80 : decode cX5_token 80 = .ok (.iconst 1, 1) := by decide +kernel
theorem dX5_token_81 : decode cX5_token 81 = .ok (.putfield 253, 3) := by decide +kernel
theorem dX5_token_84 : decode cX5_token 84 = .ok (.aload_n 0, 1) := by decide +kernel
theorem dX5_token_85 : decode cX5_token 85 = .ok (.aload_n 0, 1) := by decide +kernel
theorem dX5_token_86 : decode cX5_token 86 = .ok (.getfield 241, 3) := by decide +kernel
theorem dX5_token_89 : decode cX5_token 89 = .ok (.invokevirtual 247, 3) := by decide +kernel
theorem dX5_token_92 : decode cX5_token 92 = .ok (.bipush 97, 2) := by decide +kernel
theorem dX5_token_94 : decode cX5_token 94 = .ok (.bipush 122, 2) := by decide +kernel
theorem dX5_token_96 : decode cX5_token 96 = .ok (.invokestatic 70, 3) := by decide +kernel
theorem dX5_token_99 : decode cX5_token 99 = .ok (.ifCond .eq 107, 3) := by decide +kernel
theorem dX5_token_102 : decode cX5_token 102 = .ok (.aload_n 0, 1) := by decide +kernel
theorem dX5_token_103 : decode cX5_token 103 = .ok (.dup, 1) := by decide +kernel
theorem dX5_token_104 : decode cX5_token 104 = .ok (.getfield 241, 3) := by decide +kernel
theorem dX5_token_107 : decode cX5_token 107 = .ok (.iconst 1, 1) := by decide +kernel
theorem dX5_token_108 : decode cX5_token 108 = .ok (.iadd, 1) := by decide +kernel
theorem dX5_token_109 : decode cX5_token 109 = .ok (.putfield 241, 3) := by decide +kernel
theorem dX5_token_112 : decode cX5_token 112 = .ok (.goto (-28), 3) := by decide +kernel
theorem dX5_token_115 : decode cX5_token 115 = .ok (.iload_n 1, 1) := by decide +kernel
theorem dX5_token_116 : decode cX5_token 116 = .ok (.bipush 48, 2) := by decide +kernel
theorem dX5_token_118 : decode cX5_token 118 = .ok (.bipush 57, 2) := by decide +kernel
theorem dX5_token_120 : decode cX5_token 120 = .ok (.invokestatic 70, 3) := by decide +kernel
theorem dX5_token_123 : decode cX5_token 123 = .ok (.ifCond .eq 68, 3) := by decide +kernel
theorem dX5_token_126 : decode cX5_token 126 = .ok (.aload_n 0, 1) := by decide +kernel
theorem dX5_token_127 : decode cX5_token 127 = .ok (.iconst 2, 1) := by decide +kernel
theorem dX5_token_128 : decode cX5_token 128 = .ok (.putfield 253, 3) := by decide +kernel
theorem dX5_token_131 : decode cX5_token 131 = .ok (.aload_n 0, 1) := by decide +kernel
theorem dX5_token_132 : decode cX5_token 132 = .ok (.aload_n 0, 1) := by decide +kernel
theorem dX5_token_133 : decode cX5_token 133 = .ok (.getfield 241, 3) := by decide +kernel
theorem dX5_token_136 : decode cX5_token 136 = .ok (.invokevirtual 247, 3) := by decide +kernel
theorem dX5_token_139 : decode cX5_token 139 = .ok (.bipush 48, 2) := by decide +kernel
theorem dX5_token_141 : decode cX5_token 141 = .ok (.bipush 57, 2) := by decide +kernel
theorem dX5_token_143 : decode cX5_token 143 = .ok (.invokestatic 70, 3) := by decide +kernel
theorem dX5_token_146 : decode cX5_token 146 = .ok (.ifCond .eq 60, 3) := by decide +kernel
theorem dX5_token_149 : decode cX5_token 149 = .ok (.aload_n 0, 1) := by decide +kernel
theorem dX5_token_150 : decode cX5_token 150 = .ok (.sipush 1000, 3) := by decide +kernel
theorem dX5_token_153 : decode cX5_token 153 = .ok (.bipush 10, 2) := by decide +kernel
theorem dX5_token_155 : decode cX5_token 155 = .ok (.aload_n 0, 1) := by decide +kernel
theorem dX5_token_156 : decode cX5_token 156 = .ok (.getfield 250, 3) := by decide +kernel
theorem dX5_token_159 : decode cX5_token 159 = .ok (.imul, 1) := by decide +kernel
theorem dX5_token_160 : decode cX5_token 160 = .ok (.aload_n 0, 1) := by decide +kernel
theorem dX5_token_161 : decode cX5_token 161 = .ok (.aload_n 0, 1) := by decide +kernel
theorem dX5_token_162 : decode cX5_token 162 = .ok (.getfield 241, 3) := by decide +kernel
theorem dX5_token_165 : decode cX5_token 165 = .ok (.invokevirtual 247, 3) := by decide +kernel
theorem dX5_token_168 : decode cX5_token 168 = .ok (.iadd, 1) := by decide +kernel
theorem dX5_token_169 : decode cX5_token 169 = .ok (.bipush 48, 2) := by decide +kernel
theorem dX5_token_171 : decode cX5_token 171 = .ok (.isub, 1) := by decide +kernel
theorem dX5_token_172 : decode cX5_token 172 = .ok (.invokestatic 139, 3) := by decide +kernel
theorem dX5_token_175 : decode cX5_token 175 = .ok (.putfield 250, 3) := by decide +kernel
theorem dX5_token_178 : decode cX5_token 178 = .ok (.aload_n 0, 1) := by decide +kernel
theorem dX5_token_179 : decode cX5_token 179 = .ok (.dup, 1) := by decide +kernel
theorem dX5_token_180 : decode cX5_token 180 = .ok (.getfield 241, 3) := by decide +kernel
theorem dX5_token_183 : decode cX5_token 183 = .ok (.iconst 1, 1) := by decide +kernel
theorem dX5_token_184 : decode cX5_token 184 = .ok (.iadd, 1) := by decide +kernel
theorem dX5_token_185 : decode cX5_token 185 = .ok (.putfield 241, 3) := by decide +kernel
theorem dX5_token_188 : decode cX5_token 188 = .ok (.goto (-57), 3) := by decide +kernel
theorem dX5_token_191 : decode cX5_token 191 = .ok (.aload_n 0, 1) := by decide +kernel
theorem dX5_token_192 : decode cX5_token 192 = .ok (.iconst 3, 1) := by decide +kernel
theorem dX5_token_193 : decode cX5_token 193 = .ok (.putfield 253, 3) := by decide +kernel
theorem dX5_token_196 : decode cX5_token 196 = .ok (.aload_n 0, 1) := by decide +kernel
theorem dX5_token_197 : decode cX5_token 197 = .ok (.dup, 1) := by decide +kernel
theorem dX5_token_198 : decode cX5_token 198 = .ok (.getfield 241, 3) := by decide +kernel
theorem dX5_token_201 : decode cX5_token 201 = .ok (.iconst 1, 1) := by decide +kernel
theorem dX5_token_202 : decode cX5_token 202 = .ok (.iadd, 1) := by decide +kernel
theorem dX5_token_203 : decode cX5_token 203 = .ok (.putfield 241, 3) := by decide +kernel
theorem dX5_token_206 : decode cX5_token 206 = .ok (.return_, 1) := by decide +kernel
theorem dX5_isWord_0 : decode cX5_isWord 0 = .ok (.aload_n 0, 1) := by decide +kernel
theorem dX5_isWord_1 : decode cX5_isWord 1 = .ok (.getfield 253, 3) := by decide +kernel
theorem dX5_isWord_4 : decode cX5_isWord 4 = .ok (.iconst 1, 1) := by decide +kernel
theorem dX5_isWord_5 : decode cX5_isWord 5 = .ok (.if_icmp .ne 23, 3) := by decide +kernel
theorem dX5_isWord_8 : decode cX5_isWord 8 = .ok (.aload_n 0, 1) := by decide +kernel
theorem dX5_isWord_9 : decode cX5_isWord 9 = .ok (.getfield 241, 3) := by decide +kernel
theorem dX5_isWord_12 : decode cX5_isWord 12 = .ok (.aload_n 0, 1) := by decide +kernel
theorem dX5_isWord_13 : decode cX5_isWord 13 = .ok (.getfield 244, 3) := by decide +kernel
theorem dX5_isWord_16 : decode cX5_isWord 16 = .ok (.isub, 1) := by decide +kernel
theorem dX5_isWord_17 : decode cX5_isWord 17 = .ok (.aload_n 1, 1) := by decide +kernel
theorem dX5_isWord_18 : decode cX5_isWord 18 = .ok (.invokevirtual 256, 3) := by decide +kernel
theorem dX5_isWord_21 : decode cX5_isWord 21 = .ok (.if_icmp .ne 7, 3) := by decide +kernel
theorem dX5_isWord_24 : decode cX5_isWord 24 = .ok (.iconst 1, 1) := by decide +kernel
theorem dX5_isWord_25 : decode cX5_isWord 25 = .ok (.goto 4, 3) := by decide +kernel
theorem dX5_isWord_28 : decode cX5_isWord 28 = .ok (.iconst 0, 1) := by decide +kernel
theorem dX5_isWord_29 : decode cX5_isWord 29 = .ok (.istore_n 2, 1) := by decide +kernel
theorem dX5_isWord_30 : decode cX5_isWord 30 = .ok (.iconst 0, 1) := by decide +kernel
theorem dX5_isWord_31 : decode cX5_isWord 31 = .ok (.istore_n 3, 1) := by decide +kernel
theorem dX5_isWord_32 : decode cX5_isWord 32 = .ok (.iload_n 3, 1) := by decide +kernel
theorem dX5_isWord_33 : decode cX5_isWord 33 = .ok (.aload_n 1, 1) := by decide +kernel
theorem dX5_isWord_34 : decode cX5_isWord 34 = .ok (.invokevirtual 256, 3) := by decide +kernel
theorem dX5_isWord_37 : decode cX5_isWord 37 = .ok (.if_icmp .ge 38, 3) := by decide +kernel
theorem dX5_isWord_40 : decode cX5_isWord 40 = .ok (.iload_n 2, 1) := by decide +kernel
theorem dX5_isWord_41 : decode cX5_isWord 41 = .ok (.ifCond .eq 34, 3) := by decide +kernel
theorem dX5_isWord_44 : decode cX5_isWord 44 = .ok (.aload_n 0, 1) := by decide +kernel
theorem dX5_isWord_45 : decode cX5_isWord 45 = .ok (.getfield 22, 3) := by decide +kernel
theorem dX5_isWord_48 : decode cX5_isWord 48 = .ok (.aload_n 0, 1) := by decide +kernel
theorem dX5_isWord_49 : decode cX5_isWord 49 = .ok (.getfield 244, 3) := by decide +kernel
theorem dX5_isWord_52 : decode cX5_isWord 52 = .ok (.iload_n 3, 1) := by decide +kernel
theorem dX5_isWord_53 : decode cX5_isWord 53 = .ok (.iadd, 1) := by decide +kernel
theorem dX5_isWord_54 : decode cX5_isWord 54 = .ok (.iaload, 1) := by decide +kernel
theorem dX5_isWord_55 : decode cX5_isWord 55 = .ok (.aload_n 1, 1) := by decide +kernel
theorem dX5_isWord_56 : decode cX5_isWord 56 = .ok (.iload_n 3, 1) := by decide +kernel
theorem dX5_isWord_57 : decode cX5_isWord 57 = .ok (.invokevirtual 259, 3) := by decide +kernel
theorem dX5_isWord_60 : decode cX5_isWord 60 = .ok (.if_icmp .ne 7, 3) := by decide +kernel
theorem dX5_isWord_63 : decode cX5_isWord 63 = .ok (.iconst 1, 1) := by decide +kernel
theorem dX5_isWord_64 : decode cX5_isWord 64 = .ok (.goto 4, 3) := by decide +kernel
theorem dX5_isWord_67 : decode cX5_isWord 67 = .ok (.iconst 0, 1) := by decide +kernel
theorem dX5_isWord_68 : decode cX5_isWord 68 = .ok (.istore_n 2, 1) := by decide +kernel
theorem dX5_isWord_69 : decode cX5_isWord 69 = .ok (.iinc 3 1, 3) := by decide +kernel
theorem dX5_isWord_72 : decode cX5_isWord 72 = .ok (.goto (-40), 3) := by decide +kernel
theorem dX5_isWord_75 : decode cX5_isWord 75 = .ok (.iload_n 2, 1) := by decide +kernel
theorem dX5_isWord_76 : decode cX5_isWord 76 = .ok (.ireturn, 1) := by decide +kernel
theorem dX5_must_0 : decode cX5_must 0 = .ok (.aload_n 0, 1) := by decide +kernel
theorem dX5_must_1 : decode cX5_must 1 = .ok (.aload_n 0, 1) := by decide +kernel
theorem dX5_must_2 : decode cX5_must 2 = .ok (.getfield 263, 3) := by decide +kernel
theorem dX5_must_5 : decode cX5_must 5 = .ok (.ifCond .ne 7, 3) := by decide +kernel
theorem dX5_must_8 : decode cX5_must 8 = .ok (.iload_n 1, 1) := by decide +kernel
theorem dX5_must_9 : decode cX5_must 9 = .ok (.ifCond .ne 7, 3) := by decide +kernel
theorem dX5_must_12 : decode cX5_must 12 = .ok (.iconst 1, 1) := by decide +kernel
theorem dX5_must_13 : decode cX5_must 13 = .ok (.goto 4, 3) := by decide +kernel
theorem dX5_must_16 : decode cX5_must 16 = .ok (.iconst 0, 1) := by decide +kernel
theorem dX5_must_17 : decode cX5_must 17 = .ok (.putfield 263, 3) := by decide +kernel
theorem dX5_must_20 : decode cX5_must 20 = .ok (.aload_n 0, 1) := by decide +kernel
theorem dX5_must_21 : decode cX5_must 21 = .ok (.getfield 263, 3) := by decide +kernel
theorem dX5_must_24 : decode cX5_must 24 = .ok (.ifCond .ne 7, 3) := by decide +kernel
theorem dX5_must_27 : decode cX5_must 27 = .ok (.aload_n 0, 1) := by decide +kernel
theorem dX5_must_28 : decode cX5_must 28 = .ok (.invokevirtual 267, 3) := by decide +kernel
theorem dX5_must_31 : decode cX5_must 31 = .ok (.return_, 1) := by decide +kernel
theorem dX5_number_0 : decode cX5_number 0 = .ok (.aload_n 0, 1) := by decide +kernel
theorem dX5_number_1 : decode cX5_number 1 = .ok (.getfield 250, 3) := by decide +kernel
theorem dX5_number_4 : decode cX5_number 4 = .ok (.istore_n 3, 1) := by decide +kernel
theorem dX5_number_5 : decode cX5_number 5 = .ok (.aload_n 0, 1) := by decide +kernel
theorem dX5_number_6 : decode cX5_number 6 = .ok (.aload_n 0, 1) := by decide +kernel
theorem dX5_number_7 : decode cX5_number 7 = .ok (.getfield 253, 3) := by decide +kernel
theorem dX5_number_10 : decode cX5_number 10 = .ok (.iconst 2, 1) := by decide +kernel
theorem dX5_number_11 : decode cX5_number 11 = .ok (.if_icmp .ne 16, 3) := by decide +kernel
theorem dX5_number_14 : decode cX5_number 14 = .ok (.iload_n 3, 1) := by decide +kernel
theorem dX5_number_15 : decode cX5_number 15 = .ok (.iload_n 1, 1) := by decide +kernel
theorem dX5_number_16 : decode cX5_number 16 = .ok (.iload_n 2, 1) := by decide +kernel
theorem dX5_number_17 : decode cX5_number 17 = .ok (.invokestatic 70, 3) := by decide +kernel
theorem dX5_number_20 : decode cX5_number 20 = .ok (.ifCond .eq 7, 3) := by decide +kernel
theorem dX5_number_23 : decode cX5_number 23 = .ok (.iconst 1, 1) := by decide +kernel
theorem dX5_number_24 : decode cX5_number 24 = .ok (.goto 4, 3) := by decide +kernel
theorem dX5_number_27 : decode cX5_number 27 = .ok (.iconst 0, 1) := by decide +kernel
theorem dX5_number_28 : decode cX5_number 28 = .ok (.invokevirtual 270, 3) := by decide +kernel
theorem dX5_number_31 : decode cX5_number 31 = .ok (.iload_n 3, 1) := by decide +kernel
theorem dX5_number_32 : decode cX5_number 32 = .ok (.ireturn, 1) := by decide +kernel
theorem dX5_addItem_0 : decode cX5_addItem 0 = .ok (.iconst 1, 1) := by decide +kernel
theorem dX5_addItem_1 : decode cX5_addItem 1 = .ok (.istore_n 3, 1) := by decide +kernel
theorem dX5_addItem_2 : decode cX5_addItem 2 = .ok (.iload_n 3, 1) := by decide +kernel
theorem dX5_addItem_3 : decode cX5_addItem 3 = .ok (.bipush 7, 2) := by decide +kernel
theorem dX5_addItem_5 : decode cX5_addItem 5 = .ok (.if_icmp .ge 24, 3) := by decide +kernel
theorem dX5_addItem_8 : decode cX5_addItem 8 = .ok (.aload_n 0, 1) := by decide +kernel
theorem dX5_addItem_9 : decode cX5_addItem 9 = .ok (.getfield 45, 3) := by decide +kernel
theorem dX5_addItem_12 : decode cX5_addItem 12 = .ok (.bipush 7, 2) := by decide +kernel
theorem dX5_addItem_14 : decode cX5_addItem 14 = .ok (.aload_n 0, 1) := by decide +kernel
theorem dX5_addItem_15 : decode cX5_addItem 15 = .ok (.getfield 274, 3) := by decide +kernel
theorem dX5_addItem_18 : decode cX5_addItem 18 = .ok (.imul, 1) := by decide +kernel
theorem dX5_addItem_19 : decode cX5_addItem 19 = .ok (.iload_n 3, 1) := by decide +kernel
theorem dX5_addItem_20 : decode cX5_addItem 20 = .ok (.iadd, 1) := by decide +kernel
theorem dX5_addItem_21 : decode cX5_addItem 21 = .ok (.iconst (-1), 1) := by decide +kernel
theorem dX5_addItem_22 : decode cX5_addItem 22 = .ok (.iastore, 1) := by decide +kernel
theorem dX5_addItem_23 : decode cX5_addItem 23 = .ok (.iinc 3 1, 3) := by decide +kernel
theorem dX5_addItem_26 : decode cX5_addItem 26 = .ok (.goto (-24), 3) := by decide +kernel
theorem dX5_addItem_29 : decode cX5_addItem 29 = .ok (.aload_n 0, 1) := by decide +kernel
theorem dX5_addItem_30 : decode cX5_addItem 30 = .ok (.getfield 45, 3) := by decide +kernel
theorem dX5_addItem_33 : decode cX5_addItem 33 = .ok (.bipush 7, 2) := by decide +kernel
theorem dX5_addItem_35 : decode cX5_addItem 35 = .ok (.aload_n 0, 1) := by decide +kernel
theorem dX5_addItem_36 : decode cX5_addItem 36 = .ok (.getfield 274, 3) := by decide +kernel
theorem dX5_addItem_39 : decode cX5_addItem 39 = .ok (.imul, 1) := by decide +kernel
theorem dX5_addItem_40 : decode cX5_addItem 40 = .ok (.iload_n 1, 1) := by decide +kernel
theorem dX5_addItem_41 : decode cX5_addItem 41 = .ok (.iastore, 1) := by decide +kernel
theorem dX5_addItem_42 : decode cX5_addItem 42 = .ok (.aload_n 0, 1) := by decide +kernel
theorem dX5_addItem_43 : decode cX5_addItem 43 = .ok (.getfield 45, 3) := by decide +kernel
theorem dX5_addItem_46 : decode cX5_addItem 46 = .ok (.bipush 7, 2) := by decide +kernel
theorem dX5_addItem_48 : decode cX5_addItem 48 = .ok (.aload_n 0, 1) := by decide +kernel
theorem dX5_addItem_49 : decode cX5_addItem 49 = .ok (.getfield 274, 3) := by decide +kernel
theorem dX5_addItem_52 : decode cX5_addItem 52 = .ok (.imul, 1) := by decide +kernel
theorem dX5_addItem_53 : decode cX5_addItem 53 = .ok (.iconst 1, 1) := by decide +kernel
theorem dX5_addItem_54 : decode cX5_addItem 54 = .ok (.iadd, 1) := by decide +kernel
theorem dX5_addItem_55 : decode cX5_addItem 55 = .ok (.iload_n 2, 1) := by decide +kernel
theorem dX5_addItem_56 : decode cX5_addItem 56 = .ok (.iastore, 1) := by decide +kernel
theorem dX5_addItem_57 : decode cX5_addItem 57 = .ok (.aload_n 0, 1) := by decide +kernel
theorem dX5_addItem_58 : decode cX5_addItem 58 = .ok (.dup, 1) := by decide +kernel
theorem dX5_addItem_59 : decode cX5_addItem 59 = .ok (.getfield 274, 3) := by decide +kernel
theorem dX5_addItem_62 : decode cX5_addItem 62 = .ok (.iconst 1, 1) := by decide +kernel
theorem dX5_addItem_63 : decode cX5_addItem 63 = .ok (.iadd, 1) := by decide +kernel
theorem dX5_addItem_64 : decode cX5_addItem 64 = .ok (.putfield 274, 3) := by decide +kernel
theorem dX5_addItem_67 : decode cX5_addItem 67 = .ok (.return_, 1) := by decide +kernel
theorem dX5_kindTold_0 : decode cX5_kindTold 0 = .ok (.iconst (-1), 1) := by decide +kernel
theorem dX5_kindTold_1 : decode cX5_kindTold 1 = .ok (.istore_n 1, 1) := by decide +kernel
theorem dX5_kindTold_2 : decode cX5_kindTold 2 = .ok (.iconst 0, 1) := by decide +kernel
theorem dX5_kindTold_3 : decode cX5_kindTold 3 = .ok (.istore_n 2, 1) := by decide +kernel
theorem dX5_kindTold_4 : decode cX5_kindTold 4 = .ok (.iload_n 2, 1) := by decide +kernel
theorem dX5_kindTold_5 : decode cX5_kindTold 5 = .ok (.aload_n 0, 1) := by decide +kernel
theorem dX5_kindTold_6 : decode cX5_kindTold 6 = .ok (.getfield 41, 3) := by decide +kernel
theorem dX5_kindTold_9 : decode cX5_kindTold 9 = .ok (.arraylength, 1) := by decide +kernel
theorem dX5_kindTold_10 : decode cX5_kindTold 10 = .ok (.if_icmp .ge 28, 3) := by decide +kernel
theorem dX5_kindTold_13 : decode cX5_kindTold 13 = .ok (.aload_n 0, 1) := by decide +kernel
theorem dX5_kindTold_14 : decode cX5_kindTold 14 = .ok (.aload_n 0, 1) := by decide +kernel
theorem dX5_kindTold_15 : decode cX5_kindTold 15 = .ok (.getfield 41, 3) := by decide +kernel
theorem dX5_kindTold_18 : decode cX5_kindTold 18 = .ok (.iload_n 2, 1) := by decide +kernel
theorem dX5_kindTold_19 : decode cX5_kindTold 19 = .ok (.aaload, 1) := by decide +kernel
theorem dX5_kindTold_20 : decode cX5_kindTold 20 = .ok (.invokevirtual 277, 3) := by decide +kernel
theorem dX5_kindTold_23 : decode cX5_kindTold 23 = .ok (.ifCond .eq 7, 3) := by decide +kernel
theorem dX5_kindTold_26 : decode cX5_kindTold 26 = .ok (.iload_n 2, 1) := by decide +kernel
theorem dX5_kindTold_27 : decode cX5_kindTold 27 = .ok (.goto 4, 3) := by decide +kernel
theorem dX5_kindTold_30 : decode cX5_kindTold 30 = .ok (.iload_n 1, 1) := by decide +kernel
theorem dX5_kindTold_31 : decode cX5_kindTold 31 = .ok (.istore_n 1, 1) := by decide +kernel
theorem dX5_kindTold_32 : decode cX5_kindTold 32 = .ok (.iinc 2 1, 3) := by decide +kernel
theorem dX5_kindTold_35 : decode cX5_kindTold 35 = .ok (.goto (-31), 3) := by decide +kernel
theorem dX5_kindTold_38 : decode cX5_kindTold 38 = .ok (.iload_n 1, 1) := by decide +kernel
theorem dX5_kindTold_39 : decode cX5_kindTold 39 = .ok (.ireturn, 1) := by decide +kernel
theorem dX5_perhaps_0 : decode cX5_perhaps 0 = .ok (.aload_n 0, 1) := by decide +kernel
theorem dX5_perhaps_1 : decode cX5_perhaps 1 = .ok (.getfield 263, 3) := by decide +kernel
theorem dX5_perhaps_4 : decode cX5_perhaps 4 = .ok (.ifCond .ne 11, 3) := by decide +kernel
theorem dX5_perhaps_7 : decode cX5_perhaps 7 = .ok (.aload_n 0, 1) := by decide +kernel
theorem dX5_perhaps_8 : decode cX5_perhaps 8 = .ok (.aload_n 1, 1) := by decide +kernel
theorem dX5_perhaps_9 : decode cX5_perhaps 9 = .ok (.invokevirtual 277, 3) := by decide +kernel
theorem dX5_perhaps_12 : decode cX5_perhaps 12 = .ok (.ifCond .ne 5, 3) := by decide +kernel
theorem dX5_perhaps_15 : decode cX5_perhaps 15 = .ok (.iload_n 3, 1) := by decide +kernel
theorem dX5_perhaps_16 : decode cX5_perhaps 16 = .ok (.ireturn, 1) := by decide +kernel
theorem dX5_perhaps_17 : decode cX5_perhaps 17 = .ok (.aload_n 0, 1) := by decide +kernel
theorem dX5_perhaps_18 : decode cX5_perhaps 18 = .ok (.iconst 1, 1) := by decide +kernel
theorem dX5_perhaps_19 : decode cX5_perhaps 19 = .ok (.invokevirtual 270, 3) := by decide +kernel
theorem dX5_perhaps_22 : decode cX5_perhaps 22 = .ok (.aload_n 0, 1) := by decide +kernel
theorem dX5_perhaps_23 : decode cX5_perhaps 23 = .ok (.iconst 0, 1) := by decide +kernel
theorem dX5_perhaps_24 : decode cX5_perhaps 24 = .ok (.iload_n 2, 1) := by decide +kernel
theorem dX5_perhaps_25 : decode cX5_perhaps 25 = .ok (.invokevirtual 281, 3) := by decide +kernel
theorem dX5_perhaps_28 : decode cX5_perhaps 28 = .ok (.ireturn, 1) := by decide +kernel
theorem dX5_readSitter_0 : decode cX5_readSitter 0 = .ok (.aload_n 0, 1) := by decide +kernel
theorem dX5_readSitter_1 : decode cX5_readSitter 1 = .ok (.aload_n 0, 1) := by decide +kernel
theorem dX5_readSitter_2 : decode cX5_readSitter 2 = .ok (.getfield 284, 3) := by decide +kernel
theorem dX5_readSitter_5 : decode cX5_readSitter 5 = .ok (.bipush 8, 2) := by decide +kernel
theorem dX5_readSitter_7 : decode cX5_readSitter 7 = .ok (.if_icmp .ge 7, 3) := by decide +kernel
theorem dX5_readSitter_10 : decode cX5_readSitter 10 = .ok (.iconst 1, 1) := by decide +kernel
theorem dX5_readSitter_11 : decode cX5_readSitter 11 = .ok (.goto 4, 3) := by decide +kernel
theorem dX5_readSitter_14 : decode cX5_readSitter 14 = .ok (.iconst 0, 1) := by decide +kernel
theorem dX5_readSitter_15 : decode cX5_readSitter 15 = .ok (.invokevirtual 270, 3) := by decide +kernel
theorem dX5_readSitter_18 : decode cX5_readSitter 18 = .ok (.aload_n 0, 1) := by decide +kernel
theorem dX5_readSitter_19 : decode cX5_readSitter 19 = .ok (.iload_n 1, 1) := by decide +kernel
theorem dX5_readSitter_20 : decode cX5_readSitter 20 = .ok (.aload_n 0, 1) := by decide +kernel
theorem dX5_readSitter_21 : decode cX5_readSitter 21 = .ok (.ldc_w 287, 3) := by decide +kernel
theorem dX5_readSitter_24 : decode cX5_readSitter 24 = .ok (.bipush 90, 2) := by decide +kernel
theorem dX5_readSitter_26 : decode cX5_readSitter 26 = .ok (.bipush 60, 2) := by decide +kernel
theorem dX5_readSitter_28 : decode cX5_readSitter 28 = .ok (.invokevirtual 289, 3) := by decide +kernel
theorem dX5_readSitter_31 : decode cX5_readSitter 31 = .ok (.invokevirtual 293, 3) := by decide +kernel
theorem dX5_readSitter_34 : decode cX5_readSitter 34 = .ok (.bipush 7, 2) := by decide +kernel
theorem dX5_readSitter_36 : decode cX5_readSitter 36 = .ok (.aload_n 0, 1) := by decide +kernel
theorem dX5_readSitter_37 : decode cX5_readSitter 37 = .ok (.getfield 274, 3) := by decide +kernel
theorem dX5_readSitter_40 : decode cX5_readSitter 40 = .ok (.iconst 1, 1) := by decide +kernel
theorem dX5_readSitter_41 : decode cX5_readSitter 41 = .ok (.isub, 1) := by decide +kernel
theorem dX5_readSitter_42 : decode cX5_readSitter 42 = .ok (.imul, 1) := by decide +kernel
theorem dX5_readSitter_43 : decode cX5_readSitter 43 = .ok (.istore_n 2, 1) := by decide +kernel
theorem dX5_readSitter_44 : decode cX5_readSitter 44 = .ok (.aload_n 0, 1) := by decide +kernel
theorem dX5_readSitter_45 : decode cX5_readSitter 45 = .ok (.getfield 45, 3) := by decide +kernel
theorem dX5_readSitter_48 : decode cX5_readSitter 48 = .ok (.iload_n 2, 1) := by decide +kernel
theorem dX5_readSitter_49 : decode cX5_readSitter 49 = .ok (.iconst 2, 1) := by decide +kernel
theorem dX5_readSitter_50 : decode cX5_readSitter 50 = .ok (.iadd, 1) := by decide +kernel
theorem dX5_readSitter_51 : decode cX5_readSitter 51 = .ok (.aload_n 0, 1) := by decide +kernel
theorem dX5_readSitter_52 : decode cX5_readSitter 52 = .ok (.ldc_w 296, 3) := by decide +kernel
theorem dX5_readSitter_55 : decode cX5_readSitter 55 = .ok (.bipush 9, 2) := by decide +kernel
theorem dX5_readSitter_57 : decode cX5_readSitter 57 = .ok (.iconst 5, 1) := by decide +kernel
theorem dX5_readSitter_58 : decode cX5_readSitter 58 = .ok (.invokevirtual 289, 3) := by decide +kernel
theorem dX5_readSitter_61 : decode cX5_readSitter 61 = .ok (.iastore, 1) := by decide +kernel
theorem dX5_readSitter_62 : decode cX5_readSitter 62 = .ok (.aload_n 0, 1) := by decide +kernel
theorem dX5_readSitter_63 : decode cX5_readSitter 63 = .ok (.getfield 45, 3) := by decide +kernel
theorem dX5_readSitter_66 : decode cX5_readSitter 66 = .ok (.iload_n 2, 1) := by decide +kernel
theorem dX5_readSitter_67 : decode cX5_readSitter 67 = .ok (.iconst 3, 1) := by decide +kernel
theorem dX5_readSitter_68 : decode cX5_readSitter 68 = .ok (.iadd, 1) := by decide +kernel
theorem dX5_readSitter_69 : decode cX5_readSitter 69 = .ok (.aload_n 0, 1) := by decide +kernel
theorem dX5_readSitter_70 : decode cX5_readSitter 70 = .ok (.ldc_w 298, 3) := by decide +kernel
theorem dX5_readSitter_73 : decode cX5_readSitter 73 = .ok (.bipush 9, 2) := by decide +kernel
theorem dX5_readSitter_75 : decode cX5_readSitter 75 = .ok (.iconst 3, 1) := by decide +kernel
theorem dX5_readSitter_76 : decode cX5_readSitter 76 = .ok (.invokevirtual 289, 3) := by decide +kernel
theorem dX5_readSitter_79 : decode cX5_readSitter 79 = .ok (.iastore, 1) := by decide +kernel
theorem dX5_readSitter_80 : decode cX5_readSitter 80 = .ok (.aload_n 0, 1) := by decide +kernel
theorem dX5_readSitter_81 : decode cX5_readSitter 81 = .ok (.getfield 45, 3) := by decide +kernel
theorem dX5_readSitter_84 : decode cX5_readSitter 84 = .ok (.iload_n 2, 1) := by decide +kernel
theorem dX5_readSitter_85 : decode cX5_readSitter 85 = .ok (.iconst 4, 1) := by decide +kernel
theorem dX5_readSitter_86 : decode cX5_readSitter 86 = .ok (.iadd, 1) := by decide +kernel
theorem dX5_readSitter_87 : decode cX5_readSitter 87 = .ok (.aload_n 0, 1) := by decide +kernel
theorem dX5_readSitter_88 : decode cX5_readSitter 88 = .ok (.ldc_w 300, 3) := by decide +kernel
theorem dX5_readSitter_91 : decode cX5_readSitter 91 = .ok (.sipush 999, 3) := by decide +kernel
theorem dX5_readSitter_94 : decode cX5_readSitter 94 = .ok (.bipush 20, 2) := by decide +kernel
theorem dX5_readSitter_96 : decode cX5_readSitter 96 = .ok (.invokevirtual 289, 3) := by decide +kernel
theorem dX5_readSitter_99 : decode cX5_readSitter 99 = .ok (.iastore, 1) := by decide +kernel
theorem dX5_readSitter_100 : decode cX5_readSitter 100 = .ok (.aload_n 0, 1) := by decide +kernel
theorem dX5_readSitter_101 : decode cX5_readSitter 101 = .ok (.dup, 1) := by decide +kernel
theorem dX5_readSitter_102 : decode cX5_readSitter 102 = .ok (.getfield 284, 3) := by decide +kernel
theorem dX5_readSitter_105 : decode cX5_readSitter 105 = .ok (.iconst 1, 1) := by decide +kernel
theorem dX5_readSitter_106 : decode cX5_readSitter 106 = .ok (.iadd, 1) := by decide +kernel
theorem dX5_readSitter_107 : decode cX5_readSitter 107 = .ok (.putfield 284, 3) := by decide +kernel
theorem dX5_readSitter_110 : decode cX5_readSitter 110 = .ok (.return_, 1) := by decide +kernel
theorem dX5_readQueue_0 : decode cX5_readQueue 0 = .ok (.aload_n 0, 1) := by decide +kernel
theorem dX5_readQueue_1 : decode cX5_readQueue 1 = .ok (.iconst 1, 1) := by decide +kernel
theorem dX5_readQueue_2 : decode cX5_readQueue 2 = .ok (.invokevirtual 270, 3) := by decide +kernel
theorem dX5_readQueue_5 : decode cX5_readQueue 5 = .ok (.aload_n 0, 1) := by decide +kernel
theorem dX5_readQueue_6 : decode cX5_readQueue 6 = .ok (.bipush 10, 2) := by decide +kernel
theorem dX5_readQueue_8 : decode cX5_readQueue 8 = .ok (.aload_n 0, 1) := by decide +kernel
theorem dX5_readQueue_9 : decode cX5_readQueue 9 = .ok (.iconst 0, 1) := by decide +kernel
theorem dX5_readQueue_10 : decode cX5_readQueue 10 = .ok (.aload_n 0, 1) := by decide +kernel
theorem dX5_readQueue_11 : decode cX5_readQueue 11 = .ok (.getfield 284, 3) := by decide +kernel
theorem dX5_readQueue_14 : decode cX5_readQueue 14 = .ok (.iconst 1, 1) := by decide +kernel
theorem dX5_readQueue_15 : decode cX5_readQueue 15 = .ok (.isub, 1) := by decide +kernel
theorem dX5_readQueue_16 : decode cX5_readQueue 16 = .ok (.invokevirtual 281, 3) := by decide +kernel
theorem dX5_readQueue_19 : decode cX5_readQueue 19 = .ok (.invokevirtual 293, 3) := by decide +kernel
theorem dX5_readQueue_22 : decode cX5_readQueue 22 = .ok (.bipush 7, 2) := by decide +kernel
theorem dX5_readQueue_24 : decode cX5_readQueue 24 = .ok (.aload_n 0, 1) := by decide +kernel
theorem dX5_readQueue_25 : decode cX5_readQueue 25 = .ok (.getfield 274, 3) := by decide +kernel
theorem dX5_readQueue_28 : decode cX5_readQueue 28 = .ok (.iconst 1, 1) := by decide +kernel
theorem dX5_readQueue_29 : decode cX5_readQueue 29 = .ok (.isub, 1) := by decide +kernel
theorem dX5_readQueue_30 : decode cX5_readQueue 30 = .ok (.imul, 1) := by decide +kernel
theorem dX5_readQueue_31 : decode cX5_readQueue 31 = .ok (.istore_n 1, 1) := by decide +kernel
theorem dX5_readQueue_32 : decode cX5_readQueue 32 = .ok (.iconst 1, 1) := by decide +kernel
theorem dX5_readQueue_33 : decode cX5_readQueue 33 = .ok (.istore_n 2, 1) := by decide +kernel
theorem dX5_readQueue_34 : decode cX5_readQueue 34 = .ok (.aload_n 0, 1) := by decide +kernel
theorem dX5_readQueue_35 : decode cX5_readQueue 35 = .ok (.getfield 263, 3) := by decide +kernel
theorem dX5_readQueue_38 : decode cX5_readQueue 38 = .ok (.ifCond .ne 69, 3) := by decide +kernel
theorem dX5_readQueue_41 : decode cX5_readQueue 41 = .ok (.aload_n 0, 1) := by decide +kernel
theorem dX5_readQueue_42 : decode cX5_readQueue 42 = .ok (.getfield 253, 3) := by decide +kernel
theorem dX5_readQueue_45 : decode cX5_readQueue 45 = .ok (.iconst 2, 1) := by decide +kernel
theorem dX5_readQueue_46 : decode cX5_readQueue 46 = .ok (.if_icmp .ne 61, 3) := by decide +kernel
theorem dX5_readQueue_49 : decode cX5_readQueue 49 = .ok (.iload_n 2, 1) := by decide +kernel
theorem dX5_readQueue_50 : decode cX5_readQueue 50 = .ok (.bipush 6, 2) := by decide +kernel
theorem dX5_readQueue_52 : decode cX5_readQueue 52 = .ok (.if_icmp .ge 24, 3) := by decide +kernel
theorem dX5_readQueue_55 : decode cX5_readQueue 55 = .ok (.aload_n 0, 1) := by decide +kernel
theorem dX5_readQueue_56 : decode cX5_readQueue 56 = .ok (.getfield 250, 3) := by decide +kernel
theorem dX5_readQueue_59 : decode cX5_readQueue 59 = .ok (.iconst 0, 1) := by decide +kernel
theorem dX5_readQueue_60 : decode cX5_readQueue 60 = .ok (.aload_n 0, 1) := by decide +kernel
theorem dX5_readQueue_61 : decode cX5_readQueue 61 = .ok (.getfield 284, 3) := by decide +kernel
theorem dX5_readQueue_64 : decode cX5_readQueue 64 = .ok (.iconst 1, 1) := by decide +kernel
theorem dX5_readQueue_65 : decode cX5_readQueue 65 = .ok (.isub, 1) := by decide +kernel
theorem dX5_readQueue_66 : decode cX5_readQueue 66 = .ok (.invokestatic 70, 3) := by decide +kernel
theorem dX5_readQueue_69 : decode cX5_readQueue 69 = .ok (.ifCond .eq 7, 3) := by decide +kernel
theorem dX5_readQueue_72 : decode cX5_readQueue 72 = .ok (.iconst 1, 1) := by decide +kernel
theorem dX5_readQueue_73 : decode cX5_readQueue 73 = .ok (.goto 4, 3) := by decide +kernel
theorem dX5_readQueue_76 : decode cX5_readQueue 76 = .ok (.iconst 0, 1) := by decide +kernel
theorem dX5_readQueue_77 : decode cX5_readQueue 77 = .ok (.istore_n 3, 1) := by decide +kernel
theorem dX5_readQueue_78 : decode cX5_readQueue 78 = .ok (.iload_n 3, 1) := by decide +kernel
theorem dX5_readQueue_79 : decode cX5_readQueue 79 = .ok (.ifCond .eq 17, 3) := by decide +kernel
theorem dX5_readQueue_82 : decode cX5_readQueue 82 = .ok (.aload_n 0, 1) := by decide +kernel
theorem dX5_readQueue_83 : decode cX5_readQueue 83 = .ok (.getfield 45, 3) := by decide +kernel
theorem dX5_readQueue_86 : decode cX5_readQueue 86 = .ok (.iload_n 1, 1) := by decide +kernel
theorem dX5_readQueue_87 : decode cX5_readQueue 87 = .ok (.iconst 1, 1) := by decide +kernel
theorem dX5_readQueue_88 : decode cX5_readQueue 88 = .ok (.iadd, 1) := by decide +kernel
theorem dX5_readQueue_89 : decode cX5_readQueue 89 = .ok (.iload_n 2, 1) := by decide +kernel
theorem dX5_readQueue_90 : decode cX5_readQueue 90 = .ok (.iadd, 1) := by decide +kernel
theorem dX5_readQueue_91 : decode cX5_readQueue 91 = .ok (.aload_n 0, 1) := by decide +kernel
theorem dX5_readQueue_92 : decode cX5_readQueue 92 = .ok (.getfield 250, 3) := by decide +kernel
theorem dX5_readQueue_95 : decode cX5_readQueue 95 = .ok (.iastore, 1) := by decide +kernel
theorem dX5_readQueue_96 : decode cX5_readQueue 96 = .ok (.aload_n 0, 1) := by decide +kernel
theorem dX5_readQueue_97 : decode cX5_readQueue 97 = .ok (.iload_n 3, 1) := by decide +kernel
theorem dX5_readQueue_98 : decode cX5_readQueue 98 = .ok (.invokevirtual 270, 3) := by decide +kernel
theorem dX5_readQueue_101 : decode cX5_readQueue 101 = .ok (.iinc 2 1, 3) := by decide +kernel
theorem dX5_readQueue_104 : decode cX5_readQueue 104 = .ok (.goto (-70), 3) := by decide +kernel
theorem dX5_readQueue_107 : decode cX5_readQueue 107 = .ok (.return_, 1) := by decide +kernel
theorem dX5_readNumber_0 : decode cX5_readNumber 0 = .ok (.aload_n 0, 1) := by decide +kernel
theorem dX5_readNumber_1 : decode cX5_readNumber 1 = .ok (.iconst 1, 1) := by decide +kernel
theorem dX5_readNumber_2 : decode cX5_readNumber 2 = .ok (.invokevirtual 270, 3) := by decide +kernel
theorem dX5_readNumber_5 : decode cX5_readNumber 5 = .ok (.aload_n 0, 1) := by decide +kernel
theorem dX5_readNumber_6 : decode cX5_readNumber 6 = .ok (.iload_n 1, 1) := by decide +kernel
theorem dX5_readNumber_7 : decode cX5_readNumber 7 = .ok (.aload_n 0, 1) := by decide +kernel
theorem dX5_readNumber_8 : decode cX5_readNumber 8 = .ok (.iconst 0, 1) := by decide +kernel
theorem dX5_readNumber_9 : decode cX5_readNumber 9 = .ok (.iload_n 2, 1) := by decide +kernel
theorem dX5_readNumber_10 : decode cX5_readNumber 10 = .ok (.invokevirtual 281, 3) := by decide +kernel
theorem dX5_readNumber_13 : decode cX5_readNumber 13 = .ok (.invokevirtual 293, 3) := by decide +kernel
theorem dX5_readNumber_16 : decode cX5_readNumber 16 = .ok (.return_, 1) := by decide +kernel
theorem dX5_readItem_0 : decode cX5_readItem 0 = .ok (.aload_n 0, 1) := by decide +kernel
theorem dX5_readItem_1 : decode cX5_readItem 1 = .ok (.invokevirtual 302, 3) := by decide +kernel
theorem dX5_readItem_4 : decode cX5_readItem 4 = .ok (.istore_n 1, 1) := by decide +kernel
theorem dX5_readItem_5 : decode cX5_readItem 5 = .ok (.iload_n 1, 1) := by decide +kernel
theorem dX5_readItem_6 : decode cX5_readItem 6 = .ok (.ifCond .lt 11, 3) := by decide +kernel
theorem dX5_readItem_9 : decode cX5_readItem 9 = .ok (.aload_n 0, 1) := by decide +kernel
theorem dX5_readItem_10 : decode cX5_readItem 10 = .ok (.iload_n 1, 1) := by decide +kernel
theorem dX5_readItem_11 : decode cX5_readItem 11 = .ok (.invokevirtual 305, 3) := by decide +kernel
theorem dX5_readItem_14 : decode cX5_readItem 14 = .ok (.goto 88, 3) := by decide +kernel
theorem dX5_readItem_17 : decode cX5_readItem 17 = .ok (.aload_n 0, 1) := by decide +kernel
theorem dX5_readItem_18 : decode cX5_readItem 18 = .ok (.ldc_w 308, 3) := by decide +kernel
theorem dX5_readItem_21 : decode cX5_readItem 21 = .ok (.invokevirtual 277, 3) := by decide +kernel
theorem dX5_readItem_24 : decode cX5_readItem 24 = .ok (.ifCond .eq 10, 3) := by decide +kernel
theorem dX5_readItem_27 : decode cX5_readItem 27 = .ok (.aload_n 0, 1) := by decide +kernel
theorem dX5_readItem_28 : decode cX5_readItem 28 = .ok (.invokevirtual 310, 3) := by decide +kernel
theorem dX5_readItem_31 : decode cX5_readItem 31 = .ok (.goto 71, 3) := by decide +kernel
theorem dX5_readItem_34 : decode cX5_readItem 34 = .ok (.aload_n 0, 1) := by decide +kernel
theorem dX5_readItem_35 : decode cX5_readItem 35 = .ok (.ldc_w 313, 3) := by decide +kernel
theorem dX5_readItem_38 : decode cX5_readItem 38 = .ok (.invokevirtual 277, 3) := by decide +kernel
theorem dX5_readItem_41 : decode cX5_readItem 41 = .ok (.ifCond .eq 14, 3) := by decide +kernel
theorem dX5_readItem_44 : decode cX5_readItem 44 = .ok (.aload_n 0, 1) := by decide +kernel
theorem dX5_readItem_45 : decode cX5_readItem 45 = .ok (.bipush 11, 2) := by decide +kernel
theorem dX5_readItem_47 : decode cX5_readItem 47 = .ok (.bipush 60, 2) := by decide +kernel
theorem dX5_readItem_49 : decode cX5_readItem 49 = .ok (.invokevirtual 315, 3) := by decide +kernel
theorem dX5_readItem_52 : decode cX5_readItem 52 = .ok (.goto 50, 3) := by decide +kernel
theorem dX5_readItem_55 : decode cX5_readItem 55 = .ok (.aload_n 0, 1) := by decide +kernel
theorem dX5_readItem_56 : decode cX5_readItem 56 = .ok (.ldc_w 318, 3) := by decide +kernel
theorem dX5_readItem_59 : decode cX5_readItem 59 = .ok (.invokevirtual 277, 3) := by decide +kernel
theorem dX5_readItem_62 : decode cX5_readItem 62 = .ok (.ifCond .eq 14, 3) := by decide +kernel
theorem dX5_readItem_65 : decode cX5_readItem 65 = .ok (.aload_n 0, 1) := by decide +kernel
theorem dX5_readItem_66 : decode cX5_readItem 66 = .ok (.bipush 12, 2) := by decide +kernel
theorem dX5_readItem_68 : decode cX5_readItem 68 = .ok (.bipush 9, 2) := by decide +kernel
theorem dX5_readItem_70 : decode cX5_readItem 70 = .ok (.invokevirtual 315, 3) := by decide +kernel
theorem dX5_readItem_73 : decode cX5_readItem 73 = .ok (.goto 29, 3) := by decide +kernel
theorem dX5_readItem_76 : decode cX5_readItem 76 = .ok (.aload_n 0, 1) := by decide +kernel
theorem dX5_readItem_77 : decode cX5_readItem 77 = .ok (.ldc_w 320, 3) := by decide +kernel
theorem dX5_readItem_80 : decode cX5_readItem 80 = .ok (.invokevirtual 277, 3) := by decide +kernel
theorem dX5_readItem_83 : decode cX5_readItem 83 = .ok (.ifCond .eq 14, 3) := by decide +kernel
theorem dX5_readItem_86 : decode cX5_readItem 86 = .ok (.aload_n 0, 1) := by decide +kernel
theorem dX5_readItem_87 : decode cX5_readItem 87 = .ok (.bipush 13, 2) := by decide +kernel
theorem dX5_readItem_89 : decode cX5_readItem 89 = .ok (.bipush 20, 2) := by decide +kernel
theorem dX5_readItem_91 : decode cX5_readItem 91 = .ok (.invokevirtual 315, 3) := by decide +kernel
theorem dX5_readItem_94 : decode cX5_readItem 94 = .ok (.goto 8, 3) := by decide +kernel
theorem dX5_readItem_97 : decode cX5_readItem 97 = .ok (.aload_n 0, 1) := by decide +kernel
theorem dX5_readItem_98 : decode cX5_readItem 98 = .ok (.iconst 0, 1) := by decide +kernel
theorem dX5_readItem_99 : decode cX5_readItem 99 = .ok (.invokevirtual 270, 3) := by decide +kernel
theorem dX5_readItem_102 : decode cX5_readItem 102 = .ok (.return_, 1) := by decide +kernel
theorem dX5_isToldSo_0 : decode cX5_isToldSo 0 = .ok (.aload_n 0, 1) := by decide +kernel
theorem dX5_isToldSo_1 : decode cX5_isToldSo 1 = .ok (.getfield 45, 3) := by decide +kernel
theorem dX5_isToldSo_4 : decode cX5_isToldSo 4 = .ok (.iload_n 1, 1) := by decide +kernel
theorem dX5_isToldSo_5 : decode cX5_isToldSo 5 = .ok (.iaload, 1) := by decide +kernel
theorem dX5_isToldSo_6 : decode cX5_isToldSo 6 = .ok (.istore_n 2, 1) := by decide +kernel
theorem dX5_isToldSo_7 : decode cX5_isToldSo 7 = .ok (.iload_n 2, 1) := by decide +kernel
theorem dX5_isToldSo_8 : decode cX5_isToldSo 8 = .ok (.bipush 11, 2) := by decide +kernel
theorem dX5_isToldSo_10 : decode cX5_isToldSo 10 = .ok (.if_icmp .lt 22, 3) := by decide +kernel
theorem dX5_isToldSo_13 : decode cX5_isToldSo 13 = .ok (.aload_n 0, 1) := by decide +kernel
theorem dX5_isToldSo_14 : decode cX5_isToldSo 14 = .ok (.getfield 9, 3) := by decide +kernel
theorem dX5_isToldSo_17 : decode cX5_isToldSo 17 = .ok (.iconst 3, 1) := by decide +kernel
theorem dX5_isToldSo_18 : decode cX5_isToldSo 18 = .ok (.iload_n 2, 1) := by decide +kernel
theorem dX5_isToldSo_19 : decode cX5_isToldSo 19 = .ok (.iadd, 1) := by decide +kernel
theorem dX5_isToldSo_20 : decode cX5_isToldSo 20 = .ok (.bipush 11, 2) := by decide +kernel
theorem dX5_isToldSo_22 : decode cX5_isToldSo 22 = .ok (.isub, 1) := by decide +kernel
theorem dX5_isToldSo_23 : decode cX5_isToldSo 23 = .ok (.aload_n 0, 1) := by decide +kernel
theorem dX5_isToldSo_24 : decode cX5_isToldSo 24 = .ok (.getfield 45, 3) := by decide +kernel
theorem dX5_isToldSo_27 : decode cX5_isToldSo 27 = .ok (.iload_n 1, 1) := by decide +kernel
theorem dX5_isToldSo_28 : decode cX5_isToldSo 28 = .ok (.iconst 1, 1) := by decide +kernel
theorem dX5_isToldSo_29 : decode cX5_isToldSo 29 = .ok (.iadd, 1) := by decide +kernel
theorem dX5_isToldSo_30 : decode cX5_isToldSo 30 = .ok (.iaload, 1) := by decide +kernel
theorem dX5_isToldSo_31 : decode cX5_isToldSo 31 = .ok (.iastore, 1) := by decide +kernel
theorem dX5_isToldSo_32 : decode cX5_isToldSo 32 = .ok (.iconst 0, 1) := by decide +kernel
theorem dX5_isToldSo_33 : decode cX5_isToldSo 33 = .ok (.istore_n 3, 1) := by decide +kernel
theorem dX5_isToldSo_34 : decode cX5_isToldSo 34 = .ok (.iload_n 3, 1) := by decide +kernel
theorem dX5_isToldSo_35 : decode cX5_isToldSo 35 = .ok (.bipush 6, 2) := by decide +kernel
theorem dX5_isToldSo_37 : decode cX5_isToldSo 37 = .ok (.if_icmp .ge 59, 3) := by decide +kernel
theorem dX5_isToldSo_40 : decode cX5_isToldSo 40 = .ok (.iload_n 2, 1) := by decide +kernel
theorem dX5_isToldSo_41 : decode cX5_isToldSo 41 = .ok (.bipush 10, 2) := by decide +kernel
theorem dX5_isToldSo_43 : decode cX5_isToldSo 43 = .ok (.if_icmp .ne 53, 3) := by decide +kernel
theorem dX5_isToldSo_46 : decode cX5_isToldSo 46 = .ok (.aload_n 0, 1) := by decide +kernel
theorem dX5_isToldSo_47 : decode cX5_isToldSo 47 = .ok (.getfield 9, 3) := by decide +kernel
theorem dX5_isToldSo_50 : decode cX5_isToldSo 50 = .ok (.bipush 17, 2) := by decide +kernel
theorem dX5_isToldSo_52 : decode cX5_isToldSo 52 = .ok (.iload_n 3, 1) := by decide +kernel
theorem dX5_isToldSo_53 : decode cX5_isToldSo 53 = .ok (.iadd, 1) := by decide +kernel
theorem dX5_isToldSo_54 : decode cX5_isToldSo 54 = .ok (.aload_n 0, 1) := by decide +kernel
theorem dX5_isToldSo_55 : decode cX5_isToldSo 55 = .ok (.getfield 45, 3) := by decide +kernel
theorem dX5_isToldSo_58 : decode cX5_isToldSo 58 = .ok (.iload_n 1, 1) := by decide +kernel
theorem dX5_isToldSo_59 : decode cX5_isToldSo 59 = .ok (.iconst 1, 1) := by decide +kernel
theorem dX5_isToldSo_60 : decode cX5_isToldSo 60 = .ok (.iadd, 1) := by decide +kernel
theorem dX5_isToldSo_61 : decode cX5_isToldSo 61 = .ok (.iload_n 3, 1) := by decide +kernel
theorem dX5_isToldSo_62 : decode cX5_isToldSo 62 = .ok (.iadd, 1) := by decide +kernel
theorem dX5_isToldSo_63 : decode cX5_isToldSo 63 = .ok (.iaload, 1) := by decide +kernel
theorem dX5_isToldSo_64 : decode cX5_isToldSo 64 = .ok (.ifCond .ge 15, 3) := by decide +kernel
theorem dX5_isToldSo_67 : decode cX5_isToldSo 67 = .ok (.aload_n 0, 1) := by decide +kernel
theorem dX5_isToldSo_68 : decode cX5_isToldSo 68 = .ok (.getfield 9, 3) := by decide +kernel
theorem dX5_isToldSo_71 : decode cX5_isToldSo 71 = .ok (.bipush 17, 2) := by decide +kernel
theorem dX5_isToldSo_73 : decode cX5_isToldSo 73 = .ok (.iload_n 3, 1) := by decide +kernel
theorem dX5_isToldSo_74 : decode cX5_isToldSo 74 = .ok (.iadd, 1) := by decide +kernel
theorem dX5_isToldSo_75 : decode cX5_isToldSo 75 = .ok (.iaload, 1) := by decide +kernel
theorem dX5_isToldSo_76 : decode cX5_isToldSo 76 = .ok (.goto 13, 3) := by decide +kernel
theorem dX5_isToldSo_79 : decode cX5_isToldSo 79 = .ok (.aload_n 0, 1) := by decide +kernel
theorem dX5_isToldSo_80 : decode cX5_isToldSo 80 = .ok (.getfield 45, 3) := by decide +kernel
theorem dX5_isToldSo_83 : decode cX5_isToldSo 83 = .ok (.iload_n 1, 1) := by decide +kernel
theorem dX5_isToldSo_84 : decode cX5_isToldSo 84 = .ok (.iconst 1, 1) := by decide +kernel
theorem dX5_isToldSo_85 : decode cX5_isToldSo 85 = .ok (.iadd, 1) := by decide +kernel
theorem dX5_isToldSo_86 : decode cX5_isToldSo 86 = .ok (.iload_n 3, 1) := by decide +kernel
theorem dX5_isToldSo_87 : decode cX5_isToldSo 87 = .ok (.iadd, 1) := by decide +kernel
theorem dX5_isToldSo_88 : decode cX5_isToldSo 88 = .ok (.iaload, 1) := by decide +kernel
theorem dX5_isToldSo_89 : decode cX5_isToldSo 89 = .ok (.iastore, 1) := by decide +kernel
theorem dX5_isToldSo_90 : decode cX5_isToldSo 90 = .ok (.iinc 3 1, 3) := by decide +kernel
theorem dX5_isToldSo_93 : decode cX5_isToldSo 93 = .ok (.goto (-59), 3) := by decide +kernel
theorem dX5_isToldSo_96 : decode cX5_isToldSo 96 = .ok (.iload_n 2, 1) := by decide +kernel
theorem dX5_isToldSo_97 : decode cX5_isToldSo 97 = .ok (.bipush 10, 2) := by decide +kernel
theorem dX5_isToldSo_99 : decode cX5_isToldSo 99 = .ok (.if_icmp .ge 41, 3) := by decide +kernel
theorem dX5_isToldSo_102 : decode cX5_isToldSo 102 = .ok (.aload_n 0, 1) := by decide +kernel
theorem dX5_isToldSo_103 : decode cX5_isToldSo 103 = .ok (.iload_n 2, 1) := by decide +kernel
theorem dX5_isToldSo_104 : decode cX5_isToldSo 104 = .ok (.aload_n 0, 1) := by decide +kernel
theorem dX5_isToldSo_105 : decode cX5_isToldSo 105 = .ok (.getfield 45, 3) := by decide +kernel
theorem dX5_isToldSo_108 : decode cX5_isToldSo 108 = .ok (.iload_n 1, 1) := by decide +kernel
theorem dX5_isToldSo_109 : decode cX5_isToldSo 109 = .ok (.iconst 1, 1) := by decide +kernel
theorem dX5_isToldSo_110 : decode cX5_isToldSo 110 = .ok (.iadd, 1) := by decide +kernel
theorem dX5_isToldSo_111 : decode cX5_isToldSo 111 = .ok (.iaload, 1) := by decide +kernel
theorem dX5_isToldSo_112 : decode cX5_isToldSo 112 = .ok (.aload_n 0, 1) := by decide +kernel
theorem dX5_isToldSo_113 : decode cX5_isToldSo 113 = .ok (.getfield 45, 3) := by decide +kernel
theorem dX5_isToldSo_116 : decode cX5_isToldSo 116 = .ok (.iload_n 1, 1) := by decide +kernel
theorem dX5_isToldSo_117 : decode cX5_isToldSo 117 = .ok (.iconst 2, 1) := by decide +kernel
theorem dX5_isToldSo_118 : decode cX5_isToldSo 118 = .ok (.iadd, 1) := by decide +kernel
theorem dX5_isToldSo_119 : decode cX5_isToldSo 119 = .ok (.iaload, 1) := by decide +kernel
theorem dX5_isToldSo_120 : decode cX5_isToldSo 120 = .ok (.aload_n 0, 1) := by decide +kernel
theorem dX5_isToldSo_121 : decode cX5_isToldSo 121 = .ok (.getfield 45, 3) := by decide +kernel
theorem dX5_isToldSo_124 : decode cX5_isToldSo 124 = .ok (.iload_n 1, 1) := by decide +kernel
theorem dX5_isToldSo_125 : decode cX5_isToldSo 125 = .ok (.iconst 3, 1) := by decide +kernel
theorem dX5_isToldSo_126 : decode cX5_isToldSo 126 = .ok (.iadd, 1) := by decide +kernel
theorem dX5_isToldSo_127 : decode cX5_isToldSo 127 = .ok (.iaload, 1) := by decide +kernel
theorem dX5_isToldSo_128 : decode cX5_isToldSo 128 = .ok (.aload_n 0, 1) := by decide +kernel
theorem dX5_isToldSo_129 : decode cX5_isToldSo 129 = .ok (.getfield 45, 3) := by decide +kernel
theorem dX5_isToldSo_132 : decode cX5_isToldSo 132 = .ok (.iload_n 1, 1) := by decide +kernel
theorem dX5_isToldSo_133 : decode cX5_isToldSo 133 = .ok (.iconst 4, 1) := by decide +kernel
theorem dX5_isToldSo_134 : decode cX5_isToldSo 134 = .ok (.iadd, 1) := by decide +kernel
theorem dX5_isToldSo_135 : decode cX5_isToldSo 135 = .ok (.iaload, 1) := by decide +kernel
theorem dX5_isToldSo_136 : decode cX5_isToldSo 136 = .ok (.invokevirtual 100, 3) := by decide +kernel
theorem dX5_isToldSo_139 : decode cX5_isToldSo 139 = .ok (.istore_n 3, 1) := by decide +kernel
theorem dX5_isToldSo_140 : decode cX5_isToldSo 140 = .ok (.return_, 1) := by decide +kernel
theorem dX5_text_0 : decode cX5_text 0 = .ok (.aload_n 0, 1) := by decide +kernel
theorem dX5_text_1 : decode cX5_text 1 = .ok (.iconst 0, 1) := by decide +kernel
theorem dX5_text_2 : decode cX5_text 2 = .ok (.putfield 241, 3) := by decide +kernel
theorem dX5_text_5 : decode cX5_text 5 = .ok (.aload_n 0, 1) := by decide +kernel
theorem dX5_text_6 : decode cX5_text 6 = .ok (.iconst 0, 1) := by decide +kernel
theorem dX5_text_7 : decode cX5_text 7 = .ok (.putfield 263, 3) := by decide +kernel
theorem dX5_text_10 : decode cX5_text 10 = .ok (.aload_n 0, 1) := by decide +kernel
theorem dX5_text_11 : decode cX5_text 11 = .ok (.iconst 0, 1) := by decide +kernel
theorem dX5_text_12 : decode cX5_text 12 = .ok (.putfield 274, 3) := by decide +kernel
theorem dX5_text_15 : decode cX5_text 15 = .ok (.aload_n 0, 1) := by decide +kernel
theorem dX5_text_16 : decode cX5_text 16 = .ok (.aload_n 0, 1) := by decide +kernel
theorem dX5_text_17 : decode cX5_text 17 = .ok (.getfield 9, 3) := by decide +kernel
theorem dX5_text_20 : decode cX5_text 20 = .ok (.iconst 1, 1) := by decide +kernel
theorem dX5_text_21 : decode cX5_text 21 = .ok (.iaload, 1) := by decide +kernel
theorem dX5_text_22 : decode cX5_text 22 = .ok (.putfield 284, 3) := by decide +kernel
theorem dX5_text_25 : decode cX5_text 25 = .ok (.aload_n 0, 1) := by decide +kernel
theorem dX5_text_26 : decode cX5_text 26 = .ok (.invokevirtual 267, 3) := by decide +kernel
theorem dX5_text_29 : decode cX5_text 29 = .ok (.aload_n 0, 1) := by decide +kernel
theorem dX5_text_30 : decode cX5_text 30 = .ok (.invokevirtual 322, 3) := by decide +kernel
theorem dX5_text_33 : decode cX5_text 33 = .ok (.aload_n 0, 1) := by decide +kernel
theorem dX5_text_34 : decode cX5_text 34 = .ok (.getfield 263, 3) := by decide +kernel
theorem dX5_text_37 : decode cX5_text 37 = .ok (.ifCond .ne 37, 3) := by decide +kernel
theorem dX5_text_40 : decode cX5_text 40 = .ok (.aload_n 0, 1) := by decide +kernel
theorem dX5_text_41 : decode cX5_text 41 = .ok (.getfield 253, 3) := by decide +kernel
theorem dX5_text_44 : decode cX5_text 44 = .ok (.iconst 3, 1) := by decide +kernel
theorem dX5_text_45 : decode cX5_text 45 = .ok (.if_icmp .ne 29, 3) := by decide +kernel
theorem dX5_text_48 : decode cX5_text 48 = .ok (.aload_n 0, 1) := by decide +kernel
theorem dX5_text_49 : decode cX5_text 49 = .ok (.getfield 22, 3) := by decide +kernel
theorem dX5_text_52 : decode cX5_text 52 = .ok (.aload_n 0, 1) := by decide +kernel
theorem dX5_text_53 : decode cX5_text 53 = .ok (.getfield 244, 3) := by decide +kernel
theorem dX5_text_56 : decode cX5_text 56 = .ok (.iaload, 1) := by decide +kernel
theorem dX5_text_57 : decode cX5_text 57 = .ok (.bipush 59, 2) := by decide +kernel
theorem dX5_text_59 : decode cX5_text 59 = .ok (.if_icmp .ne 15, 3) := by decide +kernel
theorem dX5_text_62 : decode cX5_text 62 = .ok (.aload_n 0, 1) := by decide +kernel
theorem dX5_text_63 : decode cX5_text 63 = .ok (.iconst 1, 1) := by decide +kernel
theorem dX5_text_64 : decode cX5_text 64 = .ok (.invokevirtual 270, 3) := by decide +kernel
theorem dX5_text_67 : decode cX5_text 67 = .ok (.aload_n 0, 1) := by decide +kernel
theorem dX5_text_68 : decode cX5_text 68 = .ok (.invokevirtual 322, 3) := by decide +kernel
theorem dX5_text_71 : decode cX5_text 71 = .ok (.goto (-38), 3) := by decide +kernel
theorem dX5_text_74 : decode cX5_text 74 = .ok (.aload_n 0, 1) := by decide +kernel
theorem dX5_text_75 : decode cX5_text 75 = .ok (.aload_n 0, 1) := by decide +kernel
theorem dX5_text_76 : decode cX5_text 76 = .ok (.getfield 253, 3) := by decide +kernel
theorem dX5_text_79 : decode cX5_text 79 = .ok (.ifCond .ne 7, 3) := by decide +kernel
theorem dX5_text_82 : decode cX5_text 82 = .ok (.iconst 1, 1) := by decide +kernel
theorem dX5_text_83 : decode cX5_text 83 = .ok (.goto 4, 3) := by decide +kernel
theorem dX5_text_86 : decode cX5_text 86 = .ok (.iconst 0, 1) := by decide +kernel
theorem dX5_text_87 : decode cX5_text 87 = .ok (.invokevirtual 270, 3) := by decide +kernel
theorem dX5_text_90 : decode cX5_text 90 = .ok (.aload_n 0, 1) := by decide +kernel
theorem dX5_text_91 : decode cX5_text 91 = .ok (.iconst 0, 1) := by decide +kernel
theorem dX5_text_92 : decode cX5_text 92 = .ok (.putfield 238, 3) := by decide +kernel
theorem dX5_text_95 : decode cX5_text 95 = .ok (.aload_n 0, 1) := by decide +kernel
theorem dX5_text_96 : decode cX5_text 96 = .ok (.getfield 263, 3) := by decide +kernel
theorem dX5_text_99 : decode cX5_text 99 = .ok (.ifCond .eq 10, 3) := by decide +kernel
theorem dX5_text_102 : decode cX5_text 102 = .ok (.iconst (-1), 1) := by decide +kernel
theorem dX5_text_103 : decode cX5_text 103 = .ok (.aload_n 0, 1) := by decide +kernel
theorem dX5_text_104 : decode cX5_text 104 = .ok (.getfield 244, 3) := by decide +kernel
theorem dX5_text_107 : decode cX5_text 107 = .ok (.isub, 1) := by decide +kernel
theorem dX5_text_108 : decode cX5_text 108 = .ok (.ireturn, 1) := by decide +kernel
theorem dX5_text_109 : decode cX5_text 109 = .ok (.iconst 0, 1) := by decide +kernel
theorem dX5_text_110 : decode cX5_text 110 = .ok (.istore_n 1, 1) := by decide +kernel
theorem dX5_text_111 : decode cX5_text 111 = .ok (.iload_n 1, 1) := by decide +kernel
theorem dX5_text_112 : decode cX5_text 112 = .ok (.aload_n 0, 1) := by decide +kernel
theorem dX5_text_113 : decode cX5_text 113 = .ok (.getfield 274, 3) := by decide +kernel
theorem dX5_text_116 : decode cX5_text 116 = .ok (.if_icmp .ge 17, 3) := by decide +kernel
theorem dX5_text_119 : decode cX5_text 119 = .ok (.aload_n 0, 1) := by decide +kernel
theorem dX5_text_120 : decode cX5_text 120 = .ok (.bipush 7, 2) := by decide +kernel
theorem dX5_text_122 : decode cX5_text 122 = .ok (.iload_n 1, 1) := by decide +kernel
theorem dX5_text_123 : decode cX5_text 123 = .ok (.imul, 1) := by decide +kernel
theorem dX5_text_124 : decode cX5_text 124 = .ok (.invokevirtual 325, 3) := by decide +kernel
theorem dX5_text_127 : decode cX5_text 127 = .ok (.iinc 1 1, 3) := by decide +kernel
theorem dX5_text_130 : decode cX5_text 130 = .ok (.goto (-19), 3) := by decide +kernel
theorem dX5_text_133 : decode cX5_text 133 = .ok (.aload_n 0, 1) := by decide +kernel
theorem dX5_text_134 : decode cX5_text 134 = .ok (.getfield 274, 3) := by decide +kernel
theorem dX5_text_137 : decode cX5_text 137 = .ok (.ireturn, 1) := by decide +kernel
theorem dX5_isSpot_0 : decode cX5_isSpot 0 = .ok (.iload_n 0, 1) := by decide +kernel
theorem dX5_isSpot_1 : decode cX5_isSpot 1 = .ok (.iconst 0, 1) := by decide +kernel
theorem dX5_isSpot_2 : decode cX5_isSpot 2 = .ok (.bipush 9, 2) := by decide +kernel
theorem dX5_isSpot_4 : decode cX5_isSpot 4 = .ok (.invokestatic 70, 3) := by decide +kernel
theorem dX5_isSpot_7 : decode cX5_isSpot 7 = .ok (.ireturn, 1) := by decide +kernel
theorem dX5_hold_0 : decode cX5_hold 0 = .ok (.iload_n 1, 1) := by decide +kernel
theorem dX5_hold_1 : decode cX5_hold 1 = .ok (.invokestatic 328, 3) := by decide +kernel
theorem dX5_hold_4 : decode cX5_hold 4 = .ok (.ifCond .eq 16, 3) := by decide +kernel
theorem dX5_hold_7 : decode cX5_hold 7 = .ok (.iload_n 2, 1) := by decide +kernel
theorem dX5_hold_8 : decode cX5_hold 8 = .ok (.iconst (-1), 1) := by decide +kernel
theorem dX5_hold_9 : decode cX5_hold 9 = .ok (.if_icmp .eq 18, 3) := by decide +kernel
theorem dX5_hold_12 : decode cX5_hold 12 = .ok (.aload_n 0, 1) := by decide +kernel
theorem dX5_hold_13 : decode cX5_hold 13 = .ok (.iload_n 2, 1) := by decide +kernel
theorem dX5_hold_14 : decode cX5_hold 14 = .ok (.invokevirtual 83, 3) := by decide +kernel
theorem dX5_hold_17 : decode cX5_hold 17 = .ok (.ifCond .ne 10, 3) := by decide +kernel
theorem dX5_hold_20 : decode cX5_hold 20 = .ok (.aload_n 0, 1) := by decide +kernel
theorem dX5_hold_21 : decode cX5_hold 21 = .ok (.ldc 60, 2) := by decide +kernel
theorem dX5_hold_23 : decode cX5_hold 23 = .ok (.invokevirtual 66, 3) := by decide +kernel
theorem dX5_hold_26 : decode cX5_hold 26 = .ok (.ireturn, 1) := by decide +kernel
theorem dX5_hold_27 : decode cX5_hold 27 = .ok (.aload_n 0, 1) := by decide +kernel
theorem dX5_hold_28 : decode cX5_hold 28 = .ok (.getfield 9, 3) := by decide +kernel
theorem dX5_hold_31 : decode cX5_hold 31 = .ok (.bipush 7, 2) := by decide +kernel
theorem dX5_hold_33 : decode cX5_hold 33 = .ok (.iload_n 1, 1) := by decide +kernel
theorem dX5_hold_34 : decode cX5_hold 34 = .ok (.iadd, 1) := by decide +kernel
theorem dX5_hold_35 : decode cX5_hold 35 = .ok (.iload_n 2, 1) := by decide +kernel
theorem dX5_hold_36 : decode cX5_hold 36 = .ok (.iastore, 1) := by decide +kernel
theorem dX5_hold_37 : decode cX5_hold 37 = .ok (.iconst 1, 1) := by decide +kernel
theorem dX5_hold_38 : decode cX5_hold 38 = .ok (.ireturn, 1) := by decide +kernel
theorem dX5_as_0 : decode cX5_as 0 = .ok (.iload_n 1, 1) := by decide +kernel
theorem dX5_as_1 : decode cX5_as 1 = .ok (.invokestatic 328, 3) := by decide +kernel
theorem dX5_as_4 : decode cX5_as 4 = .ok (.ifCond .eq 10, 3) := by decide +kernel
theorem dX5_as_7 : decode cX5_as 7 = .ok (.iload_n 2, 1) := by decide +kernel
theorem dX5_as_8 : decode cX5_as 8 = .ok (.invokestatic 96, 3) := by decide +kernel
theorem dX5_as_11 : decode cX5_as 11 = .ok (.ifCond .ne 10, 3) := by decide +kernel
theorem dX5_as_14 : decode cX5_as 14 = .ok (.aload_n 0, 1) := by decide +kernel
theorem dX5_as_15 : decode cX5_as 15 = .ok (.ldc 60, 2) := by decide +kernel
theorem dX5_as_17 : decode cX5_as 17 = .ok (.invokevirtual 66, 3) := by decide +kernel
theorem dX5_as_20 : decode cX5_as 20 = .ok (.ireturn, 1) := by decide +kernel
theorem dX5_as_21 : decode cX5_as 21 = .ok (.aload_n 0, 1) := by decide +kernel
theorem dX5_as_22 : decode cX5_as 22 = .ok (.getfield 9, 3) := by decide +kernel
theorem dX5_as_25 : decode cX5_as 25 = .ok (.bipush 7, 2) := by decide +kernel
theorem dX5_as_27 : decode cX5_as 27 = .ok (.iload_n 1, 1) := by decide +kernel
theorem dX5_as_28 : decode cX5_as 28 = .ok (.iadd, 1) := by decide +kernel
theorem dX5_as_29 : decode cX5_as 29 = .ok (.iaload, 1) := by decide +kernel
theorem dX5_as_30 : decode cX5_as 30 = .ok (.istore_n 3, 1) := by decide +kernel
theorem dX5_as_31 : decode cX5_as 31 = .ok (.iload_n 3, 1) := by decide +kernel
theorem dX5_as_32 : decode cX5_as 32 = .ok (.ifCond .ge 10, 3) := by decide +kernel
theorem dX5_as_35 : decode cX5_as 35 = .ok (.aload_n 0, 1) := by decide +kernel
theorem dX5_as_36 : decode cX5_as 36 = .ok (.ldc 212, 2) := by decide +kernel
theorem dX5_as_38 : decode cX5_as 38 = .ok (.invokevirtual 66, 3) := by decide +kernel
theorem dX5_as_41 : decode cX5_as 41 = .ok (.ireturn, 1) := by decide +kernel
theorem dX5_as_42 : decode cX5_as 42 = .ok (.aload_n 0, 1) := by decide +kernel
theorem dX5_as_43 : decode cX5_as 43 = .ok (.iload_n 3, 1) := by decide +kernel
theorem dX5_as_44 : decode cX5_as 44 = .ok (.iconst 0, 1) := by decide +kernel
theorem dX5_as_45 : decode cX5_as 45 = .ok (.invokevirtual 104, 3) := by decide +kernel
theorem dX5_as_48 : decode cX5_as 48 = .ok (.iload_n 2, 1) := by decide +kernel
theorem dX5_as_49 : decode cX5_as 49 = .ok (.invokestatic 331, 3) := by decide +kernel
theorem dX5_as_52 : decode cX5_as 52 = .ok (.ifCond .eq 7, 3) := by decide +kernel
theorem dX5_as_55 : decode cX5_as 55 = .ok (.iload_n 3, 1) := by decide +kernel
theorem dX5_as_56 : decode cX5_as 56 = .ok (.goto 10, 3) := by decide +kernel
theorem dX5_as_59 : decode cX5_as 59 = .ok (.aload_n 0, 1) := by decide +kernel
theorem dX5_as_60 : decode cX5_as 60 = .ok (.ldc_w 334, 3) := by decide +kernel
theorem dX5_as_63 : decode cX5_as 63 = .ok (.invokevirtual 66, 3) := by decide +kernel
theorem dX5_as_66 : decode cX5_as 66 = .ok (.ireturn, 1) := by decide +kernel
theorem dX5_isSheet_0 : decode cX5_isSheet 0 = .ok (.iload_n 0, 1) := by decide +kernel
theorem dX5_isSheet_1 : decode cX5_isSheet 1 = .ok (.iconst 0, 1) := by decide +kernel
theorem dX5_isSheet_2 : decode cX5_isSheet 2 = .ok (.iconst 3, 1) := by decide +kernel
theorem dX5_isSheet_3 : decode cX5_isSheet 3 = .ok (.invokestatic 70, 3) := by decide +kernel
theorem dX5_isSheet_6 : decode cX5_isSheet 6 = .ok (.ireturn, 1) := by decide +kernel
theorem dX5_cutTo_0 : decode cX5_cutTo 0 = .ok (.iload_n 1, 1) := by decide +kernel
theorem dX5_cutTo_1 : decode cX5_cutTo 1 = .ok (.bipush 8, 2) := by decide +kernel
theorem dX5_cutTo_3 : decode cX5_cutTo 3 = .ok (.if_icmp .ne 8, 3) := by decide +kernel
theorem dX5_cutTo_6 : decode cX5_cutTo 6 = .ok (.iload_n 0, 1) := by decide +kernel
theorem dX5_cutTo_7 : decode cX5_cutTo 7 = .ok (.i2b, 1) := by decide +kernel
theorem dX5_cutTo_8 : decode cX5_cutTo 8 = .ok (.goto 15, 3) := by decide +kernel
theorem dX5_cutTo_11 : decode cX5_cutTo 11 = .ok (.iload_n 1, 1) := by decide +kernel
theorem dX5_cutTo_12 : decode cX5_cutTo 12 = .ok (.bipush 16, 2) := by decide +kernel
theorem dX5_cutTo_14 : decode cX5_cutTo 14 = .ok (.if_icmp .ne 8, 3) := by decide +kernel
theorem dX5_cutTo_17 : decode cX5_cutTo 17 = .ok (.iload_n 0, 1) := by decide +kernel
theorem dX5_cutTo_18 : decode cX5_cutTo 18 = .ok (.i2s, 1) := by decide +kernel
theorem dX5_cutTo_19 : decode cX5_cutTo 19 = .ok (.goto 4, 3) := by decide +kernel
theorem dX5_cutTo_22 : decode cX5_cutTo 22 = .ok (.iload_n 0, 1) := by decide +kernel
theorem dX5_cutTo_23 : decode cX5_cutTo 23 = .ok (.ireturn, 1) := by decide +kernel
theorem dX5_sheet_0 : decode cX5_sheet 0 = .ok (.iload_n 1, 1) := by decide +kernel
theorem dX5_sheet_1 : decode cX5_sheet 1 = .ok (.invokestatic 209, 3) := by decide +kernel
theorem dX5_sheet_4 : decode cX5_sheet 4 = .ok (.ifCond .eq 25, 3) := by decide +kernel
theorem dX5_sheet_7 : decode cX5_sheet 7 = .ok (.iload_n 2, 1) := by decide +kernel
theorem dX5_sheet_8 : decode cX5_sheet 8 = .ok (.ifCond .eq 28, 3) := by decide +kernel
theorem dX5_sheet_11 : decode cX5_sheet 11 = .ok (.iload_n 2, 1) := by decide +kernel
theorem dX5_sheet_12 : decode cX5_sheet 12 = .ok (.bipush 8, 2) := by decide +kernel
theorem dX5_sheet_14 : decode cX5_sheet 14 = .ok (.if_icmp .eq 22, 3) := by decide +kernel
theorem dX5_sheet_17 : decode cX5_sheet 17 = .ok (.iload_n 2, 1) := by decide +kernel
theorem dX5_sheet_18 : decode cX5_sheet 18 = .ok (.bipush 16, 2) := by decide +kernel
theorem dX5_sheet_20 : decode cX5_sheet 20 = .ok (.if_icmp .eq 16, 3) := by decide +kernel
theorem dX5_sheet_23 : decode cX5_sheet 23 = .ok (.iload_n 2, 1) := by decide +kernel
theorem dX5_sheet_24 : decode cX5_sheet 24 = .ok (.bipush 32, 2) := by decide +kernel
theorem dX5_sheet_26 : decode cX5_sheet 26 = .ok (.if_icmp .eq 10, 3) := by decide +kernel
theorem dX5_sheet_29 : decode cX5_sheet 29 = .ok (.aload_n 0, 1) := by decide +kernel
theorem dX5_sheet_30 : decode cX5_sheet 30 = .ok (.ldc 60, 2) := by decide +kernel
theorem dX5_sheet_32 : decode cX5_sheet 32 = .ok (.invokevirtual 66, 3) := by decide +kernel
theorem dX5_sheet_35 : decode cX5_sheet 35 = .ok (.ireturn, 1) := by decide +kernel
theorem dX5_sheet_36 : decode cX5_sheet 36 = .ok (.iload_n 3, 1) := by decide +kernel
theorem dX5_sheet_37 : decode cX5_sheet 37 = .ok (.ifCond .ge 11, 3) := by decide +kernel
theorem dX5_sheet_40 : decode cX5_sheet 40 = .ok (.aload_n 0, 1) := by decide +kernel
theorem dX5_sheet_41 : decode cX5_sheet 41 = .ok (.ldc_w 335, 3) := by decide +kernel
theorem dX5_sheet_44 : decode cX5_sheet 44 = .ok (.invokevirtual 66, 3) := by decide +kernel
theorem dX5_sheet_47 : decode cX5_sheet 47 = .ok (.ireturn, 1) := by decide +kernel
theorem dX5_sheet_48 : decode cX5_sheet 48 = .ok (.iload_n 3, 1) := by decide +kernel
theorem dX5_sheet_49 : decode cX5_sheet 49 = .ok (.bipush 40, 2) := by decide +kernel
theorem dX5_sheet_51 : decode cX5_sheet 51 = .ok (.if_icmp .le 10, 3) := by decide +kernel
theorem dX5_sheet_54 : decode cX5_sheet 54 = .ok (.aload_n 0, 1) := by decide +kernel
theorem dX5_sheet_55 : decode cX5_sheet 55 = .ok (.ldc 60, 2) := by decide +kernel
theorem dX5_sheet_57 : decode cX5_sheet 57 = .ok (.invokevirtual 66, 3) := by decide +kernel
theorem dX5_sheet_60 : decode cX5_sheet 60 = .ok (.ireturn, 1) := by decide +kernel
theorem dX5_sheet_61 : decode cX5_sheet 61 = .ok (.aload_n 0, 1) := by decide +kernel
theorem dX5_sheet_62 : decode cX5_sheet 62 = .ok (.getfield 48, 3) := by decide +kernel
theorem dX5_sheet_65 : decode cX5_sheet 65 = .ok (.iload_n 1, 1) := by decide +kernel
theorem dX5_sheet_66 : decode cX5_sheet 66 = .ok (.iload_n 2, 1) := by decide +kernel
theorem dX5_sheet_67 : decode cX5_sheet 67 = .ok (.iastore, 1) := by decide +kernel
theorem dX5_sheet_68 : decode cX5_sheet 68 = .ok (.aload_n 0, 1) := by decide +kernel
theorem dX5_sheet_69 : decode cX5_sheet 69 = .ok (.getfield 51, 3) := by decide +kernel
theorem dX5_sheet_72 : decode cX5_sheet 72 = .ok (.iload_n 1, 1) := by decide +kernel
theorem dX5_sheet_73 : decode cX5_sheet 73 = .ok (.iload_n 2, 1) := by decide +kernel
theorem dX5_sheet_74 : decode cX5_sheet 74 = .ok (.ifCond .ne 7, 3) := by decide +kernel
theorem dX5_sheet_77 : decode cX5_sheet 77 = .ok (.iconst 0, 1) := by decide +kernel
theorem dX5_sheet_78 : decode cX5_sheet 78 = .ok (.goto 4, 3) := by decide +kernel
theorem dX5_sheet_81 : decode cX5_sheet 81 = .ok (.iload_n 3, 1) := by decide +kernel
theorem dX5_sheet_82 : decode cX5_sheet 82 = .ok (.iastore, 1) := by decide +kernel
theorem dX5_sheet_83 : decode cX5_sheet 83 = .ok (.iconst 0, 1) := by decide +kernel
theorem dX5_sheet_84 : decode cX5_sheet 84 = .ok (.istore 4, 2) := by decide +kernel
theorem dX5_sheet_86 : decode cX5_sheet 86 = .ok (.iload 4, 2) := by decide +kernel
theorem dX5_sheet_88 : decode cX5_sheet 88 = .ok (.bipush 40, 2) := by decide +kernel
theorem dX5_sheet_90 : decode cX5_sheet 90 = .ok (.if_icmp .ge 22, 3) := by decide +kernel
theorem dX5_sheet_93 : decode cX5_sheet 93 = .ok (.aload_n 0, 1) := by decide +kernel
theorem dX5_sheet_94 : decode cX5_sheet 94 = .ok (.getfield 54, 3) := by decide +kernel
theorem dX5_sheet_97 : decode cX5_sheet 97 = .ok (.bipush 40, 2) := by decide +kernel
theorem dX5_sheet_99 : decode cX5_sheet 99 = .ok (.iload_n 1, 1) := by decide +kernel
theorem dX5_sheet_100 : decode cX5_sheet 100 = .ok (.imul, 1) := by decide +kernel
theorem dX5_sheet_101 : decode cX5_sheet 101 = .ok (.iload 4, 2) := by decide +kernel
theorem dX5_sheet_103 : decode cX5_sheet 103 = .ok (.iadd, 1) := by decide +kernel
theorem dX5_sheet_104 : decode cX5_sheet 104 = .ok (.iconst 0, 1) := by decide +kernel
theorem dX5_sheet_105 : decode cX5_sheet 105 = .ok (.iastore, 1) := by decide +kernel
theorem dX5_sheet_106 : decode cX5_sheet 106 = .ok (.iinc 4 1, 3) := by decide +kernel
theorem dX5_sheet_109 : decode cX5_sheet 109 = .ok (.goto (-23), 3) := by decide +kernel
theorem dX5_sheet_112 : decode cX5_sheet 112 = .ok (.aload_n 0, 1) := by decide +kernel
theorem dX5_sheet_113 : decode cX5_sheet 113 = .ok (.getfield 51, 3) := by decide +kernel
theorem dX5_sheet_116 : decode cX5_sheet 116 = .ok (.iload_n 1, 1) := by decide +kernel
theorem dX5_sheet_117 : decode cX5_sheet 117 = .ok (.iaload, 1) := by decide +kernel
theorem dX5_sheet_118 : decode cX5_sheet 118 = .ok (.ireturn, 1) := by decide +kernel
theorem dX5_write_0 : decode cX5_write 0 = .ok (.iload_n 1, 1) := by decide +kernel
theorem dX5_write_1 : decode cX5_write 1 = .ok (.invokestatic 209, 3) := by decide +kernel
theorem dX5_write_4 : decode cX5_write 4 = .ok (.ifCond .ne 10, 3) := by decide +kernel
theorem dX5_write_7 : decode cX5_write 7 = .ok (.aload_n 0, 1) := by decide +kernel
theorem dX5_write_8 : decode cX5_write 8 = .ok (.ldc 60, 2) := by decide +kernel
theorem dX5_write_10 : decode cX5_write 10 = .ok (.invokevirtual 66, 3) := by decide +kernel
theorem dX5_write_13 : decode cX5_write 13 = .ok (.ireturn, 1) := by decide +kernel
theorem dX5_write_14 : decode cX5_write 14 = .ok (.aload_n 0, 1) := by decide +kernel
theorem dX5_write_15 : decode cX5_write 15 = .ok (.getfield 48, 3) := by decide +kernel
theorem dX5_write_18 : decode cX5_write 18 = .ok (.iload_n 1, 1) := by decide +kernel
theorem dX5_write_19 : decode cX5_write 19 = .ok (.iaload, 1) := by decide +kernel
theorem dX5_write_20 : decode cX5_write 20 = .ok (.ifCond .ne 10, 3) := by decide +kernel
theorem dX5_write_23 : decode cX5_write 23 = .ok (.aload_n 0, 1) := by decide +kernel
theorem dX5_write_24 : decode cX5_write 24 = .ok (.ldc 212, 2) := by decide +kernel
theorem dX5_write_26 : decode cX5_write 26 = .ok (.invokevirtual 66, 3) := by decide +kernel
theorem dX5_write_29 : decode cX5_write 29 = .ok (.ireturn, 1) := by decide +kernel
theorem dX5_write_30 : decode cX5_write 30 = .ok (.iload_n 2, 1) := by decide +kernel
theorem dX5_write_31 : decode cX5_write 31 = .ok (.iconst 0, 1) := by decide +kernel
theorem dX5_write_32 : decode cX5_write 32 = .ok (.aload_n 0, 1) := by decide +kernel
theorem dX5_write_33 : decode cX5_write 33 = .ok (.getfield 51, 3) := by decide +kernel
theorem dX5_write_36 : decode cX5_write 36 = .ok (.iload_n 1, 1) := by decide +kernel
theorem dX5_write_37 : decode cX5_write 37 = .ok (.iaload, 1) := by decide +kernel
theorem dX5_write_38 : decode cX5_write 38 = .ok (.iconst 1, 1) := by decide +kernel
theorem dX5_write_39 : decode cX5_write 39 = .ok (.isub, 1) := by decide +kernel
theorem dX5_write_40 : decode cX5_write 40 = .ok (.invokestatic 70, 3) := by decide +kernel
theorem dX5_write_43 : decode cX5_write 43 = .ok (.ifCond .ne 10, 3) := by decide +kernel
theorem dX5_write_46 : decode cX5_write 46 = .ok (.aload_n 0, 1) := by decide +kernel
theorem dX5_write_47 : decode cX5_write 47 = .ok (.ldc 60, 2) := by decide +kernel
theorem dX5_write_49 : decode cX5_write 49 = .ok (.invokevirtual 66, 3) := by decide +kernel
theorem dX5_write_52 : decode cX5_write 52 = .ok (.ireturn, 1) := by decide +kernel
theorem dX5_write_53 : decode cX5_write 53 = .ok (.aload_n 0, 1) := by decide +kernel
theorem dX5_write_54 : decode cX5_write 54 = .ok (.getfield 54, 3) := by decide +kernel
theorem dX5_write_57 : decode cX5_write 57 = .ok (.bipush 40, 2) := by decide +kernel
theorem dX5_write_59 : decode cX5_write 59 = .ok (.iload_n 1, 1) := by decide +kernel
theorem dX5_write_60 : decode cX5_write 60 = .ok (.imul, 1) := by decide +kernel
theorem dX5_write_61 : decode cX5_write 61 = .ok (.iload_n 2, 1) := by decide +kernel
theorem dX5_write_62 : decode cX5_write 62 = .ok (.iadd, 1) := by decide +kernel
theorem dX5_write_63 : decode cX5_write 63 = .ok (.iload_n 3, 1) := by decide +kernel
theorem dX5_write_64 : decode cX5_write 64 = .ok (.aload_n 0, 1) := by decide +kernel
theorem dX5_write_65 : decode cX5_write 65 = .ok (.getfield 48, 3) := by decide +kernel
theorem dX5_write_68 : decode cX5_write 68 = .ok (.iload_n 1, 1) := by decide +kernel
theorem dX5_write_69 : decode cX5_write 69 = .ok (.iaload, 1) := by decide +kernel
theorem dX5_write_70 : decode cX5_write 70 = .ok (.invokestatic 336, 3) := by decide +kernel
theorem dX5_write_73 : decode cX5_write 73 = .ok (.iastore, 1) := by decide +kernel
theorem dX5_write_74 : decode cX5_write 74 = .ok (.iconst 1, 1) := by decide +kernel
theorem dX5_write_75 : decode cX5_write 75 = .ok (.ireturn, 1) := by decide +kernel
theorem dX5_copy_0 : decode cX5_copy 0 = .ok (.iload_n 1, 1) := by decide +kernel
theorem dX5_copy_1 : decode cX5_copy 1 = .ok (.invokestatic 209, 3) := by decide +kernel
theorem dX5_copy_4 : decode cX5_copy 4 = .ok (.ifCond .eq 10, 3) := by decide +kernel
theorem dX5_copy_7 : decode cX5_copy 7 = .ok (.iload_n 3, 1) := by decide +kernel
theorem dX5_copy_8 : decode cX5_copy 8 = .ok (.invokestatic 209, 3) := by decide +kernel
theorem dX5_copy_11 : decode cX5_copy 11 = .ok (.ifCond .ne 10, 3) := by decide +kernel
theorem dX5_copy_14 : decode cX5_copy 14 = .ok (.aload_n 0, 1) := by decide +kernel
theorem dX5_copy_15 : decode cX5_copy 15 = .ok (.ldc 60, 2) := by decide +kernel
theorem dX5_copy_17 : decode cX5_copy 17 = .ok (.invokevirtual 66, 3) := by decide +kernel
theorem dX5_copy_20 : decode cX5_copy 20 = .ok (.ireturn, 1) := by decide +kernel
theorem dX5_copy_21 : decode cX5_copy 21 = .ok (.aload_n 0, 1) := by decide +kernel
theorem dX5_copy_22 : decode cX5_copy 22 = .ok (.getfield 48, 3) := by decide +kernel
theorem dX5_copy_25 : decode cX5_copy 25 = .ok (.iload_n 1, 1) := by decide +kernel
theorem dX5_copy_26 : decode cX5_copy 26 = .ok (.iaload, 1) := by decide +kernel
theorem dX5_copy_27 : decode cX5_copy 27 = .ok (.ifCond .eq 12, 3) := by decide +kernel
theorem dX5_copy_30 : decode cX5_copy 30 = .ok (.aload_n 0, 1) := by decide +kernel
theorem dX5_copy_31 : decode cX5_copy 31 = .ok (.getfield 48, 3) := by decide +kernel
theorem dX5_copy_34 : decode cX5_copy 34 = .ok (.iload_n 3, 1) := by decide +kernel
theorem dX5_copy_35 : decode cX5_copy 35 = .ok (.iaload, 1) := by decide +kernel
theorem dX5_copy_36 : decode cX5_copy 36 = .ok (.ifCond .ne 10, 3) := by decide +kernel
theorem dX5_copy_39 : decode cX5_copy 39 = .ok (.aload_n 0, 1) := by decide +kernel
theorem dX5_copy_40 : decode cX5_copy 40 = .ok (.ldc 212, 2) := by decide +kernel
theorem dX5_copy_42 : decode cX5_copy 42 = .ok (.invokevirtual 66, 3) := by decide +kernel
theorem dX5_copy_45 : decode cX5_copy 45 = .ok (.ireturn, 1) := by decide +kernel
theorem dX5_copy_46 : decode cX5_copy 46 = .ok (.aload_n 0, 1) := by decide +kernel
theorem dX5_copy_47 : decode cX5_copy 47 = .ok (.getfield 48, 3) := by decide +kernel
theorem dX5_copy_50 : decode cX5_copy 50 = .ok (.iload_n 1, 1) := by decide +kernel
theorem dX5_copy_51 : decode cX5_copy 51 = .ok (.iaload, 1) := by decide +kernel
theorem dX5_copy_52 : decode cX5_copy 52 = .ok (.aload_n 0, 1) := by decide +kernel
theorem dX5_copy_53 : decode cX5_copy 53 = .ok (.getfield 48, 3) := by decide +kernel
theorem dX5_copy_56 : decode cX5_copy 56 = .ok (.iload_n 3, 1) := by decide +kernel
theorem dX5_copy_57 : decode cX5_copy 57 = .ok (.iaload, 1) := by decide +kernel
theorem dX5_copy_58 : decode cX5_copy 58 = .ok (.if_icmp .eq 11, 3) := by decide +kernel
theorem dX5_copy_61 : decode cX5_copy 61 = .ok (.aload_n 0, 1) := by decide +kernel
theorem dX5_copy_62 : decode cX5_copy 62 = .ok (.ldc_w 334, 3) := by decide +kernel
theorem dX5_copy_65 : decode cX5_copy 65 = .ok (.invokevirtual 66, 3) := by decide +kernel
theorem dX5_copy_68 : decode cX5_copy 68 = .ok (.ireturn, 1) := by decide +kernel
theorem dX5_copy_69 : decode cX5_copy 69 = .ok (.iload_n 2, 1) := by decide +kernel
theorem dX5_copy_70 : decode cX5_copy 70 = .ok (.ifCond .lt 48, 3) := by decide +kernel
theorem dX5_copy_73 : decode cX5_copy 73 = .ok (.iload 4, 2) := by decide +kernel
theorem dX5_copy_75 : decode cX5_copy 75 = .ok (.ifCond .lt 43, 3) := by decide +kernel
theorem dX5_copy_78 : decode cX5_copy 78 = .ok (.iload 5, 2) := by decide +kernel
theorem dX5_copy_80 : decode cX5_copy 80 = .ok (.ifCond .lt 38, 3) := by decide +kernel
theorem dX5_copy_83 : decode cX5_copy 83 = .ok (.iload_n 2, 1) := by decide +kernel
theorem dX5_copy_84 : decode cX5_copy 84 = .ok (.i2l, 1) := by decide +kernel
theorem dX5_copy_85 : decode cX5_copy 85 = .ok (.iload 5, 2) := by decide +kernel
theorem dX5_copy_87 : decode cX5_copy 87 = .ok (.i2l, 1) := by decide +kernel
theorem dX5_copy_88 : decode cX5_copy 88 = .ok (.ladd, 1) := by decide +kernel
theorem dX5_copy_89 : decode cX5_copy 89 = .ok (.aload_n 0, 1) := by decide +kernel
theorem dX5_copy_90 : decode cX5_copy 90 = .ok (.getfield 51, 3) := by decide +kernel
theorem dX5_copy_93 : decode cX5_copy 93 = .ok (.iload_n 1, 1) := by decide +kernel
theorem dX5_copy_94 : decode cX5_copy 94 = .ok (.iaload, 1) := by decide +kernel
theorem dX5_copy_95 : decode cX5_copy 95 = .ok (.i2l, 1) := by decide +kernel
theorem dX5_copy_96 : decode cX5_copy 96 = .ok (.lcmp, 1) := by decide +kernel
theorem dX5_copy_97 : decode cX5_copy 97 = .ok (.ifCond .gt 21, 3) := by decide +kernel
theorem dX5_copy_100 : decode cX5_copy 100 = .ok (.iload 4, 2) := by decide +kernel
theorem dX5_copy_102 : decode cX5_copy 102 = .ok (.i2l, 1) := by decide +kernel
theorem dX5_copy_103 : decode cX5_copy 103 = .ok (.iload 5, 2) := by decide +kernel
theorem dX5_copy_105 : decode cX5_copy 105 = .ok (.i2l, 1) := by decide +kernel
theorem dX5_copy_106 : decode cX5_copy 106 = .ok (.ladd, 1) := by decide +kernel
theorem dX5_copy_107 : decode cX5_copy 107 = .ok (.aload_n 0, 1) := by decide +kernel
theorem dX5_copy_108 : decode cX5_copy 108 = .ok (.getfield 51, 3) := by decide +kernel
theorem dX5_copy_111 : decode cX5_copy 111 = .ok (.iload_n 3, 1) := by decide +kernel
theorem dX5_copy_112 : decode cX5_copy 112 = .ok (.iaload, 1) := by decide +kernel
theorem dX5_copy_113 : decode cX5_copy 113 = .ok (.i2l, 1) := by decide +kernel
theorem dX5_copy_114 : decode cX5_copy 114 = .ok (.lcmp, 1) := by decide +kernel
theorem dX5_copy_115 : decode cX5_copy 115 = .ok (.ifCond .le 10, 3) := by decide +kernel
theorem dX5_copy_118 : decode cX5_copy 118 = .ok (.aload_n 0, 1) := by decide +kernel
theorem dX5_copy_119 : decode cX5_copy 119 = .ok (.ldc 60, 2) := by decide +kernel
theorem dX5_copy_121 : decode cX5_copy 121 = .ok (.invokevirtual 66, 3) := by decide +kernel
theorem dX5_copy_124 : decode cX5_copy 124 = .ok (.ireturn, 1) := by decide +kernel
theorem dX5_copy_125 : decode cX5_copy 125 = .ok (.iconst 0, 1) := by decide +kernel
theorem dX5_copy_126 : decode cX5_copy 126 = .ok (.istore 6, 2) := by decide +kernel
theorem dX5_copy_128 : decode cX5_copy 128 = .ok (.iload 6, 2) := by decide +kernel
theorem dX5_copy_130 : decode cX5_copy 130 = .ok (.iload 5, 2) := by decide +kernel
theorem dX5_copy_132 : decode cX5_copy 132 = .ok (.if_icmp .ge 30, 3) := by decide +kernel
theorem dX5_copy_135 : decode cX5_copy 135 = .ok (.aload_n 0, 1) := by decide +kernel
theorem dX5_copy_136 : decode cX5_copy 136 = .ok (.getfield 57, 3) := by decide +kernel
theorem dX5_copy_139 : decode cX5_copy 139 = .ok (.iload 6, 2) := by decide +kernel
theorem dX5_copy_141 : decode cX5_copy 141 = .ok (.aload_n 0, 1) := by decide +kernel
theorem dX5_copy_142 : decode cX5_copy 142 = .ok (.getfield 54, 3) := by decide +kernel
theorem dX5_copy_145 : decode cX5_copy 145 = .ok (.bipush 40, 2) := by decide +kernel
theorem dX5_copy_147 : decode cX5_copy 147 = .ok (.iload_n 1, 1) := by decide +kernel
theorem dX5_copy_148 : decode cX5_copy 148 = .ok (.imul, 1) := by decide +kernel
theorem dX5_copy_149 : decode cX5_copy 149 = .ok (.iload_n 2, 1) := by decide +kernel
theorem dX5_copy_150 : decode cX5_copy 150 = .ok (.iadd, 1) := by decide +kernel
theorem dX5_copy_151 : decode cX5_copy 151 = .ok (.iload 6, 2) := by decide +kernel
theorem dX5_copy_153 : decode cX5_copy 153 = .ok (.iadd, 1) := by decide +kernel
theorem dX5_copy_154 : decode cX5_copy 154 = .ok (.iaload, 1) := by decide +kernel
theorem dX5_copy_155 : decode cX5_copy 155 = .ok (.iastore, 1) := by decide +kernel
theorem dX5_copy_156 : decode cX5_copy 156 = .ok (.iinc 6 1, 3) := by decide +kernel
theorem dX5_copy_159 : decode cX5_copy 159 = .ok (.goto (-31), 3) := by decide +kernel
theorem dX5_copy_162 : decode cX5_copy 162 = .ok (.iconst 0, 1) := by decide +kernel
theorem dX5_copy_163 : decode cX5_copy 163 = .ok (.istore 6, 2) := by decide +kernel
theorem dX5_copy_165 : decode cX5_copy 165 = .ok (.iload 6, 2) := by decide +kernel
theorem dX5_copy_167 : decode cX5_copy 167 = .ok (.iload 5, 2) := by decide +kernel
theorem dX5_copy_169 : decode cX5_copy 169 = .ok (.if_icmp .ge 31, 3) := by decide +kernel
theorem dX5_copy_172 : decode cX5_copy 172 = .ok (.aload_n 0, 1) := by decide +kernel
theorem dX5_copy_173 : decode cX5_copy 173 = .ok (.getfield 54, 3) := by decide +kernel
theorem dX5_copy_176 : decode cX5_copy 176 = .ok (.bipush 40, 2) := by decide +kernel
theorem dX5_copy_178 : decode cX5_copy 178 = .ok (.iload_n 3, 1) := by decide +kernel
theorem dX5_copy_179 : decode cX5_copy 179 = .ok (.imul, 1) := by decide +kernel
theorem dX5_copy_180 : decode cX5_copy 180 = .ok (.iload 4, 2) := by decide +kernel
theorem dX5_copy_182 : decode cX5_copy 182 = .ok (.iadd, 1) := by decide +kernel
theorem dX5_copy_183 : decode cX5_copy 183 = .ok (.iload 6, 2) := by decide +kernel
theorem dX5_copy_185 : decode cX5_copy 185 = .ok (.iadd, 1) := by decide +kernel
theorem dX5_copy_186 : decode cX5_copy 186 = .ok (.aload_n 0, 1) := by decide +kernel
theorem dX5_copy_187 : decode cX5_copy 187 = .ok (.getfield 57, 3) := by decide +kernel
theorem dX5_copy_190 : decode cX5_copy 190 = .ok (.iload 6, 2) := by decide +kernel
theorem dX5_copy_192 : decode cX5_copy 192 = .ok (.iaload, 1) := by decide +kernel
theorem dX5_copy_193 : decode cX5_copy 193 = .ok (.iastore, 1) := by decide +kernel
theorem dX5_copy_194 : decode cX5_copy 194 = .ok (.iinc 6 1, 3) := by decide +kernel
theorem dX5_copy_197 : decode cX5_copy 197 = .ok (.goto (-32), 3) := by decide +kernel
theorem dX5_copy_200 : decode cX5_copy 200 = .ok (.iload 5, 2) := by decide +kernel
theorem dX5_copy_202 : decode cX5_copy 202 = .ok (.ireturn, 1) := by decide +kernel
theorem dX5_above_0 : decode cX5_above 0 = .ok (.iload_n 0, 1) := by decide +kernel
theorem dX5_above_1 : decode cX5_above 1 = .ok (.ifCond .ne 7, 3) := by decide +kernel
theorem dX5_above_4 : decode cX5_above 4 = .ok (.iconst (-1), 1) := by decide +kernel
theorem dX5_above_5 : decode cX5_above 5 = .ok (.goto 32, 3) := by decide +kernel
theorem dX5_above_8 : decode cX5_above 8 = .ok (.iload_n 0, 1) := by decide +kernel
theorem dX5_above_9 : decode cX5_above 9 = .ok (.iconst 3, 1) := by decide +kernel
theorem dX5_above_10 : decode cX5_above 10 = .ok (.if_icmp .ne 7, 3) := by decide +kernel
theorem dX5_above_13 : decode cX5_above 13 = .ok (.iconst 2, 1) := by decide +kernel
theorem dX5_above_14 : decode cX5_above 14 = .ok (.goto 23, 3) := by decide +kernel
theorem dX5_above_17 : decode cX5_above 17 = .ok (.iload_n 0, 1) := by decide +kernel
theorem dX5_above_18 : decode cX5_above 18 = .ok (.iconst 4, 1) := by decide +kernel
theorem dX5_above_19 : decode cX5_above 19 = .ok (.if_icmp .ne 7, 3) := by decide +kernel
theorem dX5_above_22 : decode cX5_above 22 = .ok (.iconst 3, 1) := by decide +kernel
theorem dX5_above_23 : decode cX5_above 23 = .ok (.goto 14, 3) := by decide +kernel
theorem dX5_above_26 : decode cX5_above 26 = .ok (.iload_n 0, 1) := by decide +kernel
theorem dX5_above_27 : decode cX5_above 27 = .ok (.bipush 6, 2) := by decide +kernel
theorem dX5_above_29 : decode cX5_above 29 = .ok (.if_icmp .ne 7, 3) := by decide +kernel
theorem dX5_above_32 : decode cX5_above 32 = .ok (.iconst 1, 1) := by decide +kernel
theorem dX5_above_33 : decode cX5_above 33 = .ok (.goto 4, 3) := by decide +kernel
theorem dX5_above_36 : decode cX5_above 36 = .ok (.iconst 0, 1) := by decide +kernel
theorem dX5_above_37 : decode cX5_above 37 = .ok (.ireturn, 1) := by decide +kernel
theorem dX5_isUnder_0 : decode cX5_isUnder 0 = .ok (.iload_n 0, 1) := by decide +kernel
theorem dX5_isUnder_1 : decode cX5_isUnder 1 = .ok (.istore_n 2, 1) := by decide +kernel
theorem dX5_isUnder_2 : decode cX5_isUnder 2 = .ok (.iload_n 2, 1) := by decide +kernel
theorem dX5_isUnder_3 : decode cX5_isUnder 3 = .ok (.ifCond .lt 16, 3) := by decide +kernel
theorem dX5_isUnder_6 : decode cX5_isUnder 6 = .ok (.iload_n 2, 1) := by decide +kernel
theorem dX5_isUnder_7 : decode cX5_isUnder 7 = .ok (.iload_n 1, 1) := by decide +kernel
theorem dX5_isUnder_8 : decode cX5_isUnder 8 = .ok (.if_icmp .eq 11, 3) := by decide +kernel
theorem dX5_isUnder_11 : decode cX5_isUnder 11 = .ok (.iload_n 2, 1) := by decide +kernel
theorem dX5_isUnder_12 : decode cX5_isUnder 12 = .ok (.invokestatic 339, 3) := by decide +kernel
theorem dX5_isUnder_15 : decode cX5_isUnder 15 = .ok (.istore_n 2, 1) := by decide +kernel
theorem dX5_isUnder_16 : decode cX5_isUnder 16 = .ok (.goto (-14), 3) := by decide +kernel
theorem dX5_isUnder_19 : decode cX5_isUnder 19 = .ok (.iload_n 2, 1) := by decide +kernel
theorem dX5_isUnder_20 : decode cX5_isUnder 20 = .ok (.ifCond .lt 7, 3) := by decide +kernel
theorem dX5_isUnder_23 : decode cX5_isUnder 23 = .ok (.iconst 1, 1) := by decide +kernel
theorem dX5_isUnder_24 : decode cX5_isUnder 24 = .ok (.goto 4, 3) := by decide +kernel
theorem dX5_isUnder_27 : decode cX5_isUnder 27 = .ok (.iconst 0, 1) := by decide +kernel
theorem dX5_isUnder_28 : decode cX5_isUnder 28 = .ok (.ireturn, 1) := by decide +kernel
theorem dX5_load_0 : decode cX5_load 0 = .ok (.aload_n 0, 1) := by decide +kernel
theorem dX5_load_1 : decode cX5_load 1 = .ok (.iload_n 1, 1) := by decide +kernel
theorem dX5_load_2 : decode cX5_load 2 = .ok (.iconst 1, 1) := by decide +kernel
theorem dX5_load_3 : decode cX5_load 3 = .ok (.invokevirtual 223, 3) := by decide +kernel
theorem dX5_load_6 : decode cX5_load 6 = .ok (.ifCond .eq 14, 3) := by decide +kernel
theorem dX5_load_9 : decode cX5_load 9 = .ok (.aload_n 0, 1) := by decide +kernel
theorem dX5_load_10 : decode cX5_load 10 = .ok (.aload_n 0, 1) := by decide +kernel
theorem dX5_load_11 : decode cX5_load 11 = .ok (.iload_n 1, 1) := by decide +kernel
theorem dX5_load_12 : decode cX5_load 12 = .ok (.iconst 1, 1) := by decide +kernel
theorem dX5_load_13 : decode cX5_load 13 = .ok (.invokevirtual 223, 3) := by decide +kernel
theorem dX5_load_16 : decode cX5_load 16 = .ok (.invokevirtual 66, 3) := by decide +kernel
theorem dX5_load_19 : decode cX5_load 19 = .ok (.ireturn, 1) := by decide +kernel
theorem dX5_load_20 : decode cX5_load 20 = .ok (.iconst 0, 1) := by decide +kernel
theorem dX5_load_21 : decode cX5_load 21 = .ok (.istore_n 2, 1) := by decide +kernel
theorem dX5_load_22 : decode cX5_load 22 = .ok (.iload_n 2, 1) := by decide +kernel
theorem dX5_load_23 : decode cX5_load 23 = .ok (.aload_n 0, 1) := by decide +kernel
theorem dX5_load_24 : decode cX5_load 24 = .ok (.getfield 51, 3) := by decide +kernel
theorem dX5_load_27 : decode cX5_load 27 = .ok (.iload_n 1, 1) := by decide +kernel
theorem dX5_load_28 : decode cX5_load 28 = .ok (.iaload, 1) := by decide +kernel
theorem dX5_load_29 : decode cX5_load 29 = .ok (.if_icmp .ge 54, 3) := by decide +kernel
theorem dX5_load_32 : decode cX5_load 32 = .ok (.iload_n 2, 1) := by decide +kernel
theorem dX5_load_33 : decode cX5_load 33 = .ok (.invokestatic 87, 3) := by decide +kernel
theorem dX5_load_36 : decode cX5_load 36 = .ok (.ifCond .eq 47, 3) := by decide +kernel
theorem dX5_load_39 : decode cX5_load 39 = .ok (.aload_n 0, 1) := by decide +kernel
theorem dX5_load_40 : decode cX5_load 40 = .ok (.aload_n 0, 1) := by decide +kernel
theorem dX5_load_41 : decode cX5_load 41 = .ok (.getfield 54, 3) := by decide +kernel
theorem dX5_load_44 : decode cX5_load 44 = .ok (.bipush 40, 2) := by decide +kernel
theorem dX5_load_46 : decode cX5_load 46 = .ok (.iload_n 1, 1) := by decide +kernel
theorem dX5_load_47 : decode cX5_load 47 = .ok (.imul, 1) := by decide +kernel
theorem dX5_load_48 : decode cX5_load 48 = .ok (.iload_n 2, 1) := by decide +kernel
theorem dX5_load_49 : decode cX5_load 49 = .ok (.iadd, 1) := by decide +kernel
theorem dX5_load_50 : decode cX5_load 50 = .ok (.iaload, 1) := by decide +kernel
theorem dX5_load_51 : decode cX5_load 51 = .ok (.invokevirtual 90, 3) := by decide +kernel
theorem dX5_load_54 : decode cX5_load 54 = .ok (.ifCond .eq 29, 3) := by decide +kernel
theorem dX5_load_57 : decode cX5_load 57 = .ok (.aload_n 0, 1) := by decide +kernel
theorem dX5_load_58 : decode cX5_load 58 = .ok (.getfield 9, 3) := by decide +kernel
theorem dX5_load_61 : decode cX5_load 61 = .ok (.bipush 17, 2) := by decide +kernel
theorem dX5_load_63 : decode cX5_load 63 = .ok (.iload_n 2, 1) := by decide +kernel
theorem dX5_load_64 : decode cX5_load 64 = .ok (.iadd, 1) := by decide +kernel
theorem dX5_load_65 : decode cX5_load 65 = .ok (.aload_n 0, 1) := by decide +kernel
theorem dX5_load_66 : decode cX5_load 66 = .ok (.getfield 54, 3) := by decide +kernel
theorem dX5_load_69 : decode cX5_load 69 = .ok (.bipush 40, 2) := by decide +kernel
theorem dX5_load_71 : decode cX5_load 71 = .ok (.iload_n 1, 1) := by decide +kernel
theorem dX5_load_72 : decode cX5_load 72 = .ok (.imul, 1) := by decide +kernel
theorem dX5_load_73 : decode cX5_load 73 = .ok (.iload_n 2, 1) := by decide +kernel
theorem dX5_load_74 : decode cX5_load 74 = .ok (.iadd, 1) := by decide +kernel
theorem dX5_load_75 : decode cX5_load 75 = .ok (.iaload, 1) := by decide +kernel
theorem dX5_load_76 : decode cX5_load 76 = .ok (.iastore, 1) := by decide +kernel
theorem dX5_load_77 : decode cX5_load 77 = .ok (.iinc 2 1, 3) := by decide +kernel
theorem dX5_load_80 : decode cX5_load 80 = .ok (.goto (-58), 3) := by decide +kernel
theorem dX5_load_83 : decode cX5_load 83 = .ok (.iload_n 2, 1) := by decide +kernel
theorem dX5_load_84 : decode cX5_load 84 = .ok (.ireturn, 1) := by decide +kernel
theorem dX5_judge_0 : decode cX5_judge 0 = .ok (.aload_n 0, 1) := by decide +kernel
theorem dX5_judge_1 : decode cX5_judge 1 = .ok (.iload_n 1, 1) := by decide +kernel
theorem dX5_judge_2 : decode cX5_judge 2 = .ok (.iconst 1, 1) := by decide +kernel
theorem dX5_judge_3 : decode cX5_judge 3 = .ok (.invokevirtual 223, 3) := by decide +kernel
theorem dX5_judge_6 : decode cX5_judge 6 = .ok (.ifCond .eq 14, 3) := by decide +kernel
theorem dX5_judge_9 : decode cX5_judge 9 = .ok (.aload_n 0, 1) := by decide +kernel
theorem dX5_judge_10 : decode cX5_judge 10 = .ok (.aload_n 0, 1) := by decide +kernel
theorem dX5_judge_11 : decode cX5_judge 11 = .ok (.iload_n 1, 1) := by decide +kernel
theorem dX5_judge_12 : decode cX5_judge 12 = .ok (.iconst 1, 1) := by decide +kernel
theorem dX5_judge_13 : decode cX5_judge 13 = .ok (.invokevirtual 223, 3) := by decide +kernel
theorem dX5_judge_16 : decode cX5_judge 16 = .ok (.invokevirtual 66, 3) := by decide +kernel
theorem dX5_judge_19 : decode cX5_judge 19 = .ok (.ireturn, 1) := by decide +kernel
theorem dX5_judge_20 : decode cX5_judge 20 = .ok (.iconst 0, 1) := by decide +kernel
theorem dX5_judge_21 : decode cX5_judge 21 = .ok (.istore_n 2, 1) := by decide +kernel
theorem dX5_judge_22 : decode cX5_judge 22 = .ok (.iload_n 2, 1) := by decide +kernel
theorem dX5_judge_23 : decode cX5_judge 23 = .ok (.aload_n 0, 1) := by decide +kernel
theorem dX5_judge_24 : decode cX5_judge 24 = .ok (.getfield 51, 3) := by decide +kernel
theorem dX5_judge_27 : decode cX5_judge 27 = .ok (.iload_n 1, 1) := by decide +kernel
theorem dX5_judge_28 : decode cX5_judge 28 = .ok (.iaload, 1) := by decide +kernel
theorem dX5_judge_29 : decode cX5_judge 29 = .ok (.if_icmp .ge 37, 3) := by decide +kernel
theorem dX5_judge_32 : decode cX5_judge 32 = .ok (.aload_n 0, 1) := by decide +kernel
theorem dX5_judge_33 : decode cX5_judge 33 = .ok (.iload_n 2, 1) := by decide +kernel
theorem dX5_judge_34 : decode cX5_judge 34 = .ok (.invokevirtual 83, 3) := by decide +kernel
theorem dX5_judge_37 : decode cX5_judge 37 = .ok (.ifCond .eq 29, 3) := by decide +kernel
theorem dX5_judge_40 : decode cX5_judge 40 = .ok (.aload_n 0, 1) := by decide +kernel
theorem dX5_judge_41 : decode cX5_judge 41 = .ok (.getfield 54, 3) := by decide +kernel
theorem dX5_judge_44 : decode cX5_judge 44 = .ok (.bipush 40, 2) := by decide +kernel
theorem dX5_judge_46 : decode cX5_judge 46 = .ok (.iload_n 1, 1) := by decide +kernel
theorem dX5_judge_47 : decode cX5_judge 47 = .ok (.imul, 1) := by decide +kernel
theorem dX5_judge_48 : decode cX5_judge 48 = .ok (.iload_n 2, 1) := by decide +kernel
theorem dX5_judge_49 : decode cX5_judge 49 = .ok (.iadd, 1) := by decide +kernel
theorem dX5_judge_50 : decode cX5_judge 50 = .ok (.iaload, 1) := by decide +kernel
theorem dX5_judge_51 : decode cX5_judge 51 = .ok (.aload_n 0, 1) := by decide +kernel
theorem dX5_judge_52 : decode cX5_judge 52 = .ok (.iload_n 2, 1) := by decide +kernel
theorem dX5_judge_53 : decode cX5_judge 53 = .ok (.iconst 5, 1) := by decide +kernel
theorem dX5_judge_54 : decode cX5_judge 54 = .ok (.invokevirtual 104, 3) := by decide +kernel
theorem dX5_judge_57 : decode cX5_judge 57 = .ok (.if_icmp .ne 9, 3) := by decide +kernel
theorem dX5_judge_60 : decode cX5_judge 60 = .ok (.iinc 2 1, 3) := by decide +kernel
theorem dX5_judge_63 : decode cX5_judge 63 = .ok (.goto (-41), 3) := by decide +kernel
theorem dX5_judge_66 : decode cX5_judge 66 = .ok (.iload_n 2, 1) := by decide +kernel
theorem dX5_judge_67 : decode cX5_judge 67 = .ok (.aload_n 0, 1) := by decide +kernel
theorem dX5_judge_68 : decode cX5_judge 68 = .ok (.getfield 51, 3) := by decide +kernel
theorem dX5_judge_71 : decode cX5_judge 71 = .ok (.iload_n 1, 1) := by decide +kernel
theorem dX5_judge_72 : decode cX5_judge 72 = .ok (.iaload, 1) := by decide +kernel
theorem dX5_judge_73 : decode cX5_judge 73 = .ok (.if_icmp .ne 7, 3) := by decide +kernel
theorem dX5_judge_76 : decode cX5_judge 76 = .ok (.iconst 0, 1) := by decide +kernel
theorem dX5_judge_77 : decode cX5_judge 77 = .ok (.goto 6, 3) := by decide +kernel
theorem dX5_judge_80 : decode cX5_judge 80 = .ok (.iconst 1, 1) := by decide +kernel
theorem dX5_judge_81 : decode cX5_judge 81 = .ok (.iload_n 2, 1) := by decide +kernel
theorem dX5_judge_82 : decode cX5_judge 82 = .ok (.iadd, 1) := by decide +kernel
theorem dX5_judge_83 : decode cX5_judge 83 = .ok (.ireturn, 1) := by decide +kernel
theorem dX5_image_0 : decode cX5_image 0 = .ok (.aload_n 0, 1) := by decide +kernel
theorem dX5_image_1 : decode cX5_image 1 = .ok (.getfield 9, 3) := by decide +kernel
theorem dX5_image_4 : decode cX5_image 4 = .ok (.aload_n 0, 1) := by decide +kernel
theorem dX5_image_5 : decode cX5_image 5 = .ok (.getfield 13, 3) := by decide +kernel
theorem dX5_image_8 : decode cX5_image 8 = .ok (.invokestatic 61, 3) := by decide +kernel
theorem dX5_image_11 : decode cX5_image 11 = .ok (.aload_n 0, 1) := by decide +kernel
theorem dX5_image_12 : decode cX5_image 12 = .ok (.iconst 1, 1) := by decide +kernel
theorem dX5_image_13 : decode cX5_image 13 = .ok (.putfield 342, 3) := by decide +kernel
theorem dX5_image_16 : decode cX5_image 16 = .ok (.iconst 1, 1) := by decide +kernel
theorem dX5_image_17 : decode cX5_image 17 = .ok (.ireturn, 1) := by decide +kernel
theorem dX5_undo_0 : decode cX5_undo 0 = .ok (.aload_n 0, 1) := by decide +kernel
theorem dX5_undo_1 : decode cX5_undo 1 = .ok (.getfield 342, 3) := by decide +kernel
theorem dX5_undo_4 : decode cX5_undo 4 = .ok (.ifCond .ne 10, 3) := by decide +kernel
theorem dX5_undo_7 : decode cX5_undo 7 = .ok (.aload_n 0, 1) := by decide +kernel
theorem dX5_undo_8 : decode cX5_undo 8 = .ok (.ldc 65, 2) := by decide +kernel
theorem dX5_undo_10 : decode cX5_undo 10 = .ok (.invokevirtual 66, 3) := by decide +kernel
theorem dX5_undo_13 : decode cX5_undo 13 = .ok (.ireturn, 1) := by decide +kernel
theorem dX5_undo_14 : decode cX5_undo 14 = .ok (.aload_n 0, 1) := by decide +kernel
theorem dX5_undo_15 : decode cX5_undo 15 = .ok (.getfield 13, 3) := by decide +kernel
theorem dX5_undo_18 : decode cX5_undo 18 = .ok (.aload_n 0, 1) := by decide +kernel
theorem dX5_undo_19 : decode cX5_undo 19 = .ok (.getfield 9, 3) := by decide +kernel
theorem dX5_undo_22 : decode cX5_undo 22 = .ok (.invokestatic 61, 3) := by decide +kernel
theorem dX5_undo_25 : decode cX5_undo 25 = .ok (.aload_n 0, 1) := by decide +kernel
theorem dX5_undo_26 : decode cX5_undo 26 = .ok (.getfield 9, 3) := by decide +kernel
theorem dX5_undo_29 : decode cX5_undo 29 = .ok (.iconst 0, 1) := by decide +kernel
theorem dX5_undo_30 : decode cX5_undo 30 = .ok (.iaload, 1) := by decide +kernel
theorem dX5_undo_31 : decode cX5_undo 31 = .ok (.ireturn, 1) := by decide +kernel
theorem dX5_tear_0 : decode cX5_tear 0 = .ok (.aload_n 0, 1) := by decide +kernel
theorem dX5_tear_1 : decode cX5_tear 1 = .ok (.getfield 342, 3) := by decide +kernel
theorem dX5_tear_4 : decode cX5_tear 4 = .ok (.ifCond .eq 7, 3) := by decide +kernel
theorem dX5_tear_7 : decode cX5_tear 7 = .ok (.iconst 1, 1) := by decide +kernel
theorem dX5_tear_8 : decode cX5_tear 8 = .ok (.goto 4, 3) := by decide +kernel
theorem dX5_tear_11 : decode cX5_tear 11 = .ok (.iconst 0, 1) := by decide +kernel
theorem dX5_tear_12 : decode cX5_tear 12 = .ok (.istore_n 1, 1) := by decide +kernel
theorem dX5_tear_13 : decode cX5_tear 13 = .ok (.aload_n 0, 1) := by decide +kernel
theorem dX5_tear_14 : decode cX5_tear 14 = .ok (.iconst 0, 1) := by decide +kernel
theorem dX5_tear_15 : decode cX5_tear 15 = .ok (.putfield 342, 3) := by decide +kernel
theorem dX5_tear_18 : decode cX5_tear 18 = .ok (.iload_n 1, 1) := by decide +kernel
theorem dX5_tear_19 : decode cX5_tear 19 = .ok (.ireturn, 1) := by decide +kernel
theorem dX5_count_0 : decode cX5_count 0 = .ok (.iconst 0, 1) := by decide +kernel
theorem dX5_count_1 : decode cX5_count 1 = .ok (.istore_n 2, 1) := by decide +kernel
theorem dX5_count_2 : decode cX5_count 2 = .ok (.iload_n 1, 1) := by decide +kernel
theorem dX5_count_3 : decode cX5_count 3 = .ok (.tableswitch 128 0 7 #[45, 52, 59, 65, 72, 80, 85, 92], 45) := by decide +kernel
theorem dX5_count_48 : decode cX5_count 48 = .ok (.aload_n 0, 1) := by decide +kernel
theorem dX5_count_49 : decode cX5_count 49 = .ok (.getfield 9, 3) := by decide +kernel
theorem dX5_count_52 : decode cX5_count 52 = .ok (.iconst 0, 1) := by decide +kernel
theorem dX5_count_53 : decode cX5_count 53 = .ok (.iaload, 1) := by decide +kernel
theorem dX5_count_54 : decode cX5_count 54 = .ok (.ireturn, 1) := by decide +kernel
theorem dX5_count_55 : decode cX5_count 55 = .ok (.aload_n 0, 1) := by decide +kernel
theorem dX5_count_56 : decode cX5_count 56 = .ok (.getfield 9, 3) := by decide +kernel
theorem dX5_count_59 : decode cX5_count 59 = .ok (.iconst 1, 1) := by decide +kernel
theorem dX5_count_60 : decode cX5_count 60 = .ok (.iaload, 1) := by decide +kernel
theorem dX5_count_61 : decode cX5_count 61 = .ok (.ireturn, 1) := by decide +kernel
theorem dX5_count_62 : decode cX5_count 62 = .ok (.aload_n 0, 1) := by decide +kernel
theorem dX5_count_63 : decode cX5_count 63 = .ok (.iconst 5, 1) := by decide +kernel
theorem dX5_count_64 : decode cX5_count 64 = .ok (.invokevirtual 166, 3) := by decide +kernel
theorem dX5_count_67 : decode cX5_count 67 = .ok (.ireturn, 1) := by decide +kernel
theorem dX5_count_68 : decode cX5_count 68 = .ok (.aload_n 0, 1) := by decide +kernel
theorem dX5_count_69 : decode cX5_count 69 = .ok (.bipush 6, 2) := by decide +kernel
theorem dX5_count_71 : decode cX5_count 71 = .ok (.invokevirtual 166, 3) := by decide +kernel
theorem dX5_count_74 : decode cX5_count 74 = .ok (.ireturn, 1) := by decide +kernel
theorem dX5_count_75 : decode cX5_count 75 = .ok (.aload_n 0, 1) := by decide +kernel
theorem dX5_count_76 : decode cX5_count 76 = .ok (.getfield 9, 3) := by decide +kernel
theorem dX5_count_79 : decode cX5_count 79 = .ok (.bipush 6, 2) := by decide +kernel
theorem dX5_count_81 : decode cX5_count 81 = .ok (.iaload, 1) := by decide +kernel
theorem dX5_count_82 : decode cX5_count 82 = .ok (.ireturn, 1) := by decide +kernel
theorem dX5_count_83 : decode cX5_count 83 = .ok (.aload_n 0, 1) := by decide +kernel
theorem dX5_count_84 : decode cX5_count 84 = .ok (.getfield 238, 3) := by decide +kernel
theorem dX5_count_87 : decode cX5_count 87 = .ok (.ireturn, 1) := by decide +kernel
theorem dX5_count_88 : decode cX5_count 88 = .ok (.aload_n 0, 1) := by decide +kernel
theorem dX5_count_89 : decode cX5_count 89 = .ok (.getfield 9, 3) := by decide +kernel
theorem dX5_count_92 : decode cX5_count 92 = .ok (.iconst 2, 1) := by decide +kernel
theorem dX5_count_93 : decode cX5_count 93 = .ok (.iaload, 1) := by decide +kernel
theorem dX5_count_94 : decode cX5_count 94 = .ok (.ireturn, 1) := by decide +kernel
theorem dX5_count_95 : decode cX5_count 95 = .ok (.iconst 0, 1) := by decide +kernel
theorem dX5_count_96 : decode cX5_count 96 = .ok (.istore_n 3, 1) := by decide +kernel
theorem dX5_count_97 : decode cX5_count 97 = .ok (.iload_n 3, 1) := by decide +kernel
theorem dX5_count_98 : decode cX5_count 98 = .ok (.bipush 10, 2) := by decide +kernel
theorem dX5_count_100 : decode cX5_count 100 = .ok (.if_icmp .ge 29, 3) := by decide +kernel
theorem dX5_count_103 : decode cX5_count 103 = .ok (.iload_n 2, 1) := by decide +kernel
theorem dX5_count_104 : decode cX5_count 104 = .ok (.aload_n 0, 1) := by decide +kernel
theorem dX5_count_105 : decode cX5_count 105 = .ok (.getfield 9, 3) := by decide +kernel
theorem dX5_count_108 : decode cX5_count 108 = .ok (.bipush 7, 2) := by decide +kernel
theorem dX5_count_110 : decode cX5_count 110 = .ok (.iload_n 3, 1) := by decide +kernel
theorem dX5_count_111 : decode cX5_count 111 = .ok (.iadd, 1) := by decide +kernel
theorem dX5_count_112 : decode cX5_count 112 = .ok (.iaload, 1) := by decide +kernel
theorem dX5_count_113 : decode cX5_count 113 = .ok (.ifCond .ge 7, 3) := by decide +kernel
theorem dX5_count_116 : decode cX5_count 116 = .ok (.iconst 0, 1) := by decide +kernel
theorem dX5_count_117 : decode cX5_count 117 = .ok (.goto 4, 3) := by decide +kernel
theorem dX5_count_120 : decode cX5_count 120 = .ok (.iconst 1, 1) := by decide +kernel
theorem dX5_count_121 : decode cX5_count 121 = .ok (.iadd, 1) := by decide +kernel
theorem dX5_count_122 : decode cX5_count 122 = .ok (.istore_n 2, 1) := by decide +kernel
theorem dX5_count_123 : decode cX5_count 123 = .ok (.iinc 3 1, 3) := by decide +kernel
theorem dX5_count_126 : decode cX5_count 126 = .ok (.goto (-29), 3) := by decide +kernel
theorem dX5_count_129 : decode cX5_count 129 = .ok (.iload_n 2, 1) := by decide +kernel
theorem dX5_count_130 : decode cX5_count 130 = .ok (.ireturn, 1) := by decide +kernel
theorem dX5_count_131 : decode cX5_count 131 = .ok (.aload_n 0, 1) := by decide +kernel
theorem dX5_count_132 : decode cX5_count 132 = .ok (.ldc 60, 2) := by decide +kernel
theorem dX5_count_134 : decode cX5_count 134 = .ok (.invokevirtual 66, 3) := by decide +kernel
theorem dX5_count_137 : decode cX5_count 137 = .ok (.ireturn, 1) := by decide +kernel
theorem dX5_status_0 : decode cX5_status 0 = .ok (.iload_n 1, 1) := by decide +kernel
theorem dX5_status_1 : decode cX5_status 1 = .ok (.iconst (-1), 1) := by decide +kernel
theorem dX5_status_2 : decode cX5_status 2 = .ok (.bipush 6, 2) := by decide +kernel
theorem dX5_status_4 : decode cX5_status 4 = .ok (.invokestatic 70, 3) := by decide +kernel
theorem dX5_status_7 : decode cX5_status 7 = .ok (.ifCond .eq 14, 3) := by decide +kernel
theorem dX5_status_10 : decode cX5_status 10 = .ok (.aload_n 0, 1) := by decide +kernel
theorem dX5_status_11 : decode cX5_status 11 = .ok (.getfield 19, 3) := by decide +kernel
theorem dX5_status_14 : decode cX5_status 14 = .ok (.iload_n 1, 1) := by decide +kernel
theorem dX5_status_15 : decode cX5_status 15 = .ok (.iconst 1, 1) := by decide +kernel
theorem dX5_status_16 : decode cX5_status 16 = .ok (.iadd, 1) := by decide +kernel
theorem dX5_status_17 : decode cX5_status 17 = .ok (.iaload, 1) := by decide +kernel
theorem dX5_status_18 : decode cX5_status 18 = .ok (.goto 9, 3) := by decide +kernel
theorem dX5_status_21 : decode cX5_status 21 = .ok (.aload_n 0, 1) := by decide +kernel
theorem dX5_status_22 : decode cX5_status 22 = .ok (.ldc 60, 2) := by decide +kernel
theorem dX5_status_24 : decode cX5_status 24 = .ok (.invokevirtual 66, 3) := by decide +kernel
theorem dX5_status_27 : decode cX5_status 27 = .ok (.ireturn, 1) := by decide +kernel
theorem dJ6_bitCount_0f7a4_0 : decode cJ6_bitCount_0f7a4 0 = .ok (.iload_n 0, 1) := by decide +kernel
theorem dJ6_bitCount_0f7a4_1 : decode cJ6_bitCount_0f7a4 1 = .ok (.iload_n 0, 1) := by decide +kernel
theorem dJ6_bitCount_0f7a4_2 : decode cJ6_bitCount_0f7a4 2 = .ok (.iconst 1, 1) := by decide +kernel
theorem dJ6_bitCount_0f7a4_3 : decode cJ6_bitCount_0f7a4 3 = .ok (.iushr, 1) := by decide +kernel
theorem dJ6_bitCount_0f7a4_4 : decode cJ6_bitCount_0f7a4 4 = .ok (.ldc_w 265, 3) := by decide +kernel
theorem dJ6_bitCount_0f7a4_7 : decode cJ6_bitCount_0f7a4 7 = .ok (.iand, 1) := by decide +kernel
theorem dJ6_bitCount_0f7a4_8 : decode cJ6_bitCount_0f7a4 8 = .ok (.isub, 1) := by decide +kernel
theorem dJ6_bitCount_0f7a4_9 : decode cJ6_bitCount_0f7a4 9 = .ok (.istore_n 0, 1) := by decide +kernel
theorem dJ6_bitCount_0f7a4_10 : decode cJ6_bitCount_0f7a4 10 = .ok (.iload_n 0, 1) := by decide +kernel
theorem dJ6_bitCount_0f7a4_11 : decode cJ6_bitCount_0f7a4 11 = .ok (.ldc_w 266, 3) := by decide +kernel
theorem dJ6_bitCount_0f7a4_14 : decode cJ6_bitCount_0f7a4 14 = .ok (.iand, 1) := by decide +kernel
theorem dJ6_bitCount_0f7a4_15 : decode cJ6_bitCount_0f7a4 15 = .ok (.iload_n 0, 1) := by decide +kernel
theorem dJ6_bitCount_0f7a4_16 : decode cJ6_bitCount_0f7a4 16 = .ok (.iconst 2, 1) := by decide +kernel
theorem dJ6_bitCount_0f7a4_17 : decode cJ6_bitCount_0f7a4 17 = .ok (.iushr, 1) := by decide +kernel
theorem dJ6_bitCount_0f7a4_18 : decode cJ6_bitCount_0f7a4 18 = .ok (.ldc_w 266, 3) := by decide +kernel
theorem dJ6_bitCount_0f7a4_21 : decode cJ6_bitCount_0f7a4 21 = .ok (.iand, 1) := by decide +kernel
theorem dJ6_bitCount_0f7a4_22 : decode cJ6_bitCount_0f7a4 22 = .ok (.iadd, 1) := by decide +kernel
theorem dJ6_bitCount_0f7a4_23 : decode cJ6_bitCount_0f7a4 23 = .ok (.istore_n 0, 1) := by decide +kernel
theorem dJ6_bitCount_0f7a4_24 : decode cJ6_bitCount_0f7a4 24 = .ok (.iload_n 0, 1) := by decide +kernel
theorem dJ6_bitCount_0f7a4_25 : decode cJ6_bitCount_0f7a4 25 = .ok (.iload_n 0, 1) := by decide +kernel
theorem dJ6_bitCount_0f7a4_26 : decode cJ6_bitCount_0f7a4 26 = .ok (.iconst 4, 1) := by decide +kernel
theorem dJ6_bitCount_0f7a4_27 : decode cJ6_bitCount_0f7a4 27 = .ok (.iushr, 1) := by decide +kernel
theorem dJ6_bitCount_0f7a4_28 : decode cJ6_bitCount_0f7a4 28 = .ok (.iadd, 1) := by decide +kernel
theorem dJ6_bitCount_0f7a4_29 : decode cJ6_bitCount_0f7a4 29 = .ok (.ldc_w 267, 3) := by decide +kernel
theorem dJ6_bitCount_0f7a4_32 : decode cJ6_bitCount_0f7a4 32 = .ok (.iand, 1) := by decide +kernel
theorem dJ6_bitCount_0f7a4_33 : decode cJ6_bitCount_0f7a4 33 = .ok (.istore_n 0, 1) := by decide +kernel
theorem dJ6_bitCount_0f7a4_34 : decode cJ6_bitCount_0f7a4 34 = .ok (.iload_n 0, 1) := by decide +kernel
theorem dJ6_bitCount_0f7a4_35 : decode cJ6_bitCount_0f7a4 35 = .ok (.iload_n 0, 1) := by decide +kernel
theorem dJ6_bitCount_0f7a4_36 : decode cJ6_bitCount_0f7a4 36 = .ok (.bipush 8, 2) := by decide +kernel
theorem dJ6_bitCount_0f7a4_38 : decode cJ6_bitCount_0f7a4 38 = .ok (.iushr, 1) := by decide +kernel
theorem dJ6_bitCount_0f7a4_39 : decode cJ6_bitCount_0f7a4 39 = .ok (.iadd, 1) := by decide +kernel
theorem dJ6_bitCount_0f7a4_40 : decode cJ6_bitCount_0f7a4 40 = .ok (.istore_n 0, 1) := by decide +kernel
theorem dJ6_bitCount_0f7a4_41 : decode cJ6_bitCount_0f7a4 41 = .ok (.iload_n 0, 1) := by decide +kernel
theorem dJ6_bitCount_0f7a4_42 : decode cJ6_bitCount_0f7a4 42 = .ok (.iload_n 0, 1) := by decide +kernel
theorem dJ6_bitCount_0f7a4_43 : decode cJ6_bitCount_0f7a4 43 = .ok (.bipush 16, 2) := by decide +kernel
theorem dJ6_bitCount_0f7a4_45 : decode cJ6_bitCount_0f7a4 45 = .ok (.iushr, 1) := by decide +kernel
theorem dJ6_bitCount_0f7a4_46 : decode cJ6_bitCount_0f7a4 46 = .ok (.iadd, 1) := by decide +kernel
theorem dJ6_bitCount_0f7a4_47 : decode cJ6_bitCount_0f7a4 47 = .ok (.istore_n 0, 1) := by decide +kernel
theorem dJ6_bitCount_0f7a4_48 : decode cJ6_bitCount_0f7a4 48 = .ok (.iload_n 0, 1) := by decide +kernel
theorem dJ6_bitCount_0f7a4_49 : decode cJ6_bitCount_0f7a4 49 = .ok (.bipush 63, 2) := by decide +kernel
theorem dJ6_bitCount_0f7a4_51 : decode cJ6_bitCount_0f7a4 51 = .ok (.iand, 1) := by decide +kernel
theorem dJ6_bitCount_0f7a4_52 : decode cJ6_bitCount_0f7a4 52 = .ok (.ireturn, 1) := by decide +kernel
theorem dJ9_abs_0f7a4_0 : decode cJ9_abs_0f7a4 0 = .ok (.iload_n 0, 1) := by decide +kernel
theorem dJ9_abs_0f7a4_1 : decode cJ9_abs_0f7a4 1 = .ok (.ifCond .ge 8, 3) := by decide +kernel
theorem dJ9_abs_0f7a4_4 : decode cJ9_abs_0f7a4 4 = .ok (.iload_n 0, 1) := by decide +kernel
theorem dJ9_abs_0f7a4_5 : decode cJ9_abs_0f7a4 5 = .ok (.ineg, 1) := by decide +kernel
theorem dJ9_abs_0f7a4_6 : decode cJ9_abs_0f7a4 6 = .ok (.goto 4, 3) := by decide +kernel
theorem dJ9_abs_0f7a4_9 : decode cJ9_abs_0f7a4 9 = .ok (.iload_n 0, 1) := by decide +kernel
theorem dJ9_abs_0f7a4_10 : decode cJ9_abs_0f7a4 10 = .ok (.ireturn, 1) := by decide +kernel
theorem dJ9_max_7cf53_0 : decode cJ9_max_7cf53 0 = .ok (.iload_n 0, 1) := by decide +kernel
theorem dJ9_max_7cf53_1 : decode cJ9_max_7cf53 1 = .ok (.iload_n 1, 1) := by decide +kernel
theorem dJ9_max_7cf53_2 : decode cJ9_max_7cf53 2 = .ok (.if_icmp .lt 7, 3) := by decide +kernel
theorem dJ9_max_7cf53_5 : decode cJ9_max_7cf53 5 = .ok (.iload_n 0, 1) := by decide +kernel
theorem dJ9_max_7cf53_6 : decode cJ9_max_7cf53 6 = .ok (.goto 4, 3) := by decide +kernel
theorem dJ9_max_7cf53_9 : decode cJ9_max_7cf53 9 = .ok (.iload_n 1, 1) := by decide +kernel
theorem dJ9_max_7cf53_10 : decode cJ9_max_7cf53 10 = .ok (.ireturn, 1) := by decide +kernel
theorem dJ9_min_7cf53_0 : decode cJ9_min_7cf53 0 = .ok (.iload_n 0, 1) := by decide +kernel
theorem dJ9_min_7cf53_1 : decode cJ9_min_7cf53 1 = .ok (.iload_n 1, 1) := by decide +kernel
theorem dJ9_min_7cf53_2 : decode cJ9_min_7cf53 2 = .ok (.if_icmp .gt 7, 3) := by decide +kernel
theorem dJ9_min_7cf53_5 : decode cJ9_min_7cf53 5 = .ok (.iload_n 0, 1) := by decide +kernel
theorem dJ9_min_7cf53_6 : decode cJ9_min_7cf53 6 = .ok (.goto 4, 3) := by decide +kernel
theorem dJ9_min_7cf53_9 : decode cJ9_min_7cf53 9 = .ok (.iload_n 1, 1) := by decide +kernel
theorem dJ9_min_7cf53_10 : decode cJ9_min_7cf53 10 = .ok (.ireturn, 1) := by decide +kernel
theorem dJ0_length_8abf5_0 : decode cJ0_length_8abf5 0 = .ok (.aload_n 0, 1) := by decide +kernel
theorem dJ0_length_8abf5_1 : decode cJ0_length_8abf5 1 = .ok (.getfield 9, 3) := by decide +kernel
theorem dJ0_length_8abf5_4 : decode cJ0_length_8abf5 4 = .ok (.arraylength, 1) := by decide +kernel
theorem dJ0_length_8abf5_5 : decode cJ0_length_8abf5 5 = .ok (.aload_n 0, 1) := by decide +kernel
theorem dJ0_length_8abf5_6 : decode cJ0_length_8abf5 6 = .ok (.invokevirtual 335, 3) := by decide +kernel
theorem dJ0_length_8abf5_9 : decode cJ0_length_8abf5 9 = .ok (.ishr, 1) := by decide +kernel
theorem dJ0_length_8abf5_10 : decode cJ0_length_8abf5 10 = .ok (.ireturn, 1) := by decide +kernel
theorem dJ0_charAt_5068e_0 : decode cJ0_charAt_5068e 0 = .ok (.aload_n 0, 1) := by decide +kernel
theorem dJ0_charAt_5068e_1 : decode cJ0_charAt_5068e 1 = .ok (.invokevirtual 492, 3) := by decide +kernel
theorem dJ0_charAt_5068e_4 : decode cJ0_charAt_5068e 4 = .ok (.ifCond .eq 12, 3) := by decide +kernel
theorem dJ0_charAt_5068e_7 : decode cJ0_charAt_5068e 7 = .ok (.aload_n 0, 1) := by decide +kernel
theorem dJ0_charAt_5068e_8 : decode cJ0_charAt_5068e 8 = .ok (.getfield 9, 3) := by decide +kernel
theorem dJ0_charAt_5068e_11 : decode cJ0_charAt_5068e 11 = .ok (.iload_n 1, 1) := by decide +kernel
theorem dJ0_charAt_5068e_12 : decode cJ0_charAt_5068e 12 = .ok (.invokestatic 495, 3) := by decide +kernel
theorem dJ0_charAt_5068e_15 : decode cJ0_charAt_5068e 15 = .ok (.ireturn, 1) := by decide +kernel
theorem dJ0_charAt_5068e_16 : decode cJ0_charAt_5068e 16 = .ok (.aload_n 0, 1) := by decide +kernel
theorem dJ0_charAt_5068e_17 : decode cJ0_charAt_5068e 17 = .ok (.getfield 9, 3) := by decide +kernel
theorem dJ0_charAt_5068e_20 : decode cJ0_charAt_5068e 20 = .ok (.iload_n 1, 1) := by decide +kernel
theorem dJ0_charAt_5068e_21 : decode cJ0_charAt_5068e 21 = .ok (.invokestatic 498, 3) := by decide +kernel
theorem dJ0_charAt_5068e_24 : decode cJ0_charAt_5068e 24 = .ok (.ireturn, 1) := by decide +kernel
theorem dJ0_coder_7d493_0 : decode cJ0_coder_7d493 0 = .ok (.getstatic 38, 3) := by decide +kernel
theorem dJ0_coder_7d493_3 : decode cJ0_coder_7d493 3 = .ok (.ifCond .eq 10, 3) := by decide +kernel
theorem dJ0_coder_7d493_6 : decode cJ0_coder_7d493 6 = .ok (.aload_n 0, 1) := by decide +kernel
theorem dJ0_coder_7d493_7 : decode cJ0_coder_7d493 7 = .ok (.getfield 15, 3) := by decide +kernel
theorem dJ0_coder_7d493_10 : decode cJ0_coder_7d493 10 = .ok (.goto 4, 3) := by decide +kernel
theorem dJ0_coder_7d493_13 : decode cJ0_coder_7d493 13 = .ok (.iconst 1, 1) := by decide +kernel
theorem dJ0_coder_7d493_14 : decode cJ0_coder_7d493 14 = .ok (.ireturn, 1) := by decide +kernel
theorem dJ0_isLatin1_aae02_0 : decode cJ0_isLatin1_aae02 0 = .ok (.getstatic 38, 3) := by decide +kernel
theorem dJ0_isLatin1_aae02_3 : decode cJ0_isLatin1_aae02 3 = .ok (.ifCond .eq 14, 3) := by decide +kernel
theorem dJ0_isLatin1_aae02_6 : decode cJ0_isLatin1_aae02 6 = .ok (.aload_n 0, 1) := by decide +kernel
theorem dJ0_isLatin1_aae02_7 : decode cJ0_isLatin1_aae02 7 = .ok (.getfield 15, 3) := by decide +kernel
theorem dJ0_isLatin1_aae02_10 : decode cJ0_isLatin1_aae02 10 = .ok (.ifCond .ne 7, 3) := by decide +kernel
theorem dJ0_isLatin1_aae02_13 : decode cJ0_isLatin1_aae02 13 = .ok (.iconst 1, 1) := by decide +kernel
theorem dJ0_isLatin1_aae02_14 : decode cJ0_isLatin1_aae02 14 = .ok (.goto 4, 3) := by decide +kernel
theorem dJ0_isLatin1_aae02_17 : decode cJ0_isLatin1_aae02 17 = .ok (.iconst 0, 1) := by decide +kernel
theorem dJ0_isLatin1_aae02_18 : decode cJ0_isLatin1_aae02 18 = .ok (.ireturn, 1) := by decide +kernel
theorem dJ0_checkIndex_df160_0 : decode cJ0_checkIndex_df160 0 = .ok (.iload_n 0, 1) := by decide +kernel
theorem dJ0_checkIndex_df160_1 : decode cJ0_checkIndex_df160 1 = .ok (.iload_n 1, 1) := by decide +kernel
theorem dJ0_checkIndex_df160_2 : decode cJ0_checkIndex_df160 2 = .ok (.getstatic 1053, 3) := by decide +kernel
theorem dJ0_checkIndex_df160_5 : decode cJ0_checkIndex_df160 5 = .ok (.invokestatic 1059, 3) := by decide +kernel
theorem dJ0_checkIndex_df160_8 : decode cJ0_checkIndex_df160 8 = .ok (.pop, 1) := by decide +kernel
theorem dJ0_checkIndex_df160_9 : decode cJ0_checkIndex_df160 9 = .ok (.return_, 1) := by decide +kernel
theorem dJ1_charAt_3b067_0 : decode cJ1_charAt_3b067 0 = .ok (.iload_n 1, 1) := by decide +kernel
theorem dJ1_charAt_3b067_1 : decode cJ1_charAt_3b067 1 = .ok (.aload_n 0, 1) := by decide +kernel
theorem dJ1_charAt_3b067_2 : decode cJ1_charAt_3b067 2 = .ok (.arraylength, 1) := by decide +kernel
theorem dJ1_charAt_3b067_3 : decode cJ1_charAt_3b067 3 = .ok (.invokestatic 9, 3) := by decide +kernel
theorem dJ1_charAt_3b067_6 : decode cJ1_charAt_3b067 6 = .ok (.aload_n 0, 1) := by decide +kernel
theorem dJ1_charAt_3b067_7 : decode cJ1_charAt_3b067 7 = .ok (.iload_n 1, 1) := by decide +kernel
theorem dJ1_charAt_3b067_8 : decode cJ1_charAt_3b067 8 = .ok (.baload, 1) := by decide +kernel
theorem dJ1_charAt_3b067_9 : decode cJ1_charAt_3b067 9 = .ok (.sipush 255, 3) := by decide +kernel
theorem dJ1_charAt_3b067_12 : decode cJ1_charAt_3b067 12 = .ok (.iand, 1) := by decide +kernel
theorem dJ1_charAt_3b067_13 : decode cJ1_charAt_3b067 13 = .ok (.i2c, 1) := by decide +kernel
theorem dJ1_charAt_3b067_14 : decode cJ1_charAt_3b067 14 = .ok (.ireturn, 1) := by decide +kernel
theorem dJ2_getChar_3b067_0 : decode cJ2_getChar_3b067 0 = .ok (.getstatic 44, 3) := by decide +kernel
theorem dJ2_getChar_3b067_3 : decode cJ2_getChar_3b067 3 = .ok (.ifCond .ne 25, 3) := by decide +kernel
theorem dJ2_getChar_3b067_6 : decode cJ2_getChar_3b067 6 = .ok (.iload_n 1, 1) := by decide +kernel
theorem dJ2_getChar_3b067_7 : decode cJ2_getChar_3b067 7 = .ok (.ifCond .lt 11, 3) := by decide +kernel
theorem dJ2_getChar_3b067_10 : decode cJ2_getChar_3b067 10 = .ok (.iload_n 1, 1) := by decide +kernel
theorem dJ2_getChar_3b067_11 : decode cJ2_getChar_3b067 11 = .ok (.aload_n 0, 1) := by decide +kernel
theorem dJ2_getChar_3b067_12 : decode cJ2_getChar_3b067 12 = .ok (.invokestatic 48, 3) := by decide +kernel
theorem dJ2_getChar_3b067_15 : decode cJ2_getChar_3b067 15 = .ok (.if_icmp .lt 13, 3) := by decide +kernel
theorem dJ2_getChar_3b067_18 : decode cJ2_getChar_3b067 18 = .ok (.new 52, 3) := by decide +kernel
theorem dJ2_getChar_3b067_21 : decode cJ2_getChar_3b067 21 = .ok (.dup, 1) := by decide +kernel
theorem dJ2_getChar_3b067_22 : decode cJ2_getChar_3b067 22 = .ok (.ldc 54, 2) := by decide +kernel
theorem dJ2_getChar_3b067_24 : decode cJ2_getChar_3b067 24 = .ok (.invokespecial 56, 3) := by decide +kernel
theorem dJ2_getChar_3b067_27 : decode cJ2_getChar_3b067 27 = .ok (.athrow, 1) := by decide +kernel
theorem dJ2_getChar_3b067_28 : decode cJ2_getChar_3b067 28 = .ok (.iload_n 1, 1) := by decide +kernel
theorem dJ2_getChar_3b067_29 : decode cJ2_getChar_3b067 29 = .ok (.iconst 1, 1) := by decide +kernel
theorem dJ2_getChar_3b067_30 : decode cJ2_getChar_3b067 30 = .ok (.ishl, 1) := by decide +kernel
theorem dJ2_getChar_3b067_31 : decode cJ2_getChar_3b067 31 = .ok (.istore_n 1, 1) := by decide +kernel
theorem dJ2_getChar_3b067_32 : decode cJ2_getChar_3b067 32 = .ok (.aload_n 0, 1) := by decide +kernel
theorem dJ2_getChar_3b067_33 : decode cJ2_getChar_3b067 33 = .ok (.iload_n 1, 1) := by decide +kernel
theorem dJ2_getChar_3b067_34 : decode cJ2_getChar_3b067 34 = .ok (.iinc 1 1, 3) := by decide +kernel
theorem dJ2_getChar_3b067_37 : decode cJ2_getChar_3b067 37 = .ok (.baload, 1) := by decide +kernel
theorem dJ2_getChar_3b067_38 : decode cJ2_getChar_3b067 38 = .ok (.sipush 255, 3) := by decide +kernel
theorem dJ2_getChar_3b067_41 : decode cJ2_getChar_3b067 41 = .ok (.iand, 1) := by decide +kernel
theorem dJ2_getChar_3b067_42 : decode cJ2_getChar_3b067 42 = .ok (.getstatic 59, 3) := by decide +kernel
theorem dJ2_getChar_3b067_45 : decode cJ2_getChar_3b067 45 = .ok (.ishl, 1) := by decide +kernel
theorem dJ2_getChar_3b067_46 : decode cJ2_getChar_3b067 46 = .ok (.aload_n 0, 1) := by decide +kernel
theorem dJ2_getChar_3b067_47 : decode cJ2_getChar_3b067 47 = .ok (.iload_n 1, 1) := by decide +kernel
theorem dJ2_getChar_3b067_48 : decode cJ2_getChar_3b067 48 = .ok (.baload, 1) := by decide +kernel
theorem dJ2_getChar_3b067_49 : decode cJ2_getChar_3b067 49 = .ok (.sipush 255, 3) := by decide +kernel
theorem dJ2_getChar_3b067_52 : decode cJ2_getChar_3b067 52 = .ok (.iand, 1) := by decide +kernel
theorem dJ2_getChar_3b067_53 : decode cJ2_getChar_3b067 53 = .ok (.getstatic 63, 3) := by decide +kernel
theorem dJ2_getChar_3b067_56 : decode cJ2_getChar_3b067 56 = .ok (.ishl, 1) := by decide +kernel
theorem dJ2_getChar_3b067_57 : decode cJ2_getChar_3b067 57 = .ok (.ior, 1) := by decide +kernel
theorem dJ2_getChar_3b067_58 : decode cJ2_getChar_3b067 58 = .ok (.i2c, 1) := by decide +kernel
theorem dJ2_getChar_3b067_59 : decode cJ2_getChar_3b067 59 = .ok (.ireturn, 1) := by decide +kernel
theorem dJ2_length_9d52b_0 : decode cJ2_length_9d52b 0 = .ok (.aload_n 0, 1) := by decide +kernel
theorem dJ2_length_9d52b_1 : decode cJ2_length_9d52b 1 = .ok (.arraylength, 1) := by decide +kernel
theorem dJ2_length_9d52b_2 : decode cJ2_length_9d52b 2 = .ok (.iconst 1, 1) := by decide +kernel
theorem dJ2_length_9d52b_3 : decode cJ2_length_9d52b 3 = .ok (.ishr, 1) := by decide +kernel
theorem dJ2_length_9d52b_4 : decode cJ2_length_9d52b 4 = .ok (.ireturn, 1) := by decide +kernel
theorem dJ2_charAt_3b067_0 : decode cJ2_charAt_3b067 0 = .ok (.iload_n 1, 1) := by decide +kernel
theorem dJ2_charAt_3b067_1 : decode cJ2_charAt_3b067 1 = .ok (.aload_n 0, 1) := by decide +kernel
theorem dJ2_charAt_3b067_2 : decode cJ2_charAt_3b067 2 = .ok (.invokestatic 67, 3) := by decide +kernel
theorem dJ2_charAt_3b067_5 : decode cJ2_charAt_3b067 5 = .ok (.aload_n 0, 1) := by decide +kernel
theorem dJ2_charAt_3b067_6 : decode cJ2_charAt_3b067 6 = .ok (.iload_n 1, 1) := by decide +kernel
theorem dJ2_charAt_3b067_7 : decode cJ2_charAt_3b067 7 = .ok (.invokestatic 71, 3) := by decide +kernel
theorem dJ2_charAt_3b067_10 : decode cJ2_charAt_3b067 10 = .ok (.ireturn, 1) := by decide +kernel
theorem dJ2_checkIndex_2214a_0 : decode cJ2_checkIndex_2214a 0 = .ok (.iload_n 0, 1) := by decide +kernel
theorem dJ2_checkIndex_2214a_1 : decode cJ2_checkIndex_2214a 1 = .ok (.aload_n 1, 1) := by decide +kernel
theorem dJ2_checkIndex_2214a_2 : decode cJ2_checkIndex_2214a 2 = .ok (.invokestatic 48, 3) := by decide +kernel
theorem dJ2_checkIndex_2214a_5 : decode cJ2_checkIndex_2214a 5 = .ok (.invokestatic 414, 3) := by decide +kernel
theorem dJ2_checkIndex_2214a_8 : decode cJ2_checkIndex_2214a 8 = .ok (.return_, 1) := by decide +kernel
theorem dJ3_checkIndex_8e157_0 : decode cJ3_checkIndex_8e157 0 = .ok (.iload_n 0, 1) := by decide +kernel
theorem dJ3_checkIndex_8e157_1 : decode cJ3_checkIndex_8e157 1 = .ok (.ifCond .lt 8, 3) := by decide +kernel
theorem dJ3_checkIndex_8e157_4 : decode cJ3_checkIndex_8e157 4 = .ok (.iload_n 0, 1) := by decide +kernel
theorem dJ3_checkIndex_8e157_5 : decode cJ3_checkIndex_8e157 5 = .ok (.iload_n 1, 1) := by decide +kernel
theorem dJ3_checkIndex_8e157_6 : decode cJ3_checkIndex_8e157 6 = .ok (.if_icmp .lt 10, 3) := by decide +kernel
theorem dJ3_checkIndex_8e157_9 : decode cJ3_checkIndex_8e157 9 = .ok (.aload_n 2, 1) := by decide +kernel
theorem dJ3_checkIndex_8e157_10 : decode cJ3_checkIndex_8e157 10 = .ok (.iload_n 0, 1) := by decide +kernel
theorem dJ3_checkIndex_8e157_11 : decode cJ3_checkIndex_8e157 11 = .ok (.iload_n 1, 1) := by decide +kernel
theorem dJ3_checkIndex_8e157_12 : decode cJ3_checkIndex_8e157 12 = .ok (.invokestatic 95, 3) := by decide +kernel
theorem dJ3_checkIndex_8e157_15 : decode cJ3_checkIndex_8e157 15 = .ok (.athrow, 1) := by decide +kernel
theorem dJ3_checkIndex_8e157_16 : decode cJ3_checkIndex_8e157 16 = .ok (.iload_n 0, 1) := by decide +kernel
theorem dJ3_checkIndex_8e157_17 : decode cJ3_checkIndex_8e157 17 = .ok (.ireturn, 1) := by decide +kernel
set_option maxRecDepth 20000 in
theorem dL_law_0 : decode cL_law 0 = .ok (.new 7, 3) := by decide +kernel
set_option maxRecDepth 20000 in
theorem dL_law_3 : decode cL_law 3 = .ok (.dup, 1) := by decide +kernel
set_option maxRecDepth 20000 in
theorem dL_law_4 : decode cL_law 4 = .ok (.invokespecial 9, 3) := by decide +kernel
set_option maxRecDepth 20000 in
theorem dL_law_7 : decode cL_law 7 = .ok (.astore_n 1, 1) := by decide +kernel
set_option maxRecDepth 20000 in
theorem dL_law_8 : decode cL_law 8 = .ok (.new 10, 3) := by decide +kernel
set_option maxRecDepth 20000 in
theorem dL_law_11 : decode cL_law 11 = .ok (.dup, 1) := by decide +kernel
set_option maxRecDepth 20000 in
theorem dL_law_12 : decode cL_law 12 = .ok (.invokespecial 12, 3) := by decide +kernel
set_option maxRecDepth 20000 in
theorem dL_law_15 : decode cL_law 15 = .ok (.astore_n 2, 1) := by decide +kernel
set_option maxRecDepth 20000 in
theorem dL_law_16 : decode cL_law 16 = .ok (.iconst 0, 1) := by decide +kernel
set_option maxRecDepth 20000 in
theorem dL_law_17 : decode cL_law 17 = .ok (.istore_n 3, 1) := by decide +kernel
set_option maxRecDepth 20000 in
theorem dL_law_18 : decode cL_law 18 = .ok (.iload_n 3, 1) := by decide +kernel
set_option maxRecDepth 20000 in
theorem dL_law_19 : decode cL_law 19 = .ok (.aload_n 0, 1) := by decide +kernel
set_option maxRecDepth 20000 in
theorem dL_law_20 : decode cL_law 20 = .ok (.arraylength, 1) := by decide +kernel
set_option maxRecDepth 20000 in
theorem dL_law_21 : decode cL_law 21 = .ok (.bipush 6, 2) := by decide +kernel
set_option maxRecDepth 20000 in
theorem dL_law_23 : decode cL_law 23 = .ok (.isub, 1) := by decide +kernel
set_option maxRecDepth 20000 in
theorem dL_law_24 : decode cL_law 24 = .ok (.if_icmp .gt 1499, 3) := by decide +kernel
set_option maxRecDepth 20000 in
theorem dL_law_27 : decode cL_law 27 = .ok (.aload_n 0, 1) := by decide +kernel
set_option maxRecDepth 20000 in
theorem dL_law_28 : decode cL_law 28 = .ok (.iload_n 3, 1) := by decide +kernel
set_option maxRecDepth 20000 in
theorem dL_law_29 : decode cL_law 29 = .ok (.iaload, 1) := by decide +kernel
set_option maxRecDepth 20000 in
theorem dL_law_30 : decode cL_law 30 = .ok (.bipush 63, 2) := by decide +kernel
set_option maxRecDepth 20000 in
theorem dL_law_32 : decode cL_law 32 = .ok (.iand, 1) := by decide +kernel
set_option maxRecDepth 20000 in
theorem dL_law_33 : decode cL_law 33 = .ok (.tableswitch 1484 0 43 #[191, 224, 247, 280, 303, 336, 369, 412, 445, 468, 491, 514, 557, 590, 623, 646, 659, 682, 715, 748, 781, 814, 837, 880, 913, 946, 979, 1002, 1056, 1079, 1112, 1125, 1138, 1171, 1204, 1247, 1290, 1353, 1376, 1399, 1412, 1425, 1438, 1461], 191) := by decide +kernel
set_option maxRecDepth 20000 in
theorem dL_law_224 : decode cL_law 224 = .ok (.aload_n 1, 1) := by decide +kernel
set_option maxRecDepth 20000 in
theorem dL_law_225 : decode cL_law 225 = .ok (.aload_n 0, 1) := by decide +kernel
set_option maxRecDepth 20000 in
theorem dL_law_226 : decode cL_law 226 = .ok (.iload_n 3, 1) := by decide +kernel
set_option maxRecDepth 20000 in
theorem dL_law_227 : decode cL_law 227 = .ok (.iconst 1, 1) := by decide +kernel
set_option maxRecDepth 20000 in
theorem dL_law_228 : decode cL_law 228 = .ok (.iadd, 1) := by decide +kernel
set_option maxRecDepth 20000 in
theorem dL_law_229 : decode cL_law 229 = .ok (.iaload, 1) := by decide +kernel
set_option maxRecDepth 20000 in
theorem dL_law_230 : decode cL_law 230 = .ok (.aload_n 0, 1) := by decide +kernel
set_option maxRecDepth 20000 in
theorem dL_law_231 : decode cL_law 231 = .ok (.iload_n 3, 1) := by decide +kernel
set_option maxRecDepth 20000 in
theorem dL_law_232 : decode cL_law 232 = .ok (.iconst 2, 1) := by decide +kernel
set_option maxRecDepth 20000 in
theorem dL_law_233 : decode cL_law 233 = .ok (.iadd, 1) := by decide +kernel
set_option maxRecDepth 20000 in
theorem dL_law_234 : decode cL_law 234 = .ok (.iaload, 1) := by decide +kernel
set_option maxRecDepth 20000 in
theorem dL_law_235 : decode cL_law 235 = .ok (.invokevirtual 13, 3) := by decide +kernel
set_option maxRecDepth 20000 in
theorem dL_law_238 : decode cL_law 238 = .ok (.aload_n 2, 1) := by decide +kernel
set_option maxRecDepth 20000 in
theorem dL_law_239 : decode cL_law 239 = .ok (.aload_n 0, 1) := by decide +kernel
set_option maxRecDepth 20000 in
theorem dL_law_240 : decode cL_law 240 = .ok (.iload_n 3, 1) := by decide +kernel
set_option maxRecDepth 20000 in
theorem dL_law_241 : decode cL_law 241 = .ok (.iconst 1, 1) := by decide +kernel
set_option maxRecDepth 20000 in
theorem dL_law_242 : decode cL_law 242 = .ok (.iadd, 1) := by decide +kernel
set_option maxRecDepth 20000 in
theorem dL_law_243 : decode cL_law 243 = .ok (.iaload, 1) := by decide +kernel
set_option maxRecDepth 20000 in
theorem dL_law_244 : decode cL_law 244 = .ok (.aload_n 0, 1) := by decide +kernel
set_option maxRecDepth 20000 in
theorem dL_law_245 : decode cL_law 245 = .ok (.iload_n 3, 1) := by decide +kernel
set_option maxRecDepth 20000 in
theorem dL_law_246 : decode cL_law 246 = .ok (.iconst 2, 1) := by decide +kernel
set_option maxRecDepth 20000 in
theorem dL_law_247 : decode cL_law 247 = .ok (.iadd, 1) := by decide +kernel
set_option maxRecDepth 20000 in
theorem dL_law_248 : decode cL_law 248 = .ok (.iaload, 1) := by decide +kernel
set_option maxRecDepth 20000 in
theorem dL_law_249 : decode cL_law 249 = .ok (.invokevirtual 17, 3) := by decide +kernel
set_option maxRecDepth 20000 in
theorem dL_law_252 : decode cL_law 252 = .ok (.if_icmp .eq 1265, 3) := by decide +kernel
set_option maxRecDepth 20000 in
theorem dL_law_255 : decode cL_law 255 = .ok (.iconst 0, 1) := by decide +kernel
set_option maxRecDepth 20000 in
theorem dL_law_256 : decode cL_law 256 = .ok (.ireturn, 1) := by decide +kernel
set_option maxRecDepth 20000 in
theorem dL_law_257 : decode cL_law 257 = .ok (.aload_n 1, 1) := by decide +kernel
set_option maxRecDepth 20000 in
theorem dL_law_258 : decode cL_law 258 = .ok (.aload_n 0, 1) := by decide +kernel
set_option maxRecDepth 20000 in
theorem dL_law_259 : decode cL_law 259 = .ok (.iload_n 3, 1) := by decide +kernel
set_option maxRecDepth 20000 in
theorem dL_law_260 : decode cL_law 260 = .ok (.iconst 1, 1) := by decide +kernel
set_option maxRecDepth 20000 in
theorem dL_law_261 : decode cL_law 261 = .ok (.iadd, 1) := by decide +kernel
set_option maxRecDepth 20000 in
theorem dL_law_262 : decode cL_law 262 = .ok (.iaload, 1) := by decide +kernel
set_option maxRecDepth 20000 in
theorem dL_law_263 : decode cL_law 263 = .ok (.invokevirtual 18, 3) := by decide +kernel
set_option maxRecDepth 20000 in
theorem dL_law_266 : decode cL_law 266 = .ok (.aload_n 2, 1) := by decide +kernel
set_option maxRecDepth 20000 in
theorem dL_law_267 : decode cL_law 267 = .ok (.aload_n 0, 1) := by decide +kernel
set_option maxRecDepth 20000 in
theorem dL_law_268 : decode cL_law 268 = .ok (.iload_n 3, 1) := by decide +kernel
set_option maxRecDepth 20000 in
theorem dL_law_269 : decode cL_law 269 = .ok (.iconst 1, 1) := by decide +kernel
set_option maxRecDepth 20000 in
theorem dL_law_270 : decode cL_law 270 = .ok (.iadd, 1) := by decide +kernel
set_option maxRecDepth 20000 in
theorem dL_law_271 : decode cL_law 271 = .ok (.iaload, 1) := by decide +kernel
set_option maxRecDepth 20000 in
theorem dL_law_272 : decode cL_law 272 = .ok (.invokevirtual 22, 3) := by decide +kernel
set_option maxRecDepth 20000 in
theorem dL_law_275 : decode cL_law 275 = .ok (.if_icmp .eq 1242, 3) := by decide +kernel
set_option maxRecDepth 20000 in
theorem dL_law_278 : decode cL_law 278 = .ok (.iconst 0, 1) := by decide +kernel
set_option maxRecDepth 20000 in
theorem dL_law_279 : decode cL_law 279 = .ok (.ireturn, 1) := by decide +kernel
set_option maxRecDepth 20000 in
theorem dL_law_280 : decode cL_law 280 = .ok (.aload_n 1, 1) := by decide +kernel
set_option maxRecDepth 20000 in
theorem dL_law_281 : decode cL_law 281 = .ok (.aload_n 0, 1) := by decide +kernel
set_option maxRecDepth 20000 in
theorem dL_law_282 : decode cL_law 282 = .ok (.iload_n 3, 1) := by decide +kernel
set_option maxRecDepth 20000 in
theorem dL_law_283 : decode cL_law 283 = .ok (.iconst 1, 1) := by decide +kernel
set_option maxRecDepth 20000 in
theorem dL_law_284 : decode cL_law 284 = .ok (.iadd, 1) := by decide +kernel
set_option maxRecDepth 20000 in
theorem dL_law_285 : decode cL_law 285 = .ok (.iaload, 1) := by decide +kernel
set_option maxRecDepth 20000 in
theorem dL_law_286 : decode cL_law 286 = .ok (.aload_n 0, 1) := by decide +kernel
set_option maxRecDepth 20000 in
theorem dL_law_287 : decode cL_law 287 = .ok (.iload_n 3, 1) := by decide +kernel
set_option maxRecDepth 20000 in
theorem dL_law_288 : decode cL_law 288 = .ok (.iconst 2, 1) := by decide +kernel
set_option maxRecDepth 20000 in
theorem dL_law_289 : decode cL_law 289 = .ok (.iadd, 1) := by decide +kernel
set_option maxRecDepth 20000 in
theorem dL_law_290 : decode cL_law 290 = .ok (.iaload, 1) := by decide +kernel
set_option maxRecDepth 20000 in
theorem dL_law_291 : decode cL_law 291 = .ok (.invokevirtual 23, 3) := by decide +kernel
set_option maxRecDepth 20000 in
theorem dL_law_294 : decode cL_law 294 = .ok (.aload_n 2, 1) := by decide +kernel
set_option maxRecDepth 20000 in
theorem dL_law_295 : decode cL_law 295 = .ok (.aload_n 0, 1) := by decide +kernel
set_option maxRecDepth 20000 in
theorem dL_law_296 : decode cL_law 296 = .ok (.iload_n 3, 1) := by decide +kernel
set_option maxRecDepth 20000 in
theorem dL_law_297 : decode cL_law 297 = .ok (.iconst 1, 1) := by decide +kernel
set_option maxRecDepth 20000 in
theorem dL_law_298 : decode cL_law 298 = .ok (.iadd, 1) := by decide +kernel
set_option maxRecDepth 20000 in
theorem dL_law_299 : decode cL_law 299 = .ok (.iaload, 1) := by decide +kernel
set_option maxRecDepth 20000 in
theorem dL_law_300 : decode cL_law 300 = .ok (.aload_n 0, 1) := by decide +kernel
set_option maxRecDepth 20000 in
theorem dL_law_301 : decode cL_law 301 = .ok (.iload_n 3, 1) := by decide +kernel
set_option maxRecDepth 20000 in
theorem dL_law_302 : decode cL_law 302 = .ok (.iconst 2, 1) := by decide +kernel
set_option maxRecDepth 20000 in
theorem dL_law_303 : decode cL_law 303 = .ok (.iadd, 1) := by decide +kernel
set_option maxRecDepth 20000 in
theorem dL_law_304 : decode cL_law 304 = .ok (.iaload, 1) := by decide +kernel
set_option maxRecDepth 20000 in
theorem dL_law_305 : decode cL_law 305 = .ok (.invokevirtual 26, 3) := by decide +kernel
set_option maxRecDepth 20000 in
theorem dL_law_308 : decode cL_law 308 = .ok (.if_icmp .eq 1209, 3) := by decide +kernel
set_option maxRecDepth 20000 in
theorem dL_law_311 : decode cL_law 311 = .ok (.iconst 0, 1) := by decide +kernel
set_option maxRecDepth 20000 in
theorem dL_law_312 : decode cL_law 312 = .ok (.ireturn, 1) := by decide +kernel
set_option maxRecDepth 20000 in
theorem dL_law_313 : decode cL_law 313 = .ok (.aload_n 1, 1) := by decide +kernel
set_option maxRecDepth 20000 in
theorem dL_law_314 : decode cL_law 314 = .ok (.aload_n 0, 1) := by decide +kernel
set_option maxRecDepth 20000 in
theorem dL_law_315 : decode cL_law 315 = .ok (.iload_n 3, 1) := by decide +kernel
set_option maxRecDepth 20000 in
theorem dL_law_316 : decode cL_law 316 = .ok (.iconst 1, 1) := by decide +kernel
set_option maxRecDepth 20000 in
theorem dL_law_317 : decode cL_law 317 = .ok (.iadd, 1) := by decide +kernel
set_option maxRecDepth 20000 in
theorem dL_law_318 : decode cL_law 318 = .ok (.iaload, 1) := by decide +kernel
set_option maxRecDepth 20000 in
theorem dL_law_319 : decode cL_law 319 = .ok (.invokevirtual 27, 3) := by decide +kernel
set_option maxRecDepth 20000 in
theorem dL_law_322 : decode cL_law 322 = .ok (.aload_n 2, 1) := by decide +kernel
set_option maxRecDepth 20000 in
theorem dL_law_323 : decode cL_law 323 = .ok (.aload_n 0, 1) := by decide +kernel
set_option maxRecDepth 20000 in
theorem dL_law_324 : decode cL_law 324 = .ok (.iload_n 3, 1) := by decide +kernel
set_option maxRecDepth 20000 in
theorem dL_law_325 : decode cL_law 325 = .ok (.iconst 1, 1) := by decide +kernel
set_option maxRecDepth 20000 in
theorem dL_law_326 : decode cL_law 326 = .ok (.iadd, 1) := by decide +kernel
set_option maxRecDepth 20000 in
theorem dL_law_327 : decode cL_law 327 = .ok (.iaload, 1) := by decide +kernel
set_option maxRecDepth 20000 in
theorem dL_law_328 : decode cL_law 328 = .ok (.invokevirtual 30, 3) := by decide +kernel
set_option maxRecDepth 20000 in
theorem dL_law_331 : decode cL_law 331 = .ok (.if_icmp .eq 1186, 3) := by decide +kernel
set_option maxRecDepth 20000 in
theorem dL_law_334 : decode cL_law 334 = .ok (.iconst 0, 1) := by decide +kernel
set_option maxRecDepth 20000 in
theorem dL_law_335 : decode cL_law 335 = .ok (.ireturn, 1) := by decide +kernel
set_option maxRecDepth 20000 in
theorem dL_law_336 : decode cL_law 336 = .ok (.aload_n 1, 1) := by decide +kernel
set_option maxRecDepth 20000 in
theorem dL_law_337 : decode cL_law 337 = .ok (.aload_n 0, 1) := by decide +kernel
set_option maxRecDepth 20000 in
theorem dL_law_338 : decode cL_law 338 = .ok (.iload_n 3, 1) := by decide +kernel
set_option maxRecDepth 20000 in
theorem dL_law_339 : decode cL_law 339 = .ok (.iconst 1, 1) := by decide +kernel
set_option maxRecDepth 20000 in
theorem dL_law_340 : decode cL_law 340 = .ok (.iadd, 1) := by decide +kernel
set_option maxRecDepth 20000 in
theorem dL_law_341 : decode cL_law 341 = .ok (.iaload, 1) := by decide +kernel
set_option maxRecDepth 20000 in
theorem dL_law_342 : decode cL_law 342 = .ok (.aload_n 0, 1) := by decide +kernel
set_option maxRecDepth 20000 in
theorem dL_law_343 : decode cL_law 343 = .ok (.iload_n 3, 1) := by decide +kernel
set_option maxRecDepth 20000 in
theorem dL_law_344 : decode cL_law 344 = .ok (.iconst 2, 1) := by decide +kernel
set_option maxRecDepth 20000 in
theorem dL_law_345 : decode cL_law 345 = .ok (.iadd, 1) := by decide +kernel
set_option maxRecDepth 20000 in
theorem dL_law_346 : decode cL_law 346 = .ok (.iaload, 1) := by decide +kernel
set_option maxRecDepth 20000 in
theorem dL_law_347 : decode cL_law 347 = .ok (.invokevirtual 31, 3) := by decide +kernel
set_option maxRecDepth 20000 in
theorem dL_law_350 : decode cL_law 350 = .ok (.aload_n 2, 1) := by decide +kernel
set_option maxRecDepth 20000 in
theorem dL_law_351 : decode cL_law 351 = .ok (.aload_n 0, 1) := by decide +kernel
set_option maxRecDepth 20000 in
theorem dL_law_352 : decode cL_law 352 = .ok (.iload_n 3, 1) := by decide +kernel
set_option maxRecDepth 20000 in
theorem dL_law_353 : decode cL_law 353 = .ok (.iconst 1, 1) := by decide +kernel
set_option maxRecDepth 20000 in
theorem dL_law_354 : decode cL_law 354 = .ok (.iadd, 1) := by decide +kernel
set_option maxRecDepth 20000 in
theorem dL_law_355 : decode cL_law 355 = .ok (.iaload, 1) := by decide +kernel
set_option maxRecDepth 20000 in
theorem dL_law_356 : decode cL_law 356 = .ok (.aload_n 0, 1) := by decide +kernel
set_option maxRecDepth 20000 in
theorem dL_law_357 : decode cL_law 357 = .ok (.iload_n 3, 1) := by decide +kernel
set_option maxRecDepth 20000 in
theorem dL_law_358 : decode cL_law 358 = .ok (.iconst 2, 1) := by decide +kernel
set_option maxRecDepth 20000 in
theorem dL_law_359 : decode cL_law 359 = .ok (.iadd, 1) := by decide +kernel
set_option maxRecDepth 20000 in
theorem dL_law_360 : decode cL_law 360 = .ok (.iaload, 1) := by decide +kernel
set_option maxRecDepth 20000 in
theorem dL_law_361 : decode cL_law 361 = .ok (.invokevirtual 34, 3) := by decide +kernel
set_option maxRecDepth 20000 in
theorem dL_law_364 : decode cL_law 364 = .ok (.if_icmp .eq 1153, 3) := by decide +kernel
set_option maxRecDepth 20000 in
theorem dL_law_367 : decode cL_law 367 = .ok (.iconst 0, 1) := by decide +kernel
set_option maxRecDepth 20000 in
theorem dL_law_368 : decode cL_law 368 = .ok (.ireturn, 1) := by decide +kernel
set_option maxRecDepth 20000 in
theorem dL_law_369 : decode cL_law 369 = .ok (.aload_n 1, 1) := by decide +kernel
set_option maxRecDepth 20000 in
theorem dL_law_370 : decode cL_law 370 = .ok (.aload_n 0, 1) := by decide +kernel
set_option maxRecDepth 20000 in
theorem dL_law_371 : decode cL_law 371 = .ok (.iload_n 3, 1) := by decide +kernel
set_option maxRecDepth 20000 in
theorem dL_law_372 : decode cL_law 372 = .ok (.iconst 1, 1) := by decide +kernel
set_option maxRecDepth 20000 in
theorem dL_law_373 : decode cL_law 373 = .ok (.iadd, 1) := by decide +kernel
set_option maxRecDepth 20000 in
theorem dL_law_374 : decode cL_law 374 = .ok (.iaload, 1) := by decide +kernel
set_option maxRecDepth 20000 in
theorem dL_law_375 : decode cL_law 375 = .ok (.aload_n 0, 1) := by decide +kernel
set_option maxRecDepth 20000 in
theorem dL_law_376 : decode cL_law 376 = .ok (.iload_n 3, 1) := by decide +kernel
set_option maxRecDepth 20000 in
theorem dL_law_377 : decode cL_law 377 = .ok (.iconst 2, 1) := by decide +kernel
set_option maxRecDepth 20000 in
theorem dL_law_378 : decode cL_law 378 = .ok (.iadd, 1) := by decide +kernel
set_option maxRecDepth 20000 in
theorem dL_law_379 : decode cL_law 379 = .ok (.iaload, 1) := by decide +kernel
set_option maxRecDepth 20000 in
theorem dL_law_380 : decode cL_law 380 = .ok (.invokevirtual 35, 3) := by decide +kernel
set_option maxRecDepth 20000 in
theorem dL_law_383 : decode cL_law 383 = .ok (.aload_n 2, 1) := by decide +kernel
set_option maxRecDepth 20000 in
theorem dL_law_384 : decode cL_law 384 = .ok (.aload_n 0, 1) := by decide +kernel
set_option maxRecDepth 20000 in
theorem dL_law_385 : decode cL_law 385 = .ok (.iload_n 3, 1) := by decide +kernel
set_option maxRecDepth 20000 in
theorem dL_law_386 : decode cL_law 386 = .ok (.iconst 1, 1) := by decide +kernel
set_option maxRecDepth 20000 in
theorem dL_law_387 : decode cL_law 387 = .ok (.iadd, 1) := by decide +kernel
set_option maxRecDepth 20000 in
theorem dL_law_388 : decode cL_law 388 = .ok (.iaload, 1) := by decide +kernel
set_option maxRecDepth 20000 in
theorem dL_law_389 : decode cL_law 389 = .ok (.aload_n 0, 1) := by decide +kernel
set_option maxRecDepth 20000 in
theorem dL_law_390 : decode cL_law 390 = .ok (.iload_n 3, 1) := by decide +kernel
set_option maxRecDepth 20000 in
theorem dL_law_391 : decode cL_law 391 = .ok (.iconst 2, 1) := by decide +kernel
set_option maxRecDepth 20000 in
theorem dL_law_392 : decode cL_law 392 = .ok (.iadd, 1) := by decide +kernel
set_option maxRecDepth 20000 in
theorem dL_law_393 : decode cL_law 393 = .ok (.iaload, 1) := by decide +kernel
set_option maxRecDepth 20000 in
theorem dL_law_394 : decode cL_law 394 = .ok (.invokevirtual 38, 3) := by decide +kernel
set_option maxRecDepth 20000 in
theorem dL_law_397 : decode cL_law 397 = .ok (.if_icmp .eq 1120, 3) := by decide +kernel
set_option maxRecDepth 20000 in
theorem dL_law_400 : decode cL_law 400 = .ok (.iconst 0, 1) := by decide +kernel
set_option maxRecDepth 20000 in
theorem dL_law_401 : decode cL_law 401 = .ok (.ireturn, 1) := by decide +kernel
set_option maxRecDepth 20000 in
theorem dL_law_402 : decode cL_law 402 = .ok (.aload_n 1, 1) := by decide +kernel
set_option maxRecDepth 20000 in
theorem dL_law_403 : decode cL_law 403 = .ok (.aload_n 0, 1) := by decide +kernel
set_option maxRecDepth 20000 in
theorem dL_law_404 : decode cL_law 404 = .ok (.iload_n 3, 1) := by decide +kernel
set_option maxRecDepth 20000 in
theorem dL_law_405 : decode cL_law 405 = .ok (.iconst 1, 1) := by decide +kernel
set_option maxRecDepth 20000 in
theorem dL_law_406 : decode cL_law 406 = .ok (.iadd, 1) := by decide +kernel
set_option maxRecDepth 20000 in
theorem dL_law_407 : decode cL_law 407 = .ok (.iaload, 1) := by decide +kernel
set_option maxRecDepth 20000 in
theorem dL_law_408 : decode cL_law 408 = .ok (.aload_n 0, 1) := by decide +kernel
set_option maxRecDepth 20000 in
theorem dL_law_409 : decode cL_law 409 = .ok (.iload_n 3, 1) := by decide +kernel
set_option maxRecDepth 20000 in
theorem dL_law_410 : decode cL_law 410 = .ok (.iconst 2, 1) := by decide +kernel
set_option maxRecDepth 20000 in
theorem dL_law_411 : decode cL_law 411 = .ok (.iadd, 1) := by decide +kernel
set_option maxRecDepth 20000 in
theorem dL_law_412 : decode cL_law 412 = .ok (.iaload, 1) := by decide +kernel
set_option maxRecDepth 20000 in
theorem dL_law_413 : decode cL_law 413 = .ok (.aload_n 0, 1) := by decide +kernel
set_option maxRecDepth 20000 in
theorem dL_law_414 : decode cL_law 414 = .ok (.iload_n 3, 1) := by decide +kernel
set_option maxRecDepth 20000 in
theorem dL_law_415 : decode cL_law 415 = .ok (.iconst 3, 1) := by decide +kernel
set_option maxRecDepth 20000 in
theorem dL_law_416 : decode cL_law 416 = .ok (.iadd, 1) := by decide +kernel
set_option maxRecDepth 20000 in
theorem dL_law_417 : decode cL_law 417 = .ok (.iaload, 1) := by decide +kernel
set_option maxRecDepth 20000 in
theorem dL_law_418 : decode cL_law 418 = .ok (.invokevirtual 39, 3) := by decide +kernel
set_option maxRecDepth 20000 in
theorem dL_law_421 : decode cL_law 421 = .ok (.aload_n 2, 1) := by decide +kernel
set_option maxRecDepth 20000 in
theorem dL_law_422 : decode cL_law 422 = .ok (.aload_n 0, 1) := by decide +kernel
set_option maxRecDepth 20000 in
theorem dL_law_423 : decode cL_law 423 = .ok (.iload_n 3, 1) := by decide +kernel
set_option maxRecDepth 20000 in
theorem dL_law_424 : decode cL_law 424 = .ok (.iconst 1, 1) := by decide +kernel
set_option maxRecDepth 20000 in
theorem dL_law_425 : decode cL_law 425 = .ok (.iadd, 1) := by decide +kernel
set_option maxRecDepth 20000 in
theorem dL_law_426 : decode cL_law 426 = .ok (.iaload, 1) := by decide +kernel
set_option maxRecDepth 20000 in
theorem dL_law_427 : decode cL_law 427 = .ok (.aload_n 0, 1) := by decide +kernel
set_option maxRecDepth 20000 in
theorem dL_law_428 : decode cL_law 428 = .ok (.iload_n 3, 1) := by decide +kernel
set_option maxRecDepth 20000 in
theorem dL_law_429 : decode cL_law 429 = .ok (.iconst 2, 1) := by decide +kernel
set_option maxRecDepth 20000 in
theorem dL_law_430 : decode cL_law 430 = .ok (.iadd, 1) := by decide +kernel
set_option maxRecDepth 20000 in
theorem dL_law_431 : decode cL_law 431 = .ok (.iaload, 1) := by decide +kernel
set_option maxRecDepth 20000 in
theorem dL_law_432 : decode cL_law 432 = .ok (.aload_n 0, 1) := by decide +kernel
set_option maxRecDepth 20000 in
theorem dL_law_433 : decode cL_law 433 = .ok (.iload_n 3, 1) := by decide +kernel
set_option maxRecDepth 20000 in
theorem dL_law_434 : decode cL_law 434 = .ok (.iconst 3, 1) := by decide +kernel
set_option maxRecDepth 20000 in
theorem dL_law_435 : decode cL_law 435 = .ok (.iadd, 1) := by decide +kernel
set_option maxRecDepth 20000 in
theorem dL_law_436 : decode cL_law 436 = .ok (.iaload, 1) := by decide +kernel
set_option maxRecDepth 20000 in
theorem dL_law_437 : decode cL_law 437 = .ok (.invokevirtual 43, 3) := by decide +kernel
set_option maxRecDepth 20000 in
theorem dL_law_440 : decode cL_law 440 = .ok (.if_icmp .eq 1077, 3) := by decide +kernel
set_option maxRecDepth 20000 in
theorem dL_law_443 : decode cL_law 443 = .ok (.iconst 0, 1) := by decide +kernel
set_option maxRecDepth 20000 in
theorem dL_law_444 : decode cL_law 444 = .ok (.ireturn, 1) := by decide +kernel
set_option maxRecDepth 20000 in
theorem dL_law_445 : decode cL_law 445 = .ok (.aload_n 1, 1) := by decide +kernel
set_option maxRecDepth 20000 in
theorem dL_law_446 : decode cL_law 446 = .ok (.aload_n 0, 1) := by decide +kernel
set_option maxRecDepth 20000 in
theorem dL_law_447 : decode cL_law 447 = .ok (.iload_n 3, 1) := by decide +kernel
set_option maxRecDepth 20000 in
theorem dL_law_448 : decode cL_law 448 = .ok (.iconst 1, 1) := by decide +kernel
set_option maxRecDepth 20000 in
theorem dL_law_449 : decode cL_law 449 = .ok (.iadd, 1) := by decide +kernel
set_option maxRecDepth 20000 in
theorem dL_law_450 : decode cL_law 450 = .ok (.iaload, 1) := by decide +kernel
set_option maxRecDepth 20000 in
theorem dL_law_451 : decode cL_law 451 = .ok (.aload_n 0, 1) := by decide +kernel
set_option maxRecDepth 20000 in
theorem dL_law_452 : decode cL_law 452 = .ok (.iload_n 3, 1) := by decide +kernel
set_option maxRecDepth 20000 in
theorem dL_law_453 : decode cL_law 453 = .ok (.iconst 2, 1) := by decide +kernel
set_option maxRecDepth 20000 in
theorem dL_law_454 : decode cL_law 454 = .ok (.iadd, 1) := by decide +kernel
set_option maxRecDepth 20000 in
theorem dL_law_455 : decode cL_law 455 = .ok (.iaload, 1) := by decide +kernel
set_option maxRecDepth 20000 in
theorem dL_law_456 : decode cL_law 456 = .ok (.invokevirtual 44, 3) := by decide +kernel
set_option maxRecDepth 20000 in
theorem dL_law_459 : decode cL_law 459 = .ok (.aload_n 2, 1) := by decide +kernel
set_option maxRecDepth 20000 in
theorem dL_law_460 : decode cL_law 460 = .ok (.aload_n 0, 1) := by decide +kernel
set_option maxRecDepth 20000 in
theorem dL_law_461 : decode cL_law 461 = .ok (.iload_n 3, 1) := by decide +kernel
set_option maxRecDepth 20000 in
theorem dL_law_462 : decode cL_law 462 = .ok (.iconst 1, 1) := by decide +kernel
set_option maxRecDepth 20000 in
theorem dL_law_463 : decode cL_law 463 = .ok (.iadd, 1) := by decide +kernel
set_option maxRecDepth 20000 in
theorem dL_law_464 : decode cL_law 464 = .ok (.iaload, 1) := by decide +kernel
set_option maxRecDepth 20000 in
theorem dL_law_465 : decode cL_law 465 = .ok (.aload_n 0, 1) := by decide +kernel
set_option maxRecDepth 20000 in
theorem dL_law_466 : decode cL_law 466 = .ok (.iload_n 3, 1) := by decide +kernel
set_option maxRecDepth 20000 in
theorem dL_law_467 : decode cL_law 467 = .ok (.iconst 2, 1) := by decide +kernel
set_option maxRecDepth 20000 in
theorem dL_law_468 : decode cL_law 468 = .ok (.iadd, 1) := by decide +kernel
set_option maxRecDepth 20000 in
theorem dL_law_469 : decode cL_law 469 = .ok (.iaload, 1) := by decide +kernel
set_option maxRecDepth 20000 in
theorem dL_law_470 : decode cL_law 470 = .ok (.invokevirtual 47, 3) := by decide +kernel
set_option maxRecDepth 20000 in
theorem dL_law_473 : decode cL_law 473 = .ok (.if_icmp .eq 1044, 3) := by decide +kernel
set_option maxRecDepth 20000 in
theorem dL_law_476 : decode cL_law 476 = .ok (.iconst 0, 1) := by decide +kernel
set_option maxRecDepth 20000 in
theorem dL_law_477 : decode cL_law 477 = .ok (.ireturn, 1) := by decide +kernel
set_option maxRecDepth 20000 in
theorem dL_law_478 : decode cL_law 478 = .ok (.aload_n 1, 1) := by decide +kernel
set_option maxRecDepth 20000 in
theorem dL_law_479 : decode cL_law 479 = .ok (.aload_n 0, 1) := by decide +kernel
set_option maxRecDepth 20000 in
theorem dL_law_480 : decode cL_law 480 = .ok (.iload_n 3, 1) := by decide +kernel
set_option maxRecDepth 20000 in
theorem dL_law_481 : decode cL_law 481 = .ok (.iconst 1, 1) := by decide +kernel
set_option maxRecDepth 20000 in
theorem dL_law_482 : decode cL_law 482 = .ok (.iadd, 1) := by decide +kernel
set_option maxRecDepth 20000 in
theorem dL_law_483 : decode cL_law 483 = .ok (.iaload, 1) := by decide +kernel
set_option maxRecDepth 20000 in
theorem dL_law_484 : decode cL_law 484 = .ok (.invokevirtual 48, 3) := by decide +kernel
set_option maxRecDepth 20000 in
theorem dL_law_487 : decode cL_law 487 = .ok (.aload_n 2, 1) := by decide +kernel
set_option maxRecDepth 20000 in
theorem dL_law_488 : decode cL_law 488 = .ok (.aload_n 0, 1) := by decide +kernel
set_option maxRecDepth 20000 in
theorem dL_law_489 : decode cL_law 489 = .ok (.iload_n 3, 1) := by decide +kernel
set_option maxRecDepth 20000 in
theorem dL_law_490 : decode cL_law 490 = .ok (.iconst 1, 1) := by decide +kernel
set_option maxRecDepth 20000 in
theorem dL_law_491 : decode cL_law 491 = .ok (.iadd, 1) := by decide +kernel
set_option maxRecDepth 20000 in
theorem dL_law_492 : decode cL_law 492 = .ok (.iaload, 1) := by decide +kernel
set_option maxRecDepth 20000 in
theorem dL_law_493 : decode cL_law 493 = .ok (.invokevirtual 51, 3) := by decide +kernel
set_option maxRecDepth 20000 in
theorem dL_law_496 : decode cL_law 496 = .ok (.if_icmp .eq 1021, 3) := by decide +kernel
set_option maxRecDepth 20000 in
theorem dL_law_499 : decode cL_law 499 = .ok (.iconst 0, 1) := by decide +kernel
set_option maxRecDepth 20000 in
theorem dL_law_500 : decode cL_law 500 = .ok (.ireturn, 1) := by decide +kernel
set_option maxRecDepth 20000 in
theorem dL_law_501 : decode cL_law 501 = .ok (.aload_n 1, 1) := by decide +kernel
set_option maxRecDepth 20000 in
theorem dL_law_502 : decode cL_law 502 = .ok (.aload_n 0, 1) := by decide +kernel
set_option maxRecDepth 20000 in
theorem dL_law_503 : decode cL_law 503 = .ok (.iload_n 3, 1) := by decide +kernel
set_option maxRecDepth 20000 in
theorem dL_law_504 : decode cL_law 504 = .ok (.iconst 1, 1) := by decide +kernel
set_option maxRecDepth 20000 in
theorem dL_law_505 : decode cL_law 505 = .ok (.iadd, 1) := by decide +kernel
set_option maxRecDepth 20000 in
theorem dL_law_506 : decode cL_law 506 = .ok (.iaload, 1) := by decide +kernel
set_option maxRecDepth 20000 in
theorem dL_law_507 : decode cL_law 507 = .ok (.invokevirtual 52, 3) := by decide +kernel
set_option maxRecDepth 20000 in
theorem dL_law_510 : decode cL_law 510 = .ok (.aload_n 2, 1) := by decide +kernel
set_option maxRecDepth 20000 in
theorem dL_law_511 : decode cL_law 511 = .ok (.aload_n 0, 1) := by decide +kernel
set_option maxRecDepth 20000 in
theorem dL_law_512 : decode cL_law 512 = .ok (.iload_n 3, 1) := by decide +kernel
set_option maxRecDepth 20000 in
theorem dL_law_513 : decode cL_law 513 = .ok (.iconst 1, 1) := by decide +kernel
set_option maxRecDepth 20000 in
theorem dL_law_514 : decode cL_law 514 = .ok (.iadd, 1) := by decide +kernel
set_option maxRecDepth 20000 in
theorem dL_law_515 : decode cL_law 515 = .ok (.iaload, 1) := by decide +kernel
set_option maxRecDepth 20000 in
theorem dL_law_516 : decode cL_law 516 = .ok (.invokevirtual 55, 3) := by decide +kernel
set_option maxRecDepth 20000 in
theorem dL_law_519 : decode cL_law 519 = .ok (.if_icmp .eq 998, 3) := by decide +kernel
set_option maxRecDepth 20000 in
theorem dL_law_522 : decode cL_law 522 = .ok (.iconst 0, 1) := by decide +kernel
set_option maxRecDepth 20000 in
theorem dL_law_523 : decode cL_law 523 = .ok (.ireturn, 1) := by decide +kernel
set_option maxRecDepth 20000 in
theorem dL_law_524 : decode cL_law 524 = .ok (.aload_n 1, 1) := by decide +kernel
set_option maxRecDepth 20000 in
theorem dL_law_525 : decode cL_law 525 = .ok (.aload_n 0, 1) := by decide +kernel
set_option maxRecDepth 20000 in
theorem dL_law_526 : decode cL_law 526 = .ok (.iload_n 3, 1) := by decide +kernel
set_option maxRecDepth 20000 in
theorem dL_law_527 : decode cL_law 527 = .ok (.iconst 1, 1) := by decide +kernel
set_option maxRecDepth 20000 in
theorem dL_law_528 : decode cL_law 528 = .ok (.iadd, 1) := by decide +kernel
set_option maxRecDepth 20000 in
theorem dL_law_529 : decode cL_law 529 = .ok (.iaload, 1) := by decide +kernel
set_option maxRecDepth 20000 in
theorem dL_law_530 : decode cL_law 530 = .ok (.invokevirtual 56, 3) := by decide +kernel
set_option maxRecDepth 20000 in
theorem dL_law_533 : decode cL_law 533 = .ok (.aload_n 2, 1) := by decide +kernel
set_option maxRecDepth 20000 in
theorem dL_law_534 : decode cL_law 534 = .ok (.aload_n 0, 1) := by decide +kernel
set_option maxRecDepth 20000 in
theorem dL_law_535 : decode cL_law 535 = .ok (.iload_n 3, 1) := by decide +kernel
set_option maxRecDepth 20000 in
theorem dL_law_536 : decode cL_law 536 = .ok (.iconst 1, 1) := by decide +kernel
set_option maxRecDepth 20000 in
theorem dL_law_537 : decode cL_law 537 = .ok (.iadd, 1) := by decide +kernel
set_option maxRecDepth 20000 in
theorem dL_law_538 : decode cL_law 538 = .ok (.iaload, 1) := by decide +kernel
set_option maxRecDepth 20000 in
theorem dL_law_539 : decode cL_law 539 = .ok (.invokevirtual 59, 3) := by decide +kernel
set_option maxRecDepth 20000 in
theorem dL_law_542 : decode cL_law 542 = .ok (.if_icmp .eq 975, 3) := by decide +kernel
set_option maxRecDepth 20000 in
theorem dL_law_545 : decode cL_law 545 = .ok (.iconst 0, 1) := by decide +kernel
set_option maxRecDepth 20000 in
theorem dL_law_546 : decode cL_law 546 = .ok (.ireturn, 1) := by decide +kernel
set_option maxRecDepth 20000 in
theorem dL_law_547 : decode cL_law 547 = .ok (.aload_n 1, 1) := by decide +kernel
set_option maxRecDepth 20000 in
theorem dL_law_548 : decode cL_law 548 = .ok (.aload_n 0, 1) := by decide +kernel
set_option maxRecDepth 20000 in
theorem dL_law_549 : decode cL_law 549 = .ok (.iload_n 3, 1) := by decide +kernel
set_option maxRecDepth 20000 in
theorem dL_law_550 : decode cL_law 550 = .ok (.iconst 1, 1) := by decide +kernel
set_option maxRecDepth 20000 in
theorem dL_law_551 : decode cL_law 551 = .ok (.iadd, 1) := by decide +kernel
set_option maxRecDepth 20000 in
theorem dL_law_552 : decode cL_law 552 = .ok (.iaload, 1) := by decide +kernel
set_option maxRecDepth 20000 in
theorem dL_law_553 : decode cL_law 553 = .ok (.aload_n 0, 1) := by decide +kernel
set_option maxRecDepth 20000 in
theorem dL_law_554 : decode cL_law 554 = .ok (.iload_n 3, 1) := by decide +kernel
set_option maxRecDepth 20000 in
theorem dL_law_555 : decode cL_law 555 = .ok (.iconst 2, 1) := by decide +kernel
set_option maxRecDepth 20000 in
theorem dL_law_556 : decode cL_law 556 = .ok (.iadd, 1) := by decide +kernel
set_option maxRecDepth 20000 in
theorem dL_law_557 : decode cL_law 557 = .ok (.iaload, 1) := by decide +kernel
set_option maxRecDepth 20000 in
theorem dL_law_558 : decode cL_law 558 = .ok (.aload_n 0, 1) := by decide +kernel
set_option maxRecDepth 20000 in
theorem dL_law_559 : decode cL_law 559 = .ok (.iload_n 3, 1) := by decide +kernel
set_option maxRecDepth 20000 in
theorem dL_law_560 : decode cL_law 560 = .ok (.iconst 3, 1) := by decide +kernel
set_option maxRecDepth 20000 in
theorem dL_law_561 : decode cL_law 561 = .ok (.iadd, 1) := by decide +kernel
set_option maxRecDepth 20000 in
theorem dL_law_562 : decode cL_law 562 = .ok (.iaload, 1) := by decide +kernel
set_option maxRecDepth 20000 in
theorem dL_law_563 : decode cL_law 563 = .ok (.invokevirtual 60, 3) := by decide +kernel
set_option maxRecDepth 20000 in
theorem dL_law_566 : decode cL_law 566 = .ok (.aload_n 2, 1) := by decide +kernel
set_option maxRecDepth 20000 in
theorem dL_law_567 : decode cL_law 567 = .ok (.aload_n 0, 1) := by decide +kernel
set_option maxRecDepth 20000 in
theorem dL_law_568 : decode cL_law 568 = .ok (.iload_n 3, 1) := by decide +kernel
set_option maxRecDepth 20000 in
theorem dL_law_569 : decode cL_law 569 = .ok (.iconst 1, 1) := by decide +kernel
set_option maxRecDepth 20000 in
theorem dL_law_570 : decode cL_law 570 = .ok (.iadd, 1) := by decide +kernel
set_option maxRecDepth 20000 in
theorem dL_law_571 : decode cL_law 571 = .ok (.iaload, 1) := by decide +kernel
set_option maxRecDepth 20000 in
theorem dL_law_572 : decode cL_law 572 = .ok (.aload_n 0, 1) := by decide +kernel
set_option maxRecDepth 20000 in
theorem dL_law_573 : decode cL_law 573 = .ok (.iload_n 3, 1) := by decide +kernel
set_option maxRecDepth 20000 in
theorem dL_law_574 : decode cL_law 574 = .ok (.iconst 2, 1) := by decide +kernel
set_option maxRecDepth 20000 in
theorem dL_law_575 : decode cL_law 575 = .ok (.iadd, 1) := by decide +kernel
set_option maxRecDepth 20000 in
theorem dL_law_576 : decode cL_law 576 = .ok (.iaload, 1) := by decide +kernel
set_option maxRecDepth 20000 in
theorem dL_law_577 : decode cL_law 577 = .ok (.aload_n 0, 1) := by decide +kernel
set_option maxRecDepth 20000 in
theorem dL_law_578 : decode cL_law 578 = .ok (.iload_n 3, 1) := by decide +kernel
set_option maxRecDepth 20000 in
theorem dL_law_579 : decode cL_law 579 = .ok (.iconst 3, 1) := by decide +kernel
set_option maxRecDepth 20000 in
theorem dL_law_580 : decode cL_law 580 = .ok (.iadd, 1) := by decide +kernel
set_option maxRecDepth 20000 in
theorem dL_law_581 : decode cL_law 581 = .ok (.iaload, 1) := by decide +kernel
set_option maxRecDepth 20000 in
theorem dL_law_582 : decode cL_law 582 = .ok (.invokevirtual 63, 3) := by decide +kernel
set_option maxRecDepth 20000 in
theorem dL_law_585 : decode cL_law 585 = .ok (.if_icmp .eq 932, 3) := by decide +kernel
set_option maxRecDepth 20000 in
theorem dL_law_588 : decode cL_law 588 = .ok (.iconst 0, 1) := by decide +kernel
set_option maxRecDepth 20000 in
theorem dL_law_589 : decode cL_law 589 = .ok (.ireturn, 1) := by decide +kernel
set_option maxRecDepth 20000 in
theorem dL_law_590 : decode cL_law 590 = .ok (.aload_n 1, 1) := by decide +kernel
set_option maxRecDepth 20000 in
theorem dL_law_591 : decode cL_law 591 = .ok (.aload_n 0, 1) := by decide +kernel
set_option maxRecDepth 20000 in
theorem dL_law_592 : decode cL_law 592 = .ok (.iload_n 3, 1) := by decide +kernel
set_option maxRecDepth 20000 in
theorem dL_law_593 : decode cL_law 593 = .ok (.iconst 1, 1) := by decide +kernel
set_option maxRecDepth 20000 in
theorem dL_law_594 : decode cL_law 594 = .ok (.iadd, 1) := by decide +kernel
set_option maxRecDepth 20000 in
theorem dL_law_595 : decode cL_law 595 = .ok (.iaload, 1) := by decide +kernel
set_option maxRecDepth 20000 in
theorem dL_law_596 : decode cL_law 596 = .ok (.aload_n 0, 1) := by decide +kernel
set_option maxRecDepth 20000 in
theorem dL_law_597 : decode cL_law 597 = .ok (.iload_n 3, 1) := by decide +kernel
set_option maxRecDepth 20000 in
theorem dL_law_598 : decode cL_law 598 = .ok (.iconst 2, 1) := by decide +kernel
set_option maxRecDepth 20000 in
theorem dL_law_599 : decode cL_law 599 = .ok (.iadd, 1) := by decide +kernel
set_option maxRecDepth 20000 in
theorem dL_law_600 : decode cL_law 600 = .ok (.iaload, 1) := by decide +kernel
set_option maxRecDepth 20000 in
theorem dL_law_601 : decode cL_law 601 = .ok (.invokevirtual 64, 3) := by decide +kernel
set_option maxRecDepth 20000 in
theorem dL_law_604 : decode cL_law 604 = .ok (.aload_n 2, 1) := by decide +kernel
set_option maxRecDepth 20000 in
theorem dL_law_605 : decode cL_law 605 = .ok (.aload_n 0, 1) := by decide +kernel
set_option maxRecDepth 20000 in
theorem dL_law_606 : decode cL_law 606 = .ok (.iload_n 3, 1) := by decide +kernel
set_option maxRecDepth 20000 in
theorem dL_law_607 : decode cL_law 607 = .ok (.iconst 1, 1) := by decide +kernel
set_option maxRecDepth 20000 in
theorem dL_law_608 : decode cL_law 608 = .ok (.iadd, 1) := by decide +kernel
set_option maxRecDepth 20000 in
theorem dL_law_609 : decode cL_law 609 = .ok (.iaload, 1) := by decide +kernel
set_option maxRecDepth 20000 in
theorem dL_law_610 : decode cL_law 610 = .ok (.aload_n 0, 1) := by decide +kernel
set_option maxRecDepth 20000 in
theorem dL_law_611 : decode cL_law 611 = .ok (.iload_n 3, 1) := by decide +kernel
set_option maxRecDepth 20000 in
theorem dL_law_612 : decode cL_law 612 = .ok (.iconst 2, 1) := by decide +kernel
set_option maxRecDepth 20000 in
theorem dL_law_613 : decode cL_law 613 = .ok (.iadd, 1) := by decide +kernel
set_option maxRecDepth 20000 in
theorem dL_law_614 : decode cL_law 614 = .ok (.iaload, 1) := by decide +kernel
set_option maxRecDepth 20000 in
theorem dL_law_615 : decode cL_law 615 = .ok (.invokevirtual 67, 3) := by decide +kernel
set_option maxRecDepth 20000 in
theorem dL_law_618 : decode cL_law 618 = .ok (.if_icmp .eq 899, 3) := by decide +kernel
set_option maxRecDepth 20000 in
theorem dL_law_621 : decode cL_law 621 = .ok (.iconst 0, 1) := by decide +kernel
set_option maxRecDepth 20000 in
theorem dL_law_622 : decode cL_law 622 = .ok (.ireturn, 1) := by decide +kernel
set_option maxRecDepth 20000 in
theorem dL_law_623 : decode cL_law 623 = .ok (.aload_n 1, 1) := by decide +kernel
set_option maxRecDepth 20000 in
theorem dL_law_624 : decode cL_law 624 = .ok (.aload_n 0, 1) := by decide +kernel
set_option maxRecDepth 20000 in
theorem dL_law_625 : decode cL_law 625 = .ok (.iload_n 3, 1) := by decide +kernel
set_option maxRecDepth 20000 in
theorem dL_law_626 : decode cL_law 626 = .ok (.iconst 1, 1) := by decide +kernel
set_option maxRecDepth 20000 in
theorem dL_law_627 : decode cL_law 627 = .ok (.iadd, 1) := by decide +kernel
set_option maxRecDepth 20000 in
theorem dL_law_628 : decode cL_law 628 = .ok (.iaload, 1) := by decide +kernel
set_option maxRecDepth 20000 in
theorem dL_law_629 : decode cL_law 629 = .ok (.aload_n 0, 1) := by decide +kernel
set_option maxRecDepth 20000 in
theorem dL_law_630 : decode cL_law 630 = .ok (.iload_n 3, 1) := by decide +kernel
set_option maxRecDepth 20000 in
theorem dL_law_631 : decode cL_law 631 = .ok (.iconst 2, 1) := by decide +kernel
set_option maxRecDepth 20000 in
theorem dL_law_632 : decode cL_law 632 = .ok (.iadd, 1) := by decide +kernel
set_option maxRecDepth 20000 in
theorem dL_law_633 : decode cL_law 633 = .ok (.iaload, 1) := by decide +kernel
set_option maxRecDepth 20000 in
theorem dL_law_634 : decode cL_law 634 = .ok (.invokevirtual 68, 3) := by decide +kernel
set_option maxRecDepth 20000 in
theorem dL_law_637 : decode cL_law 637 = .ok (.aload_n 2, 1) := by decide +kernel
set_option maxRecDepth 20000 in
theorem dL_law_638 : decode cL_law 638 = .ok (.aload_n 0, 1) := by decide +kernel
set_option maxRecDepth 20000 in
theorem dL_law_639 : decode cL_law 639 = .ok (.iload_n 3, 1) := by decide +kernel
set_option maxRecDepth 20000 in
theorem dL_law_640 : decode cL_law 640 = .ok (.iconst 1, 1) := by decide +kernel
set_option maxRecDepth 20000 in
theorem dL_law_641 : decode cL_law 641 = .ok (.iadd, 1) := by decide +kernel
set_option maxRecDepth 20000 in
theorem dL_law_642 : decode cL_law 642 = .ok (.iaload, 1) := by decide +kernel
set_option maxRecDepth 20000 in
theorem dL_law_643 : decode cL_law 643 = .ok (.aload_n 0, 1) := by decide +kernel
set_option maxRecDepth 20000 in
theorem dL_law_644 : decode cL_law 644 = .ok (.iload_n 3, 1) := by decide +kernel
set_option maxRecDepth 20000 in
theorem dL_law_645 : decode cL_law 645 = .ok (.iconst 2, 1) := by decide +kernel
set_option maxRecDepth 20000 in
theorem dL_law_646 : decode cL_law 646 = .ok (.iadd, 1) := by decide +kernel
set_option maxRecDepth 20000 in
theorem dL_law_647 : decode cL_law 647 = .ok (.iaload, 1) := by decide +kernel
set_option maxRecDepth 20000 in
theorem dL_law_648 : decode cL_law 648 = .ok (.invokevirtual 71, 3) := by decide +kernel
set_option maxRecDepth 20000 in
theorem dL_law_651 : decode cL_law 651 = .ok (.if_icmp .eq 866, 3) := by decide +kernel
set_option maxRecDepth 20000 in
theorem dL_law_654 : decode cL_law 654 = .ok (.iconst 0, 1) := by decide +kernel
set_option maxRecDepth 20000 in
theorem dL_law_655 : decode cL_law 655 = .ok (.ireturn, 1) := by decide +kernel
set_option maxRecDepth 20000 in
theorem dL_law_656 : decode cL_law 656 = .ok (.aload_n 1, 1) := by decide +kernel
set_option maxRecDepth 20000 in
theorem dL_law_657 : decode cL_law 657 = .ok (.aload_n 0, 1) := by decide +kernel
set_option maxRecDepth 20000 in
theorem dL_law_658 : decode cL_law 658 = .ok (.iload_n 3, 1) := by decide +kernel
set_option maxRecDepth 20000 in
theorem dL_law_659 : decode cL_law 659 = .ok (.iconst 1, 1) := by decide +kernel
set_option maxRecDepth 20000 in
theorem dL_law_660 : decode cL_law 660 = .ok (.iadd, 1) := by decide +kernel
set_option maxRecDepth 20000 in
theorem dL_law_661 : decode cL_law 661 = .ok (.iaload, 1) := by decide +kernel
set_option maxRecDepth 20000 in
theorem dL_law_662 : decode cL_law 662 = .ok (.invokevirtual 72, 3) := by decide +kernel
set_option maxRecDepth 20000 in
theorem dL_law_665 : decode cL_law 665 = .ok (.aload_n 2, 1) := by decide +kernel
set_option maxRecDepth 20000 in
theorem dL_law_666 : decode cL_law 666 = .ok (.aload_n 0, 1) := by decide +kernel
set_option maxRecDepth 20000 in
theorem dL_law_667 : decode cL_law 667 = .ok (.iload_n 3, 1) := by decide +kernel
set_option maxRecDepth 20000 in
theorem dL_law_668 : decode cL_law 668 = .ok (.iconst 1, 1) := by decide +kernel
set_option maxRecDepth 20000 in
theorem dL_law_669 : decode cL_law 669 = .ok (.iadd, 1) := by decide +kernel
set_option maxRecDepth 20000 in
theorem dL_law_670 : decode cL_law 670 = .ok (.iaload, 1) := by decide +kernel
set_option maxRecDepth 20000 in
theorem dL_law_671 : decode cL_law 671 = .ok (.invokevirtual 75, 3) := by decide +kernel
set_option maxRecDepth 20000 in
theorem dL_law_674 : decode cL_law 674 = .ok (.if_icmp .eq 843, 3) := by decide +kernel
set_option maxRecDepth 20000 in
theorem dL_law_677 : decode cL_law 677 = .ok (.iconst 0, 1) := by decide +kernel
set_option maxRecDepth 20000 in
theorem dL_law_678 : decode cL_law 678 = .ok (.ireturn, 1) := by decide +kernel
set_option maxRecDepth 20000 in
theorem dL_law_679 : decode cL_law 679 = .ok (.aload_n 1, 1) := by decide +kernel
set_option maxRecDepth 20000 in
theorem dL_law_680 : decode cL_law 680 = .ok (.invokevirtual 76, 3) := by decide +kernel
set_option maxRecDepth 20000 in
theorem dL_law_683 : decode cL_law 683 = .ok (.aload_n 2, 1) := by decide +kernel
set_option maxRecDepth 20000 in
theorem dL_law_684 : decode cL_law 684 = .ok (.invokevirtual 80, 3) := by decide +kernel
set_option maxRecDepth 20000 in
theorem dL_law_687 : decode cL_law 687 = .ok (.if_icmp .eq 830, 3) := by decide +kernel
set_option maxRecDepth 20000 in
theorem dL_law_690 : decode cL_law 690 = .ok (.iconst 0, 1) := by decide +kernel
set_option maxRecDepth 20000 in
theorem dL_law_691 : decode cL_law 691 = .ok (.ireturn, 1) := by decide +kernel
set_option maxRecDepth 20000 in
theorem dL_law_692 : decode cL_law 692 = .ok (.aload_n 1, 1) := by decide +kernel
set_option maxRecDepth 20000 in
theorem dL_law_693 : decode cL_law 693 = .ok (.aload_n 0, 1) := by decide +kernel
set_option maxRecDepth 20000 in
theorem dL_law_694 : decode cL_law 694 = .ok (.iload_n 3, 1) := by decide +kernel
set_option maxRecDepth 20000 in
theorem dL_law_695 : decode cL_law 695 = .ok (.iconst 1, 1) := by decide +kernel
set_option maxRecDepth 20000 in
theorem dL_law_696 : decode cL_law 696 = .ok (.iadd, 1) := by decide +kernel
set_option maxRecDepth 20000 in
theorem dL_law_697 : decode cL_law 697 = .ok (.iaload, 1) := by decide +kernel
set_option maxRecDepth 20000 in
theorem dL_law_698 : decode cL_law 698 = .ok (.invokevirtual 81, 3) := by decide +kernel
set_option maxRecDepth 20000 in
theorem dL_law_701 : decode cL_law 701 = .ok (.aload_n 2, 1) := by decide +kernel
set_option maxRecDepth 20000 in
theorem dL_law_702 : decode cL_law 702 = .ok (.aload_n 0, 1) := by decide +kernel
set_option maxRecDepth 20000 in
theorem dL_law_703 : decode cL_law 703 = .ok (.iload_n 3, 1) := by decide +kernel
set_option maxRecDepth 20000 in
theorem dL_law_704 : decode cL_law 704 = .ok (.iconst 1, 1) := by decide +kernel
set_option maxRecDepth 20000 in
theorem dL_law_705 : decode cL_law 705 = .ok (.iadd, 1) := by decide +kernel
set_option maxRecDepth 20000 in
theorem dL_law_706 : decode cL_law 706 = .ok (.iaload, 1) := by decide +kernel
set_option maxRecDepth 20000 in
theorem dL_law_707 : decode cL_law 707 = .ok (.invokevirtual 84, 3) := by decide +kernel
set_option maxRecDepth 20000 in
theorem dL_law_710 : decode cL_law 710 = .ok (.if_icmp .eq 807, 3) := by decide +kernel
set_option maxRecDepth 20000 in
theorem dL_law_713 : decode cL_law 713 = .ok (.iconst 0, 1) := by decide +kernel
set_option maxRecDepth 20000 in
theorem dL_law_714 : decode cL_law 714 = .ok (.ireturn, 1) := by decide +kernel
set_option maxRecDepth 20000 in
theorem dL_law_715 : decode cL_law 715 = .ok (.aload_n 1, 1) := by decide +kernel
set_option maxRecDepth 20000 in
theorem dL_law_716 : decode cL_law 716 = .ok (.aload_n 0, 1) := by decide +kernel
set_option maxRecDepth 20000 in
theorem dL_law_717 : decode cL_law 717 = .ok (.iload_n 3, 1) := by decide +kernel
set_option maxRecDepth 20000 in
theorem dL_law_718 : decode cL_law 718 = .ok (.iconst 1, 1) := by decide +kernel
set_option maxRecDepth 20000 in
theorem dL_law_719 : decode cL_law 719 = .ok (.iadd, 1) := by decide +kernel
set_option maxRecDepth 20000 in
theorem dL_law_720 : decode cL_law 720 = .ok (.iaload, 1) := by decide +kernel
set_option maxRecDepth 20000 in
theorem dL_law_721 : decode cL_law 721 = .ok (.aload_n 0, 1) := by decide +kernel
set_option maxRecDepth 20000 in
theorem dL_law_722 : decode cL_law 722 = .ok (.iload_n 3, 1) := by decide +kernel
set_option maxRecDepth 20000 in
theorem dL_law_723 : decode cL_law 723 = .ok (.iconst 2, 1) := by decide +kernel
set_option maxRecDepth 20000 in
theorem dL_law_724 : decode cL_law 724 = .ok (.iadd, 1) := by decide +kernel
set_option maxRecDepth 20000 in
theorem dL_law_725 : decode cL_law 725 = .ok (.iaload, 1) := by decide +kernel
set_option maxRecDepth 20000 in
theorem dL_law_726 : decode cL_law 726 = .ok (.invokevirtual 85, 3) := by decide +kernel
set_option maxRecDepth 20000 in
theorem dL_law_729 : decode cL_law 729 = .ok (.aload_n 2, 1) := by decide +kernel
set_option maxRecDepth 20000 in
theorem dL_law_730 : decode cL_law 730 = .ok (.aload_n 0, 1) := by decide +kernel
set_option maxRecDepth 20000 in
theorem dL_law_731 : decode cL_law 731 = .ok (.iload_n 3, 1) := by decide +kernel
set_option maxRecDepth 20000 in
theorem dL_law_732 : decode cL_law 732 = .ok (.iconst 1, 1) := by decide +kernel
set_option maxRecDepth 20000 in
theorem dL_law_733 : decode cL_law 733 = .ok (.iadd, 1) := by decide +kernel
set_option maxRecDepth 20000 in
theorem dL_law_734 : decode cL_law 734 = .ok (.iaload, 1) := by decide +kernel
set_option maxRecDepth 20000 in
theorem dL_law_735 : decode cL_law 735 = .ok (.aload_n 0, 1) := by decide +kernel
set_option maxRecDepth 20000 in
theorem dL_law_736 : decode cL_law 736 = .ok (.iload_n 3, 1) := by decide +kernel
set_option maxRecDepth 20000 in
theorem dL_law_737 : decode cL_law 737 = .ok (.iconst 2, 1) := by decide +kernel
set_option maxRecDepth 20000 in
theorem dL_law_738 : decode cL_law 738 = .ok (.iadd, 1) := by decide +kernel
set_option maxRecDepth 20000 in
theorem dL_law_739 : decode cL_law 739 = .ok (.iaload, 1) := by decide +kernel
set_option maxRecDepth 20000 in
theorem dL_law_740 : decode cL_law 740 = .ok (.invokevirtual 88, 3) := by decide +kernel
set_option maxRecDepth 20000 in
theorem dL_law_743 : decode cL_law 743 = .ok (.if_icmp .eq 774, 3) := by decide +kernel
set_option maxRecDepth 20000 in
theorem dL_law_746 : decode cL_law 746 = .ok (.iconst 0, 1) := by decide +kernel
set_option maxRecDepth 20000 in
theorem dL_law_747 : decode cL_law 747 = .ok (.ireturn, 1) := by decide +kernel
set_option maxRecDepth 20000 in
theorem dL_law_748 : decode cL_law 748 = .ok (.aload_n 1, 1) := by decide +kernel
set_option maxRecDepth 20000 in
theorem dL_law_749 : decode cL_law 749 = .ok (.aload_n 0, 1) := by decide +kernel
set_option maxRecDepth 20000 in
theorem dL_law_750 : decode cL_law 750 = .ok (.iload_n 3, 1) := by decide +kernel
set_option maxRecDepth 20000 in
theorem dL_law_751 : decode cL_law 751 = .ok (.iconst 1, 1) := by decide +kernel
set_option maxRecDepth 20000 in
theorem dL_law_752 : decode cL_law 752 = .ok (.iadd, 1) := by decide +kernel
set_option maxRecDepth 20000 in
theorem dL_law_753 : decode cL_law 753 = .ok (.iaload, 1) := by decide +kernel
set_option maxRecDepth 20000 in
theorem dL_law_754 : decode cL_law 754 = .ok (.aload_n 0, 1) := by decide +kernel
set_option maxRecDepth 20000 in
theorem dL_law_755 : decode cL_law 755 = .ok (.iload_n 3, 1) := by decide +kernel
set_option maxRecDepth 20000 in
theorem dL_law_756 : decode cL_law 756 = .ok (.iconst 2, 1) := by decide +kernel
set_option maxRecDepth 20000 in
theorem dL_law_757 : decode cL_law 757 = .ok (.iadd, 1) := by decide +kernel
set_option maxRecDepth 20000 in
theorem dL_law_758 : decode cL_law 758 = .ok (.iaload, 1) := by decide +kernel
set_option maxRecDepth 20000 in
theorem dL_law_759 : decode cL_law 759 = .ok (.invokevirtual 89, 3) := by decide +kernel
set_option maxRecDepth 20000 in
theorem dL_law_762 : decode cL_law 762 = .ok (.aload_n 2, 1) := by decide +kernel
set_option maxRecDepth 20000 in
theorem dL_law_763 : decode cL_law 763 = .ok (.aload_n 0, 1) := by decide +kernel
set_option maxRecDepth 20000 in
theorem dL_law_764 : decode cL_law 764 = .ok (.iload_n 3, 1) := by decide +kernel
set_option maxRecDepth 20000 in
theorem dL_law_765 : decode cL_law 765 = .ok (.iconst 1, 1) := by decide +kernel
set_option maxRecDepth 20000 in
theorem dL_law_766 : decode cL_law 766 = .ok (.iadd, 1) := by decide +kernel
set_option maxRecDepth 20000 in
theorem dL_law_767 : decode cL_law 767 = .ok (.iaload, 1) := by decide +kernel
set_option maxRecDepth 20000 in
theorem dL_law_768 : decode cL_law 768 = .ok (.aload_n 0, 1) := by decide +kernel
set_option maxRecDepth 20000 in
theorem dL_law_769 : decode cL_law 769 = .ok (.iload_n 3, 1) := by decide +kernel
set_option maxRecDepth 20000 in
theorem dL_law_770 : decode cL_law 770 = .ok (.iconst 2, 1) := by decide +kernel
set_option maxRecDepth 20000 in
theorem dL_law_771 : decode cL_law 771 = .ok (.iadd, 1) := by decide +kernel
set_option maxRecDepth 20000 in
theorem dL_law_772 : decode cL_law 772 = .ok (.iaload, 1) := by decide +kernel
set_option maxRecDepth 20000 in
theorem dL_law_773 : decode cL_law 773 = .ok (.invokevirtual 92, 3) := by decide +kernel
set_option maxRecDepth 20000 in
theorem dL_law_776 : decode cL_law 776 = .ok (.if_icmp .eq 741, 3) := by decide +kernel
set_option maxRecDepth 20000 in
theorem dL_law_779 : decode cL_law 779 = .ok (.iconst 0, 1) := by decide +kernel
set_option maxRecDepth 20000 in
theorem dL_law_780 : decode cL_law 780 = .ok (.ireturn, 1) := by decide +kernel
set_option maxRecDepth 20000 in
theorem dL_law_781 : decode cL_law 781 = .ok (.aload_n 1, 1) := by decide +kernel
set_option maxRecDepth 20000 in
theorem dL_law_782 : decode cL_law 782 = .ok (.aload_n 0, 1) := by decide +kernel
set_option maxRecDepth 20000 in
theorem dL_law_783 : decode cL_law 783 = .ok (.iload_n 3, 1) := by decide +kernel
set_option maxRecDepth 20000 in
theorem dL_law_784 : decode cL_law 784 = .ok (.iconst 1, 1) := by decide +kernel
set_option maxRecDepth 20000 in
theorem dL_law_785 : decode cL_law 785 = .ok (.iadd, 1) := by decide +kernel
set_option maxRecDepth 20000 in
theorem dL_law_786 : decode cL_law 786 = .ok (.iaload, 1) := by decide +kernel
set_option maxRecDepth 20000 in
theorem dL_law_787 : decode cL_law 787 = .ok (.aload_n 0, 1) := by decide +kernel
set_option maxRecDepth 20000 in
theorem dL_law_788 : decode cL_law 788 = .ok (.iload_n 3, 1) := by decide +kernel
set_option maxRecDepth 20000 in
theorem dL_law_789 : decode cL_law 789 = .ok (.iconst 2, 1) := by decide +kernel
set_option maxRecDepth 20000 in
theorem dL_law_790 : decode cL_law 790 = .ok (.iadd, 1) := by decide +kernel
set_option maxRecDepth 20000 in
theorem dL_law_791 : decode cL_law 791 = .ok (.iaload, 1) := by decide +kernel
set_option maxRecDepth 20000 in
theorem dL_law_792 : decode cL_law 792 = .ok (.invokevirtual 93, 3) := by decide +kernel
set_option maxRecDepth 20000 in
theorem dL_law_795 : decode cL_law 795 = .ok (.aload_n 2, 1) := by decide +kernel
set_option maxRecDepth 20000 in
theorem dL_law_796 : decode cL_law 796 = .ok (.aload_n 0, 1) := by decide +kernel
set_option maxRecDepth 20000 in
theorem dL_law_797 : decode cL_law 797 = .ok (.iload_n 3, 1) := by decide +kernel
set_option maxRecDepth 20000 in
theorem dL_law_798 : decode cL_law 798 = .ok (.iconst 1, 1) := by decide +kernel
set_option maxRecDepth 20000 in
theorem dL_law_799 : decode cL_law 799 = .ok (.iadd, 1) := by decide +kernel
set_option maxRecDepth 20000 in
theorem dL_law_800 : decode cL_law 800 = .ok (.iaload, 1) := by decide +kernel
set_option maxRecDepth 20000 in
theorem dL_law_801 : decode cL_law 801 = .ok (.aload_n 0, 1) := by decide +kernel
set_option maxRecDepth 20000 in
theorem dL_law_802 : decode cL_law 802 = .ok (.iload_n 3, 1) := by decide +kernel
set_option maxRecDepth 20000 in
theorem dL_law_803 : decode cL_law 803 = .ok (.iconst 2, 1) := by decide +kernel
set_option maxRecDepth 20000 in
theorem dL_law_804 : decode cL_law 804 = .ok (.iadd, 1) := by decide +kernel
set_option maxRecDepth 20000 in
theorem dL_law_805 : decode cL_law 805 = .ok (.iaload, 1) := by decide +kernel
set_option maxRecDepth 20000 in
theorem dL_law_806 : decode cL_law 806 = .ok (.invokevirtual 96, 3) := by decide +kernel
set_option maxRecDepth 20000 in
theorem dL_law_809 : decode cL_law 809 = .ok (.if_icmp .eq 708, 3) := by decide +kernel
set_option maxRecDepth 20000 in
theorem dL_law_812 : decode cL_law 812 = .ok (.iconst 0, 1) := by decide +kernel
set_option maxRecDepth 20000 in
theorem dL_law_813 : decode cL_law 813 = .ok (.ireturn, 1) := by decide +kernel
set_option maxRecDepth 20000 in
theorem dL_law_814 : decode cL_law 814 = .ok (.aload_n 1, 1) := by decide +kernel
set_option maxRecDepth 20000 in
theorem dL_law_815 : decode cL_law 815 = .ok (.aload_n 0, 1) := by decide +kernel
set_option maxRecDepth 20000 in
theorem dL_law_816 : decode cL_law 816 = .ok (.iload_n 3, 1) := by decide +kernel
set_option maxRecDepth 20000 in
theorem dL_law_817 : decode cL_law 817 = .ok (.iconst 1, 1) := by decide +kernel
set_option maxRecDepth 20000 in
theorem dL_law_818 : decode cL_law 818 = .ok (.iadd, 1) := by decide +kernel
set_option maxRecDepth 20000 in
theorem dL_law_819 : decode cL_law 819 = .ok (.iaload, 1) := by decide +kernel
set_option maxRecDepth 20000 in
theorem dL_law_820 : decode cL_law 820 = .ok (.aload_n 0, 1) := by decide +kernel
set_option maxRecDepth 20000 in
theorem dL_law_821 : decode cL_law 821 = .ok (.iload_n 3, 1) := by decide +kernel
set_option maxRecDepth 20000 in
theorem dL_law_822 : decode cL_law 822 = .ok (.iconst 2, 1) := by decide +kernel
set_option maxRecDepth 20000 in
theorem dL_law_823 : decode cL_law 823 = .ok (.iadd, 1) := by decide +kernel
set_option maxRecDepth 20000 in
theorem dL_law_824 : decode cL_law 824 = .ok (.iaload, 1) := by decide +kernel
set_option maxRecDepth 20000 in
theorem dL_law_825 : decode cL_law 825 = .ok (.invokevirtual 97, 3) := by decide +kernel
set_option maxRecDepth 20000 in
theorem dL_law_828 : decode cL_law 828 = .ok (.aload_n 2, 1) := by decide +kernel
set_option maxRecDepth 20000 in
theorem dL_law_829 : decode cL_law 829 = .ok (.aload_n 0, 1) := by decide +kernel
set_option maxRecDepth 20000 in
theorem dL_law_830 : decode cL_law 830 = .ok (.iload_n 3, 1) := by decide +kernel
set_option maxRecDepth 20000 in
theorem dL_law_831 : decode cL_law 831 = .ok (.iconst 1, 1) := by decide +kernel
set_option maxRecDepth 20000 in
theorem dL_law_832 : decode cL_law 832 = .ok (.iadd, 1) := by decide +kernel
set_option maxRecDepth 20000 in
theorem dL_law_833 : decode cL_law 833 = .ok (.iaload, 1) := by decide +kernel
set_option maxRecDepth 20000 in
theorem dL_law_834 : decode cL_law 834 = .ok (.aload_n 0, 1) := by decide +kernel
set_option maxRecDepth 20000 in
theorem dL_law_835 : decode cL_law 835 = .ok (.iload_n 3, 1) := by decide +kernel
set_option maxRecDepth 20000 in
theorem dL_law_836 : decode cL_law 836 = .ok (.iconst 2, 1) := by decide +kernel
set_option maxRecDepth 20000 in
theorem dL_law_837 : decode cL_law 837 = .ok (.iadd, 1) := by decide +kernel
set_option maxRecDepth 20000 in
theorem dL_law_838 : decode cL_law 838 = .ok (.iaload, 1) := by decide +kernel
set_option maxRecDepth 20000 in
theorem dL_law_839 : decode cL_law 839 = .ok (.invokevirtual 100, 3) := by decide +kernel
set_option maxRecDepth 20000 in
theorem dL_law_842 : decode cL_law 842 = .ok (.if_icmp .eq 675, 3) := by decide +kernel
set_option maxRecDepth 20000 in
theorem dL_law_845 : decode cL_law 845 = .ok (.iconst 0, 1) := by decide +kernel
set_option maxRecDepth 20000 in
theorem dL_law_846 : decode cL_law 846 = .ok (.ireturn, 1) := by decide +kernel
set_option maxRecDepth 20000 in
theorem dL_law_847 : decode cL_law 847 = .ok (.aload_n 1, 1) := by decide +kernel
set_option maxRecDepth 20000 in
theorem dL_law_848 : decode cL_law 848 = .ok (.aload_n 0, 1) := by decide +kernel
set_option maxRecDepth 20000 in
theorem dL_law_849 : decode cL_law 849 = .ok (.iload_n 3, 1) := by decide +kernel
set_option maxRecDepth 20000 in
theorem dL_law_850 : decode cL_law 850 = .ok (.iconst 1, 1) := by decide +kernel
set_option maxRecDepth 20000 in
theorem dL_law_851 : decode cL_law 851 = .ok (.iadd, 1) := by decide +kernel
set_option maxRecDepth 20000 in
theorem dL_law_852 : decode cL_law 852 = .ok (.iaload, 1) := by decide +kernel
set_option maxRecDepth 20000 in
theorem dL_law_853 : decode cL_law 853 = .ok (.invokevirtual 101, 3) := by decide +kernel
set_option maxRecDepth 20000 in
theorem dL_law_856 : decode cL_law 856 = .ok (.aload_n 2, 1) := by decide +kernel
set_option maxRecDepth 20000 in
theorem dL_law_857 : decode cL_law 857 = .ok (.aload_n 0, 1) := by decide +kernel
set_option maxRecDepth 20000 in
theorem dL_law_858 : decode cL_law 858 = .ok (.iload_n 3, 1) := by decide +kernel
set_option maxRecDepth 20000 in
theorem dL_law_859 : decode cL_law 859 = .ok (.iconst 1, 1) := by decide +kernel
set_option maxRecDepth 20000 in
theorem dL_law_860 : decode cL_law 860 = .ok (.iadd, 1) := by decide +kernel
set_option maxRecDepth 20000 in
theorem dL_law_861 : decode cL_law 861 = .ok (.iaload, 1) := by decide +kernel
set_option maxRecDepth 20000 in
theorem dL_law_862 : decode cL_law 862 = .ok (.invokevirtual 104, 3) := by decide +kernel
set_option maxRecDepth 20000 in
theorem dL_law_865 : decode cL_law 865 = .ok (.if_icmp .eq 652, 3) := by decide +kernel
set_option maxRecDepth 20000 in
theorem dL_law_868 : decode cL_law 868 = .ok (.iconst 0, 1) := by decide +kernel
set_option maxRecDepth 20000 in
theorem dL_law_869 : decode cL_law 869 = .ok (.ireturn, 1) := by decide +kernel
set_option maxRecDepth 20000 in
theorem dL_law_870 : decode cL_law 870 = .ok (.aload_n 1, 1) := by decide +kernel
set_option maxRecDepth 20000 in
theorem dL_law_871 : decode cL_law 871 = .ok (.aload_n 0, 1) := by decide +kernel
set_option maxRecDepth 20000 in
theorem dL_law_872 : decode cL_law 872 = .ok (.iload_n 3, 1) := by decide +kernel
set_option maxRecDepth 20000 in
theorem dL_law_873 : decode cL_law 873 = .ok (.iconst 1, 1) := by decide +kernel
set_option maxRecDepth 20000 in
theorem dL_law_874 : decode cL_law 874 = .ok (.iadd, 1) := by decide +kernel
set_option maxRecDepth 20000 in
theorem dL_law_875 : decode cL_law 875 = .ok (.iaload, 1) := by decide +kernel
set_option maxRecDepth 20000 in
theorem dL_law_876 : decode cL_law 876 = .ok (.aload_n 0, 1) := by decide +kernel
set_option maxRecDepth 20000 in
theorem dL_law_877 : decode cL_law 877 = .ok (.iload_n 3, 1) := by decide +kernel
set_option maxRecDepth 20000 in
theorem dL_law_878 : decode cL_law 878 = .ok (.iconst 2, 1) := by decide +kernel
set_option maxRecDepth 20000 in
theorem dL_law_879 : decode cL_law 879 = .ok (.iadd, 1) := by decide +kernel
set_option maxRecDepth 20000 in
theorem dL_law_880 : decode cL_law 880 = .ok (.iaload, 1) := by decide +kernel
set_option maxRecDepth 20000 in
theorem dL_law_881 : decode cL_law 881 = .ok (.aload_n 0, 1) := by decide +kernel
set_option maxRecDepth 20000 in
theorem dL_law_882 : decode cL_law 882 = .ok (.iload_n 3, 1) := by decide +kernel
set_option maxRecDepth 20000 in
theorem dL_law_883 : decode cL_law 883 = .ok (.iconst 3, 1) := by decide +kernel
set_option maxRecDepth 20000 in
theorem dL_law_884 : decode cL_law 884 = .ok (.iadd, 1) := by decide +kernel
set_option maxRecDepth 20000 in
theorem dL_law_885 : decode cL_law 885 = .ok (.iaload, 1) := by decide +kernel
set_option maxRecDepth 20000 in
theorem dL_law_886 : decode cL_law 886 = .ok (.invokevirtual 105, 3) := by decide +kernel
set_option maxRecDepth 20000 in
theorem dL_law_889 : decode cL_law 889 = .ok (.aload_n 2, 1) := by decide +kernel
set_option maxRecDepth 20000 in
theorem dL_law_890 : decode cL_law 890 = .ok (.aload_n 0, 1) := by decide +kernel
set_option maxRecDepth 20000 in
theorem dL_law_891 : decode cL_law 891 = .ok (.iload_n 3, 1) := by decide +kernel
set_option maxRecDepth 20000 in
theorem dL_law_892 : decode cL_law 892 = .ok (.iconst 1, 1) := by decide +kernel
set_option maxRecDepth 20000 in
theorem dL_law_893 : decode cL_law 893 = .ok (.iadd, 1) := by decide +kernel
set_option maxRecDepth 20000 in
theorem dL_law_894 : decode cL_law 894 = .ok (.iaload, 1) := by decide +kernel
set_option maxRecDepth 20000 in
theorem dL_law_895 : decode cL_law 895 = .ok (.aload_n 0, 1) := by decide +kernel
set_option maxRecDepth 20000 in
theorem dL_law_896 : decode cL_law 896 = .ok (.iload_n 3, 1) := by decide +kernel
set_option maxRecDepth 20000 in
theorem dL_law_897 : decode cL_law 897 = .ok (.iconst 2, 1) := by decide +kernel
set_option maxRecDepth 20000 in
theorem dL_law_898 : decode cL_law 898 = .ok (.iadd, 1) := by decide +kernel
set_option maxRecDepth 20000 in
theorem dL_law_899 : decode cL_law 899 = .ok (.iaload, 1) := by decide +kernel
set_option maxRecDepth 20000 in
theorem dL_law_900 : decode cL_law 900 = .ok (.aload_n 0, 1) := by decide +kernel
set_option maxRecDepth 20000 in
theorem dL_law_901 : decode cL_law 901 = .ok (.iload_n 3, 1) := by decide +kernel
set_option maxRecDepth 20000 in
theorem dL_law_902 : decode cL_law 902 = .ok (.iconst 3, 1) := by decide +kernel
set_option maxRecDepth 20000 in
theorem dL_law_903 : decode cL_law 903 = .ok (.iadd, 1) := by decide +kernel
set_option maxRecDepth 20000 in
theorem dL_law_904 : decode cL_law 904 = .ok (.iaload, 1) := by decide +kernel
set_option maxRecDepth 20000 in
theorem dL_law_905 : decode cL_law 905 = .ok (.invokevirtual 108, 3) := by decide +kernel
set_option maxRecDepth 20000 in
theorem dL_law_908 : decode cL_law 908 = .ok (.if_icmp .eq 609, 3) := by decide +kernel
set_option maxRecDepth 20000 in
theorem dL_law_911 : decode cL_law 911 = .ok (.iconst 0, 1) := by decide +kernel
set_option maxRecDepth 20000 in
theorem dL_law_912 : decode cL_law 912 = .ok (.ireturn, 1) := by decide +kernel
set_option maxRecDepth 20000 in
theorem dL_law_913 : decode cL_law 913 = .ok (.aload_n 1, 1) := by decide +kernel
set_option maxRecDepth 20000 in
theorem dL_law_914 : decode cL_law 914 = .ok (.aload_n 0, 1) := by decide +kernel
set_option maxRecDepth 20000 in
theorem dL_law_915 : decode cL_law 915 = .ok (.iload_n 3, 1) := by decide +kernel
set_option maxRecDepth 20000 in
theorem dL_law_916 : decode cL_law 916 = .ok (.iconst 1, 1) := by decide +kernel
set_option maxRecDepth 20000 in
theorem dL_law_917 : decode cL_law 917 = .ok (.iadd, 1) := by decide +kernel
set_option maxRecDepth 20000 in
theorem dL_law_918 : decode cL_law 918 = .ok (.iaload, 1) := by decide +kernel
set_option maxRecDepth 20000 in
theorem dL_law_919 : decode cL_law 919 = .ok (.aload_n 0, 1) := by decide +kernel
set_option maxRecDepth 20000 in
theorem dL_law_920 : decode cL_law 920 = .ok (.iload_n 3, 1) := by decide +kernel
set_option maxRecDepth 20000 in
theorem dL_law_921 : decode cL_law 921 = .ok (.iconst 2, 1) := by decide +kernel
set_option maxRecDepth 20000 in
theorem dL_law_922 : decode cL_law 922 = .ok (.iadd, 1) := by decide +kernel
set_option maxRecDepth 20000 in
theorem dL_law_923 : decode cL_law 923 = .ok (.iaload, 1) := by decide +kernel
set_option maxRecDepth 20000 in
theorem dL_law_924 : decode cL_law 924 = .ok (.invokevirtual 109, 3) := by decide +kernel
set_option maxRecDepth 20000 in
theorem dL_law_927 : decode cL_law 927 = .ok (.aload_n 2, 1) := by decide +kernel
set_option maxRecDepth 20000 in
theorem dL_law_928 : decode cL_law 928 = .ok (.aload_n 0, 1) := by decide +kernel
set_option maxRecDepth 20000 in
theorem dL_law_929 : decode cL_law 929 = .ok (.iload_n 3, 1) := by decide +kernel
set_option maxRecDepth 20000 in
theorem dL_law_930 : decode cL_law 930 = .ok (.iconst 1, 1) := by decide +kernel
set_option maxRecDepth 20000 in
theorem dL_law_931 : decode cL_law 931 = .ok (.iadd, 1) := by decide +kernel
set_option maxRecDepth 20000 in
theorem dL_law_932 : decode cL_law 932 = .ok (.iaload, 1) := by decide +kernel
set_option maxRecDepth 20000 in
theorem dL_law_933 : decode cL_law 933 = .ok (.aload_n 0, 1) := by decide +kernel
set_option maxRecDepth 20000 in
theorem dL_law_934 : decode cL_law 934 = .ok (.iload_n 3, 1) := by decide +kernel
set_option maxRecDepth 20000 in
theorem dL_law_935 : decode cL_law 935 = .ok (.iconst 2, 1) := by decide +kernel
set_option maxRecDepth 20000 in
theorem dL_law_936 : decode cL_law 936 = .ok (.iadd, 1) := by decide +kernel
set_option maxRecDepth 20000 in
theorem dL_law_937 : decode cL_law 937 = .ok (.iaload, 1) := by decide +kernel
set_option maxRecDepth 20000 in
theorem dL_law_938 : decode cL_law 938 = .ok (.invokevirtual 112, 3) := by decide +kernel
set_option maxRecDepth 20000 in
theorem dL_law_941 : decode cL_law 941 = .ok (.if_icmp .eq 576, 3) := by decide +kernel
set_option maxRecDepth 20000 in
theorem dL_law_944 : decode cL_law 944 = .ok (.iconst 0, 1) := by decide +kernel
set_option maxRecDepth 20000 in
theorem dL_law_945 : decode cL_law 945 = .ok (.ireturn, 1) := by decide +kernel
set_option maxRecDepth 20000 in
theorem dL_law_946 : decode cL_law 946 = .ok (.aload_n 1, 1) := by decide +kernel
set_option maxRecDepth 20000 in
theorem dL_law_947 : decode cL_law 947 = .ok (.aload_n 0, 1) := by decide +kernel
set_option maxRecDepth 20000 in
theorem dL_law_948 : decode cL_law 948 = .ok (.iload_n 3, 1) := by decide +kernel
set_option maxRecDepth 20000 in
theorem dL_law_949 : decode cL_law 949 = .ok (.iconst 1, 1) := by decide +kernel
set_option maxRecDepth 20000 in
theorem dL_law_950 : decode cL_law 950 = .ok (.iadd, 1) := by decide +kernel
set_option maxRecDepth 20000 in
theorem dL_law_951 : decode cL_law 951 = .ok (.iaload, 1) := by decide +kernel
set_option maxRecDepth 20000 in
theorem dL_law_952 : decode cL_law 952 = .ok (.aload_n 0, 1) := by decide +kernel
set_option maxRecDepth 20000 in
theorem dL_law_953 : decode cL_law 953 = .ok (.iload_n 3, 1) := by decide +kernel
set_option maxRecDepth 20000 in
theorem dL_law_954 : decode cL_law 954 = .ok (.iconst 2, 1) := by decide +kernel
set_option maxRecDepth 20000 in
theorem dL_law_955 : decode cL_law 955 = .ok (.iadd, 1) := by decide +kernel
set_option maxRecDepth 20000 in
theorem dL_law_956 : decode cL_law 956 = .ok (.iaload, 1) := by decide +kernel
set_option maxRecDepth 20000 in
theorem dL_law_957 : decode cL_law 957 = .ok (.invokevirtual 113, 3) := by decide +kernel
set_option maxRecDepth 20000 in
theorem dL_law_960 : decode cL_law 960 = .ok (.aload_n 2, 1) := by decide +kernel
set_option maxRecDepth 20000 in
theorem dL_law_961 : decode cL_law 961 = .ok (.aload_n 0, 1) := by decide +kernel
set_option maxRecDepth 20000 in
theorem dL_law_962 : decode cL_law 962 = .ok (.iload_n 3, 1) := by decide +kernel
set_option maxRecDepth 20000 in
theorem dL_law_963 : decode cL_law 963 = .ok (.iconst 1, 1) := by decide +kernel
set_option maxRecDepth 20000 in
theorem dL_law_964 : decode cL_law 964 = .ok (.iadd, 1) := by decide +kernel
set_option maxRecDepth 20000 in
theorem dL_law_965 : decode cL_law 965 = .ok (.iaload, 1) := by decide +kernel
set_option maxRecDepth 20000 in
theorem dL_law_966 : decode cL_law 966 = .ok (.aload_n 0, 1) := by decide +kernel
set_option maxRecDepth 20000 in
theorem dL_law_967 : decode cL_law 967 = .ok (.iload_n 3, 1) := by decide +kernel
set_option maxRecDepth 20000 in
theorem dL_law_968 : decode cL_law 968 = .ok (.iconst 2, 1) := by decide +kernel
set_option maxRecDepth 20000 in
theorem dL_law_969 : decode cL_law 969 = .ok (.iadd, 1) := by decide +kernel
set_option maxRecDepth 20000 in
theorem dL_law_970 : decode cL_law 970 = .ok (.iaload, 1) := by decide +kernel
set_option maxRecDepth 20000 in
theorem dL_law_971 : decode cL_law 971 = .ok (.invokevirtual 116, 3) := by decide +kernel
set_option maxRecDepth 20000 in
theorem dL_law_974 : decode cL_law 974 = .ok (.if_icmp .eq 543, 3) := by decide +kernel
set_option maxRecDepth 20000 in
theorem dL_law_977 : decode cL_law 977 = .ok (.iconst 0, 1) := by decide +kernel
set_option maxRecDepth 20000 in
theorem dL_law_978 : decode cL_law 978 = .ok (.ireturn, 1) := by decide +kernel
set_option maxRecDepth 20000 in
theorem dL_law_979 : decode cL_law 979 = .ok (.aload_n 1, 1) := by decide +kernel
set_option maxRecDepth 20000 in
theorem dL_law_980 : decode cL_law 980 = .ok (.aload_n 0, 1) := by decide +kernel
set_option maxRecDepth 20000 in
theorem dL_law_981 : decode cL_law 981 = .ok (.iload_n 3, 1) := by decide +kernel
set_option maxRecDepth 20000 in
theorem dL_law_982 : decode cL_law 982 = .ok (.iconst 1, 1) := by decide +kernel
set_option maxRecDepth 20000 in
theorem dL_law_983 : decode cL_law 983 = .ok (.iadd, 1) := by decide +kernel
set_option maxRecDepth 20000 in
theorem dL_law_984 : decode cL_law 984 = .ok (.iaload, 1) := by decide +kernel
set_option maxRecDepth 20000 in
theorem dL_law_985 : decode cL_law 985 = .ok (.aload_n 0, 1) := by decide +kernel
set_option maxRecDepth 20000 in
theorem dL_law_986 : decode cL_law 986 = .ok (.iload_n 3, 1) := by decide +kernel
set_option maxRecDepth 20000 in
theorem dL_law_987 : decode cL_law 987 = .ok (.iconst 2, 1) := by decide +kernel
set_option maxRecDepth 20000 in
theorem dL_law_988 : decode cL_law 988 = .ok (.iadd, 1) := by decide +kernel
set_option maxRecDepth 20000 in
theorem dL_law_989 : decode cL_law 989 = .ok (.iaload, 1) := by decide +kernel
set_option maxRecDepth 20000 in
theorem dL_law_990 : decode cL_law 990 = .ok (.invokevirtual 117, 3) := by decide +kernel
set_option maxRecDepth 20000 in
theorem dL_law_993 : decode cL_law 993 = .ok (.aload_n 2, 1) := by decide +kernel
set_option maxRecDepth 20000 in
theorem dL_law_994 : decode cL_law 994 = .ok (.aload_n 0, 1) := by decide +kernel
set_option maxRecDepth 20000 in
theorem dL_law_995 : decode cL_law 995 = .ok (.iload_n 3, 1) := by decide +kernel
set_option maxRecDepth 20000 in
theorem dL_law_996 : decode cL_law 996 = .ok (.iconst 1, 1) := by decide +kernel
set_option maxRecDepth 20000 in
theorem dL_law_997 : decode cL_law 997 = .ok (.iadd, 1) := by decide +kernel
set_option maxRecDepth 20000 in
theorem dL_law_998 : decode cL_law 998 = .ok (.iaload, 1) := by decide +kernel
set_option maxRecDepth 20000 in
theorem dL_law_999 : decode cL_law 999 = .ok (.aload_n 0, 1) := by decide +kernel
set_option maxRecDepth 20000 in
theorem dL_law_1000 : decode cL_law 1000 = .ok (.iload_n 3, 1) := by decide +kernel
set_option maxRecDepth 20000 in
theorem dL_law_1001 : decode cL_law 1001 = .ok (.iconst 2, 1) := by decide +kernel
set_option maxRecDepth 20000 in
theorem dL_law_1002 : decode cL_law 1002 = .ok (.iadd, 1) := by decide +kernel
set_option maxRecDepth 20000 in
theorem dL_law_1003 : decode cL_law 1003 = .ok (.iaload, 1) := by decide +kernel
set_option maxRecDepth 20000 in
theorem dL_law_1004 : decode cL_law 1004 = .ok (.invokevirtual 120, 3) := by decide +kernel
set_option maxRecDepth 20000 in
theorem dL_law_1007 : decode cL_law 1007 = .ok (.if_icmp .eq 510, 3) := by decide +kernel
set_option maxRecDepth 20000 in
theorem dL_law_1010 : decode cL_law 1010 = .ok (.iconst 0, 1) := by decide +kernel
set_option maxRecDepth 20000 in
theorem dL_law_1011 : decode cL_law 1011 = .ok (.ireturn, 1) := by decide +kernel
set_option maxRecDepth 20000 in
theorem dL_law_1012 : decode cL_law 1012 = .ok (.aload_n 1, 1) := by decide +kernel
set_option maxRecDepth 20000 in
theorem dL_law_1013 : decode cL_law 1013 = .ok (.aload_n 0, 1) := by decide +kernel
set_option maxRecDepth 20000 in
theorem dL_law_1014 : decode cL_law 1014 = .ok (.iload_n 3, 1) := by decide +kernel
set_option maxRecDepth 20000 in
theorem dL_law_1015 : decode cL_law 1015 = .ok (.iconst 1, 1) := by decide +kernel
set_option maxRecDepth 20000 in
theorem dL_law_1016 : decode cL_law 1016 = .ok (.iadd, 1) := by decide +kernel
set_option maxRecDepth 20000 in
theorem dL_law_1017 : decode cL_law 1017 = .ok (.iaload, 1) := by decide +kernel
set_option maxRecDepth 20000 in
theorem dL_law_1018 : decode cL_law 1018 = .ok (.invokevirtual 121, 3) := by decide +kernel
set_option maxRecDepth 20000 in
theorem dL_law_1021 : decode cL_law 1021 = .ok (.aload_n 2, 1) := by decide +kernel
set_option maxRecDepth 20000 in
theorem dL_law_1022 : decode cL_law 1022 = .ok (.aload_n 0, 1) := by decide +kernel
set_option maxRecDepth 20000 in
theorem dL_law_1023 : decode cL_law 1023 = .ok (.iload_n 3, 1) := by decide +kernel
set_option maxRecDepth 20000 in
theorem dL_law_1024 : decode cL_law 1024 = .ok (.iconst 1, 1) := by decide +kernel
set_option maxRecDepth 20000 in
theorem dL_law_1025 : decode cL_law 1025 = .ok (.iadd, 1) := by decide +kernel
set_option maxRecDepth 20000 in
theorem dL_law_1026 : decode cL_law 1026 = .ok (.iaload, 1) := by decide +kernel
set_option maxRecDepth 20000 in
theorem dL_law_1027 : decode cL_law 1027 = .ok (.invokevirtual 124, 3) := by decide +kernel
set_option maxRecDepth 20000 in
theorem dL_law_1030 : decode cL_law 1030 = .ok (.if_icmp .eq 487, 3) := by decide +kernel
set_option maxRecDepth 20000 in
theorem dL_law_1033 : decode cL_law 1033 = .ok (.iconst 0, 1) := by decide +kernel
set_option maxRecDepth 20000 in
theorem dL_law_1034 : decode cL_law 1034 = .ok (.ireturn, 1) := by decide +kernel
set_option maxRecDepth 20000 in
theorem dL_law_1035 : decode cL_law 1035 = .ok (.aload_n 1, 1) := by decide +kernel
set_option maxRecDepth 20000 in
theorem dL_law_1036 : decode cL_law 1036 = .ok (.aload_n 0, 1) := by decide +kernel
set_option maxRecDepth 20000 in
theorem dL_law_1037 : decode cL_law 1037 = .ok (.iload_n 3, 1) := by decide +kernel
set_option maxRecDepth 20000 in
theorem dL_law_1038 : decode cL_law 1038 = .ok (.iconst 1, 1) := by decide +kernel
set_option maxRecDepth 20000 in
theorem dL_law_1039 : decode cL_law 1039 = .ok (.iadd, 1) := by decide +kernel
set_option maxRecDepth 20000 in
theorem dL_law_1040 : decode cL_law 1040 = .ok (.iaload, 1) := by decide +kernel
set_option maxRecDepth 20000 in
theorem dL_law_1041 : decode cL_law 1041 = .ok (.aload_n 0, 1) := by decide +kernel
set_option maxRecDepth 20000 in
theorem dL_law_1042 : decode cL_law 1042 = .ok (.iload_n 3, 1) := by decide +kernel
set_option maxRecDepth 20000 in
theorem dL_law_1043 : decode cL_law 1043 = .ok (.iconst 2, 1) := by decide +kernel
set_option maxRecDepth 20000 in
theorem dL_law_1044 : decode cL_law 1044 = .ok (.iadd, 1) := by decide +kernel
set_option maxRecDepth 20000 in
theorem dL_law_1045 : decode cL_law 1045 = .ok (.iaload, 1) := by decide +kernel
set_option maxRecDepth 20000 in
theorem dL_law_1046 : decode cL_law 1046 = .ok (.aload_n 0, 1) := by decide +kernel
set_option maxRecDepth 20000 in
theorem dL_law_1047 : decode cL_law 1047 = .ok (.iload_n 3, 1) := by decide +kernel
set_option maxRecDepth 20000 in
theorem dL_law_1048 : decode cL_law 1048 = .ok (.iconst 3, 1) := by decide +kernel
set_option maxRecDepth 20000 in
theorem dL_law_1049 : decode cL_law 1049 = .ok (.iadd, 1) := by decide +kernel
set_option maxRecDepth 20000 in
theorem dL_law_1050 : decode cL_law 1050 = .ok (.iaload, 1) := by decide +kernel
set_option maxRecDepth 20000 in
theorem dL_law_1051 : decode cL_law 1051 = .ok (.aload_n 0, 1) := by decide +kernel
set_option maxRecDepth 20000 in
theorem dL_law_1052 : decode cL_law 1052 = .ok (.iload_n 3, 1) := by decide +kernel
set_option maxRecDepth 20000 in
theorem dL_law_1053 : decode cL_law 1053 = .ok (.iconst 4, 1) := by decide +kernel
set_option maxRecDepth 20000 in
theorem dL_law_1054 : decode cL_law 1054 = .ok (.iadd, 1) := by decide +kernel
set_option maxRecDepth 20000 in
theorem dL_law_1055 : decode cL_law 1055 = .ok (.iaload, 1) := by decide +kernel
set_option maxRecDepth 20000 in
theorem dL_law_1056 : decode cL_law 1056 = .ok (.invokevirtual 125, 3) := by decide +kernel
set_option maxRecDepth 20000 in
theorem dL_law_1059 : decode cL_law 1059 = .ok (.aload_n 2, 1) := by decide +kernel
set_option maxRecDepth 20000 in
theorem dL_law_1060 : decode cL_law 1060 = .ok (.aload_n 0, 1) := by decide +kernel
set_option maxRecDepth 20000 in
theorem dL_law_1061 : decode cL_law 1061 = .ok (.iload_n 3, 1) := by decide +kernel
set_option maxRecDepth 20000 in
theorem dL_law_1062 : decode cL_law 1062 = .ok (.iconst 1, 1) := by decide +kernel
set_option maxRecDepth 20000 in
theorem dL_law_1063 : decode cL_law 1063 = .ok (.iadd, 1) := by decide +kernel
set_option maxRecDepth 20000 in
theorem dL_law_1064 : decode cL_law 1064 = .ok (.iaload, 1) := by decide +kernel
set_option maxRecDepth 20000 in
theorem dL_law_1065 : decode cL_law 1065 = .ok (.aload_n 0, 1) := by decide +kernel
set_option maxRecDepth 20000 in
theorem dL_law_1066 : decode cL_law 1066 = .ok (.iload_n 3, 1) := by decide +kernel
set_option maxRecDepth 20000 in
theorem dL_law_1067 : decode cL_law 1067 = .ok (.iconst 2, 1) := by decide +kernel
set_option maxRecDepth 20000 in
theorem dL_law_1068 : decode cL_law 1068 = .ok (.iadd, 1) := by decide +kernel
set_option maxRecDepth 20000 in
theorem dL_law_1069 : decode cL_law 1069 = .ok (.iaload, 1) := by decide +kernel
set_option maxRecDepth 20000 in
theorem dL_law_1070 : decode cL_law 1070 = .ok (.aload_n 0, 1) := by decide +kernel
set_option maxRecDepth 20000 in
theorem dL_law_1071 : decode cL_law 1071 = .ok (.iload_n 3, 1) := by decide +kernel
set_option maxRecDepth 20000 in
theorem dL_law_1072 : decode cL_law 1072 = .ok (.iconst 3, 1) := by decide +kernel
set_option maxRecDepth 20000 in
theorem dL_law_1073 : decode cL_law 1073 = .ok (.iadd, 1) := by decide +kernel
set_option maxRecDepth 20000 in
theorem dL_law_1074 : decode cL_law 1074 = .ok (.iaload, 1) := by decide +kernel
set_option maxRecDepth 20000 in
theorem dL_law_1075 : decode cL_law 1075 = .ok (.aload_n 0, 1) := by decide +kernel
set_option maxRecDepth 20000 in
theorem dL_law_1076 : decode cL_law 1076 = .ok (.iload_n 3, 1) := by decide +kernel
set_option maxRecDepth 20000 in
theorem dL_law_1077 : decode cL_law 1077 = .ok (.iconst 4, 1) := by decide +kernel
set_option maxRecDepth 20000 in
theorem dL_law_1078 : decode cL_law 1078 = .ok (.iadd, 1) := by decide +kernel
set_option maxRecDepth 20000 in
theorem dL_law_1079 : decode cL_law 1079 = .ok (.iaload, 1) := by decide +kernel
set_option maxRecDepth 20000 in
theorem dL_law_1080 : decode cL_law 1080 = .ok (.invokevirtual 129, 3) := by decide +kernel
set_option maxRecDepth 20000 in
theorem dL_law_1083 : decode cL_law 1083 = .ok (.lcmp, 1) := by decide +kernel
set_option maxRecDepth 20000 in
theorem dL_law_1084 : decode cL_law 1084 = .ok (.ifCond .eq 433, 3) := by decide +kernel
set_option maxRecDepth 20000 in
theorem dL_law_1087 : decode cL_law 1087 = .ok (.iconst 0, 1) := by decide +kernel
set_option maxRecDepth 20000 in
theorem dL_law_1088 : decode cL_law 1088 = .ok (.ireturn, 1) := by decide +kernel
set_option maxRecDepth 20000 in
theorem dL_law_1089 : decode cL_law 1089 = .ok (.aload_n 1, 1) := by decide +kernel
set_option maxRecDepth 20000 in
theorem dL_law_1090 : decode cL_law 1090 = .ok (.aload_n 0, 1) := by decide +kernel
set_option maxRecDepth 20000 in
theorem dL_law_1091 : decode cL_law 1091 = .ok (.iload_n 3, 1) := by decide +kernel
set_option maxRecDepth 20000 in
theorem dL_law_1092 : decode cL_law 1092 = .ok (.iconst 1, 1) := by decide +kernel
set_option maxRecDepth 20000 in
theorem dL_law_1093 : decode cL_law 1093 = .ok (.iadd, 1) := by decide +kernel
set_option maxRecDepth 20000 in
theorem dL_law_1094 : decode cL_law 1094 = .ok (.iaload, 1) := by decide +kernel
set_option maxRecDepth 20000 in
theorem dL_law_1095 : decode cL_law 1095 = .ok (.invokevirtual 130, 3) := by decide +kernel
set_option maxRecDepth 20000 in
theorem dL_law_1098 : decode cL_law 1098 = .ok (.aload_n 2, 1) := by decide +kernel
set_option maxRecDepth 20000 in
theorem dL_law_1099 : decode cL_law 1099 = .ok (.aload_n 0, 1) := by decide +kernel
set_option maxRecDepth 20000 in
theorem dL_law_1100 : decode cL_law 1100 = .ok (.iload_n 3, 1) := by decide +kernel
set_option maxRecDepth 20000 in
theorem dL_law_1101 : decode cL_law 1101 = .ok (.iconst 1, 1) := by decide +kernel
set_option maxRecDepth 20000 in
theorem dL_law_1102 : decode cL_law 1102 = .ok (.iadd, 1) := by decide +kernel
set_option maxRecDepth 20000 in
theorem dL_law_1103 : decode cL_law 1103 = .ok (.iaload, 1) := by decide +kernel
set_option maxRecDepth 20000 in
theorem dL_law_1104 : decode cL_law 1104 = .ok (.invokevirtual 133, 3) := by decide +kernel
set_option maxRecDepth 20000 in
theorem dL_law_1107 : decode cL_law 1107 = .ok (.if_icmp .eq 410, 3) := by decide +kernel
set_option maxRecDepth 20000 in
theorem dL_law_1110 : decode cL_law 1110 = .ok (.iconst 0, 1) := by decide +kernel
set_option maxRecDepth 20000 in
theorem dL_law_1111 : decode cL_law 1111 = .ok (.ireturn, 1) := by decide +kernel
set_option maxRecDepth 20000 in
theorem dL_law_1112 : decode cL_law 1112 = .ok (.aload_n 1, 1) := by decide +kernel
set_option maxRecDepth 20000 in
theorem dL_law_1113 : decode cL_law 1113 = .ok (.aload_n 0, 1) := by decide +kernel
set_option maxRecDepth 20000 in
theorem dL_law_1114 : decode cL_law 1114 = .ok (.iload_n 3, 1) := by decide +kernel
set_option maxRecDepth 20000 in
theorem dL_law_1115 : decode cL_law 1115 = .ok (.iconst 1, 1) := by decide +kernel
set_option maxRecDepth 20000 in
theorem dL_law_1116 : decode cL_law 1116 = .ok (.iadd, 1) := by decide +kernel
set_option maxRecDepth 20000 in
theorem dL_law_1117 : decode cL_law 1117 = .ok (.iaload, 1) := by decide +kernel
set_option maxRecDepth 20000 in
theorem dL_law_1118 : decode cL_law 1118 = .ok (.aload_n 0, 1) := by decide +kernel
set_option maxRecDepth 20000 in
theorem dL_law_1119 : decode cL_law 1119 = .ok (.iload_n 3, 1) := by decide +kernel
set_option maxRecDepth 20000 in
theorem dL_law_1120 : decode cL_law 1120 = .ok (.iconst 2, 1) := by decide +kernel
set_option maxRecDepth 20000 in
theorem dL_law_1121 : decode cL_law 1121 = .ok (.iadd, 1) := by decide +kernel
set_option maxRecDepth 20000 in
theorem dL_law_1122 : decode cL_law 1122 = .ok (.iaload, 1) := by decide +kernel
set_option maxRecDepth 20000 in
theorem dL_law_1123 : decode cL_law 1123 = .ok (.invokevirtual 134, 3) := by decide +kernel
set_option maxRecDepth 20000 in
theorem dL_law_1126 : decode cL_law 1126 = .ok (.aload_n 2, 1) := by decide +kernel
set_option maxRecDepth 20000 in
theorem dL_law_1127 : decode cL_law 1127 = .ok (.aload_n 0, 1) := by decide +kernel
set_option maxRecDepth 20000 in
theorem dL_law_1128 : decode cL_law 1128 = .ok (.iload_n 3, 1) := by decide +kernel
set_option maxRecDepth 20000 in
theorem dL_law_1129 : decode cL_law 1129 = .ok (.iconst 1, 1) := by decide +kernel
set_option maxRecDepth 20000 in
theorem dL_law_1130 : decode cL_law 1130 = .ok (.iadd, 1) := by decide +kernel
set_option maxRecDepth 20000 in
theorem dL_law_1131 : decode cL_law 1131 = .ok (.iaload, 1) := by decide +kernel
set_option maxRecDepth 20000 in
theorem dL_law_1132 : decode cL_law 1132 = .ok (.aload_n 0, 1) := by decide +kernel
set_option maxRecDepth 20000 in
theorem dL_law_1133 : decode cL_law 1133 = .ok (.iload_n 3, 1) := by decide +kernel
set_option maxRecDepth 20000 in
theorem dL_law_1134 : decode cL_law 1134 = .ok (.iconst 2, 1) := by decide +kernel
set_option maxRecDepth 20000 in
theorem dL_law_1135 : decode cL_law 1135 = .ok (.iadd, 1) := by decide +kernel
set_option maxRecDepth 20000 in
theorem dL_law_1136 : decode cL_law 1136 = .ok (.iaload, 1) := by decide +kernel
set_option maxRecDepth 20000 in
theorem dL_law_1137 : decode cL_law 1137 = .ok (.invokevirtual 137, 3) := by decide +kernel
set_option maxRecDepth 20000 in
theorem dL_law_1140 : decode cL_law 1140 = .ok (.if_icmp .eq 377, 3) := by decide +kernel
set_option maxRecDepth 20000 in
theorem dL_law_1143 : decode cL_law 1143 = .ok (.iconst 0, 1) := by decide +kernel
set_option maxRecDepth 20000 in
theorem dL_law_1144 : decode cL_law 1144 = .ok (.ireturn, 1) := by decide +kernel
set_option maxRecDepth 20000 in
theorem dL_law_1145 : decode cL_law 1145 = .ok (.aload_n 1, 1) := by decide +kernel
set_option maxRecDepth 20000 in
theorem dL_law_1146 : decode cL_law 1146 = .ok (.invokevirtual 138, 3) := by decide +kernel
set_option maxRecDepth 20000 in
theorem dL_law_1149 : decode cL_law 1149 = .ok (.aload_n 2, 1) := by decide +kernel
set_option maxRecDepth 20000 in
theorem dL_law_1150 : decode cL_law 1150 = .ok (.invokevirtual 141, 3) := by decide +kernel
set_option maxRecDepth 20000 in
theorem dL_law_1153 : decode cL_law 1153 = .ok (.if_icmp .eq 364, 3) := by decide +kernel
set_option maxRecDepth 20000 in
theorem dL_law_1156 : decode cL_law 1156 = .ok (.iconst 0, 1) := by decide +kernel
set_option maxRecDepth 20000 in
theorem dL_law_1157 : decode cL_law 1157 = .ok (.ireturn, 1) := by decide +kernel
set_option maxRecDepth 20000 in
theorem dL_law_1158 : decode cL_law 1158 = .ok (.aload_n 1, 1) := by decide +kernel
set_option maxRecDepth 20000 in
theorem dL_law_1159 : decode cL_law 1159 = .ok (.invokevirtual 142, 3) := by decide +kernel
set_option maxRecDepth 20000 in
theorem dL_law_1162 : decode cL_law 1162 = .ok (.aload_n 2, 1) := by decide +kernel
set_option maxRecDepth 20000 in
theorem dL_law_1163 : decode cL_law 1163 = .ok (.invokevirtual 145, 3) := by decide +kernel
set_option maxRecDepth 20000 in
theorem dL_law_1166 : decode cL_law 1166 = .ok (.if_icmp .eq 351, 3) := by decide +kernel
set_option maxRecDepth 20000 in
theorem dL_law_1169 : decode cL_law 1169 = .ok (.iconst 0, 1) := by decide +kernel
set_option maxRecDepth 20000 in
theorem dL_law_1170 : decode cL_law 1170 = .ok (.ireturn, 1) := by decide +kernel
set_option maxRecDepth 20000 in
theorem dL_law_1171 : decode cL_law 1171 = .ok (.aload_n 1, 1) := by decide +kernel
set_option maxRecDepth 20000 in
theorem dL_law_1172 : decode cL_law 1172 = .ok (.aload_n 0, 1) := by decide +kernel
set_option maxRecDepth 20000 in
theorem dL_law_1173 : decode cL_law 1173 = .ok (.iload_n 3, 1) := by decide +kernel
set_option maxRecDepth 20000 in
theorem dL_law_1174 : decode cL_law 1174 = .ok (.iconst 1, 1) := by decide +kernel
set_option maxRecDepth 20000 in
theorem dL_law_1175 : decode cL_law 1175 = .ok (.iadd, 1) := by decide +kernel
set_option maxRecDepth 20000 in
theorem dL_law_1176 : decode cL_law 1176 = .ok (.iaload, 1) := by decide +kernel
set_option maxRecDepth 20000 in
theorem dL_law_1177 : decode cL_law 1177 = .ok (.aload_n 0, 1) := by decide +kernel
set_option maxRecDepth 20000 in
theorem dL_law_1178 : decode cL_law 1178 = .ok (.iload_n 3, 1) := by decide +kernel
set_option maxRecDepth 20000 in
theorem dL_law_1179 : decode cL_law 1179 = .ok (.iconst 2, 1) := by decide +kernel
set_option maxRecDepth 20000 in
theorem dL_law_1180 : decode cL_law 1180 = .ok (.iadd, 1) := by decide +kernel
set_option maxRecDepth 20000 in
theorem dL_law_1181 : decode cL_law 1181 = .ok (.iaload, 1) := by decide +kernel
set_option maxRecDepth 20000 in
theorem dL_law_1182 : decode cL_law 1182 = .ok (.invokevirtual 146, 3) := by decide +kernel
set_option maxRecDepth 20000 in
theorem dL_law_1185 : decode cL_law 1185 = .ok (.aload_n 2, 1) := by decide +kernel
set_option maxRecDepth 20000 in
theorem dL_law_1186 : decode cL_law 1186 = .ok (.aload_n 0, 1) := by decide +kernel
set_option maxRecDepth 20000 in
theorem dL_law_1187 : decode cL_law 1187 = .ok (.iload_n 3, 1) := by decide +kernel
set_option maxRecDepth 20000 in
theorem dL_law_1188 : decode cL_law 1188 = .ok (.iconst 1, 1) := by decide +kernel
set_option maxRecDepth 20000 in
theorem dL_law_1189 : decode cL_law 1189 = .ok (.iadd, 1) := by decide +kernel
set_option maxRecDepth 20000 in
theorem dL_law_1190 : decode cL_law 1190 = .ok (.iaload, 1) := by decide +kernel
set_option maxRecDepth 20000 in
theorem dL_law_1191 : decode cL_law 1191 = .ok (.aload_n 0, 1) := by decide +kernel
set_option maxRecDepth 20000 in
theorem dL_law_1192 : decode cL_law 1192 = .ok (.iload_n 3, 1) := by decide +kernel
set_option maxRecDepth 20000 in
theorem dL_law_1193 : decode cL_law 1193 = .ok (.iconst 2, 1) := by decide +kernel
set_option maxRecDepth 20000 in
theorem dL_law_1194 : decode cL_law 1194 = .ok (.iadd, 1) := by decide +kernel
set_option maxRecDepth 20000 in
theorem dL_law_1195 : decode cL_law 1195 = .ok (.iaload, 1) := by decide +kernel
set_option maxRecDepth 20000 in
theorem dL_law_1196 : decode cL_law 1196 = .ok (.invokevirtual 149, 3) := by decide +kernel
set_option maxRecDepth 20000 in
theorem dL_law_1199 : decode cL_law 1199 = .ok (.if_icmp .eq 318, 3) := by decide +kernel
set_option maxRecDepth 20000 in
theorem dL_law_1202 : decode cL_law 1202 = .ok (.iconst 0, 1) := by decide +kernel
set_option maxRecDepth 20000 in
theorem dL_law_1203 : decode cL_law 1203 = .ok (.ireturn, 1) := by decide +kernel
set_option maxRecDepth 20000 in
theorem dL_law_1204 : decode cL_law 1204 = .ok (.aload_n 1, 1) := by decide +kernel
set_option maxRecDepth 20000 in
theorem dL_law_1205 : decode cL_law 1205 = .ok (.aload_n 0, 1) := by decide +kernel
set_option maxRecDepth 20000 in
theorem dL_law_1206 : decode cL_law 1206 = .ok (.iload_n 3, 1) := by decide +kernel
set_option maxRecDepth 20000 in
theorem dL_law_1207 : decode cL_law 1207 = .ok (.iconst 1, 1) := by decide +kernel
set_option maxRecDepth 20000 in
theorem dL_law_1208 : decode cL_law 1208 = .ok (.iadd, 1) := by decide +kernel
set_option maxRecDepth 20000 in
theorem dL_law_1209 : decode cL_law 1209 = .ok (.iaload, 1) := by decide +kernel
set_option maxRecDepth 20000 in
theorem dL_law_1210 : decode cL_law 1210 = .ok (.aload_n 0, 1) := by decide +kernel
set_option maxRecDepth 20000 in
theorem dL_law_1211 : decode cL_law 1211 = .ok (.iload_n 3, 1) := by decide +kernel
set_option maxRecDepth 20000 in
theorem dL_law_1212 : decode cL_law 1212 = .ok (.iconst 2, 1) := by decide +kernel
set_option maxRecDepth 20000 in
theorem dL_law_1213 : decode cL_law 1213 = .ok (.iadd, 1) := by decide +kernel
set_option maxRecDepth 20000 in
theorem dL_law_1214 : decode cL_law 1214 = .ok (.iaload, 1) := by decide +kernel
set_option maxRecDepth 20000 in
theorem dL_law_1215 : decode cL_law 1215 = .ok (.invokevirtual 150, 3) := by decide +kernel
set_option maxRecDepth 20000 in
theorem dL_law_1218 : decode cL_law 1218 = .ok (.aload_n 2, 1) := by decide +kernel
set_option maxRecDepth 20000 in
theorem dL_law_1219 : decode cL_law 1219 = .ok (.aload_n 0, 1) := by decide +kernel
set_option maxRecDepth 20000 in
theorem dL_law_1220 : decode cL_law 1220 = .ok (.iload_n 3, 1) := by decide +kernel
set_option maxRecDepth 20000 in
theorem dL_law_1221 : decode cL_law 1221 = .ok (.iconst 1, 1) := by decide +kernel
set_option maxRecDepth 20000 in
theorem dL_law_1222 : decode cL_law 1222 = .ok (.iadd, 1) := by decide +kernel
set_option maxRecDepth 20000 in
theorem dL_law_1223 : decode cL_law 1223 = .ok (.iaload, 1) := by decide +kernel
set_option maxRecDepth 20000 in
theorem dL_law_1224 : decode cL_law 1224 = .ok (.aload_n 0, 1) := by decide +kernel
set_option maxRecDepth 20000 in
theorem dL_law_1225 : decode cL_law 1225 = .ok (.iload_n 3, 1) := by decide +kernel
set_option maxRecDepth 20000 in
theorem dL_law_1226 : decode cL_law 1226 = .ok (.iconst 2, 1) := by decide +kernel
set_option maxRecDepth 20000 in
theorem dL_law_1227 : decode cL_law 1227 = .ok (.iadd, 1) := by decide +kernel
set_option maxRecDepth 20000 in
theorem dL_law_1228 : decode cL_law 1228 = .ok (.iaload, 1) := by decide +kernel
set_option maxRecDepth 20000 in
theorem dL_law_1229 : decode cL_law 1229 = .ok (.invokevirtual 153, 3) := by decide +kernel
set_option maxRecDepth 20000 in
theorem dL_law_1232 : decode cL_law 1232 = .ok (.if_icmp .eq 285, 3) := by decide +kernel
set_option maxRecDepth 20000 in
theorem dL_law_1235 : decode cL_law 1235 = .ok (.iconst 0, 1) := by decide +kernel
set_option maxRecDepth 20000 in
theorem dL_law_1236 : decode cL_law 1236 = .ok (.ireturn, 1) := by decide +kernel
set_option maxRecDepth 20000 in
theorem dL_law_1237 : decode cL_law 1237 = .ok (.aload_n 1, 1) := by decide +kernel
set_option maxRecDepth 20000 in
theorem dL_law_1238 : decode cL_law 1238 = .ok (.aload_n 0, 1) := by decide +kernel
set_option maxRecDepth 20000 in
theorem dL_law_1239 : decode cL_law 1239 = .ok (.iload_n 3, 1) := by decide +kernel
set_option maxRecDepth 20000 in
theorem dL_law_1240 : decode cL_law 1240 = .ok (.iconst 1, 1) := by decide +kernel
set_option maxRecDepth 20000 in
theorem dL_law_1241 : decode cL_law 1241 = .ok (.iadd, 1) := by decide +kernel
set_option maxRecDepth 20000 in
theorem dL_law_1242 : decode cL_law 1242 = .ok (.iaload, 1) := by decide +kernel
set_option maxRecDepth 20000 in
theorem dL_law_1243 : decode cL_law 1243 = .ok (.aload_n 0, 1) := by decide +kernel
set_option maxRecDepth 20000 in
theorem dL_law_1244 : decode cL_law 1244 = .ok (.iload_n 3, 1) := by decide +kernel
set_option maxRecDepth 20000 in
theorem dL_law_1245 : decode cL_law 1245 = .ok (.iconst 2, 1) := by decide +kernel
set_option maxRecDepth 20000 in
theorem dL_law_1246 : decode cL_law 1246 = .ok (.iadd, 1) := by decide +kernel
set_option maxRecDepth 20000 in
theorem dL_law_1247 : decode cL_law 1247 = .ok (.iaload, 1) := by decide +kernel
set_option maxRecDepth 20000 in
theorem dL_law_1248 : decode cL_law 1248 = .ok (.aload_n 0, 1) := by decide +kernel
set_option maxRecDepth 20000 in
theorem dL_law_1249 : decode cL_law 1249 = .ok (.iload_n 3, 1) := by decide +kernel
set_option maxRecDepth 20000 in
theorem dL_law_1250 : decode cL_law 1250 = .ok (.iconst 3, 1) := by decide +kernel
set_option maxRecDepth 20000 in
theorem dL_law_1251 : decode cL_law 1251 = .ok (.iadd, 1) := by decide +kernel
set_option maxRecDepth 20000 in
theorem dL_law_1252 : decode cL_law 1252 = .ok (.iaload, 1) := by decide +kernel
set_option maxRecDepth 20000 in
theorem dL_law_1253 : decode cL_law 1253 = .ok (.invokevirtual 154, 3) := by decide +kernel
set_option maxRecDepth 20000 in
theorem dL_law_1256 : decode cL_law 1256 = .ok (.aload_n 2, 1) := by decide +kernel
set_option maxRecDepth 20000 in
theorem dL_law_1257 : decode cL_law 1257 = .ok (.aload_n 0, 1) := by decide +kernel
set_option maxRecDepth 20000 in
theorem dL_law_1258 : decode cL_law 1258 = .ok (.iload_n 3, 1) := by decide +kernel
set_option maxRecDepth 20000 in
theorem dL_law_1259 : decode cL_law 1259 = .ok (.iconst 1, 1) := by decide +kernel
set_option maxRecDepth 20000 in
theorem dL_law_1260 : decode cL_law 1260 = .ok (.iadd, 1) := by decide +kernel
set_option maxRecDepth 20000 in
theorem dL_law_1261 : decode cL_law 1261 = .ok (.iaload, 1) := by decide +kernel
set_option maxRecDepth 20000 in
theorem dL_law_1262 : decode cL_law 1262 = .ok (.aload_n 0, 1) := by decide +kernel
set_option maxRecDepth 20000 in
theorem dL_law_1263 : decode cL_law 1263 = .ok (.iload_n 3, 1) := by decide +kernel
set_option maxRecDepth 20000 in
theorem dL_law_1264 : decode cL_law 1264 = .ok (.iconst 2, 1) := by decide +kernel
set_option maxRecDepth 20000 in
theorem dL_law_1265 : decode cL_law 1265 = .ok (.iadd, 1) := by decide +kernel
set_option maxRecDepth 20000 in
theorem dL_law_1266 : decode cL_law 1266 = .ok (.iaload, 1) := by decide +kernel
set_option maxRecDepth 20000 in
theorem dL_law_1267 : decode cL_law 1267 = .ok (.aload_n 0, 1) := by decide +kernel
set_option maxRecDepth 20000 in
theorem dL_law_1268 : decode cL_law 1268 = .ok (.iload_n 3, 1) := by decide +kernel
set_option maxRecDepth 20000 in
theorem dL_law_1269 : decode cL_law 1269 = .ok (.iconst 3, 1) := by decide +kernel
set_option maxRecDepth 20000 in
theorem dL_law_1270 : decode cL_law 1270 = .ok (.iadd, 1) := by decide +kernel
set_option maxRecDepth 20000 in
theorem dL_law_1271 : decode cL_law 1271 = .ok (.iaload, 1) := by decide +kernel
set_option maxRecDepth 20000 in
theorem dL_law_1272 : decode cL_law 1272 = .ok (.invokevirtual 157, 3) := by decide +kernel
set_option maxRecDepth 20000 in
theorem dL_law_1275 : decode cL_law 1275 = .ok (.if_icmp .eq 242, 3) := by decide +kernel
set_option maxRecDepth 20000 in
theorem dL_law_1278 : decode cL_law 1278 = .ok (.iconst 0, 1) := by decide +kernel
set_option maxRecDepth 20000 in
theorem dL_law_1279 : decode cL_law 1279 = .ok (.ireturn, 1) := by decide +kernel
set_option maxRecDepth 20000 in
theorem dL_law_1280 : decode cL_law 1280 = .ok (.aload_n 1, 1) := by decide +kernel
set_option maxRecDepth 20000 in
theorem dL_law_1281 : decode cL_law 1281 = .ok (.aload_n 0, 1) := by decide +kernel
set_option maxRecDepth 20000 in
theorem dL_law_1282 : decode cL_law 1282 = .ok (.iload_n 3, 1) := by decide +kernel
set_option maxRecDepth 20000 in
theorem dL_law_1283 : decode cL_law 1283 = .ok (.iconst 1, 1) := by decide +kernel
set_option maxRecDepth 20000 in
theorem dL_law_1284 : decode cL_law 1284 = .ok (.iadd, 1) := by decide +kernel
set_option maxRecDepth 20000 in
theorem dL_law_1285 : decode cL_law 1285 = .ok (.iaload, 1) := by decide +kernel
set_option maxRecDepth 20000 in
theorem dL_law_1286 : decode cL_law 1286 = .ok (.aload_n 0, 1) := by decide +kernel
set_option maxRecDepth 20000 in
theorem dL_law_1287 : decode cL_law 1287 = .ok (.iload_n 3, 1) := by decide +kernel
set_option maxRecDepth 20000 in
theorem dL_law_1288 : decode cL_law 1288 = .ok (.iconst 2, 1) := by decide +kernel
set_option maxRecDepth 20000 in
theorem dL_law_1289 : decode cL_law 1289 = .ok (.iadd, 1) := by decide +kernel
set_option maxRecDepth 20000 in
theorem dL_law_1290 : decode cL_law 1290 = .ok (.iaload, 1) := by decide +kernel
set_option maxRecDepth 20000 in
theorem dL_law_1291 : decode cL_law 1291 = .ok (.aload_n 0, 1) := by decide +kernel
set_option maxRecDepth 20000 in
theorem dL_law_1292 : decode cL_law 1292 = .ok (.iload_n 3, 1) := by decide +kernel
set_option maxRecDepth 20000 in
theorem dL_law_1293 : decode cL_law 1293 = .ok (.iconst 3, 1) := by decide +kernel
set_option maxRecDepth 20000 in
theorem dL_law_1294 : decode cL_law 1294 = .ok (.iadd, 1) := by decide +kernel
set_option maxRecDepth 20000 in
theorem dL_law_1295 : decode cL_law 1295 = .ok (.iaload, 1) := by decide +kernel
set_option maxRecDepth 20000 in
theorem dL_law_1296 : decode cL_law 1296 = .ok (.invokevirtual 158, 3) := by decide +kernel
set_option maxRecDepth 20000 in
theorem dL_law_1299 : decode cL_law 1299 = .ok (.aload_n 2, 1) := by decide +kernel
set_option maxRecDepth 20000 in
theorem dL_law_1300 : decode cL_law 1300 = .ok (.aload_n 0, 1) := by decide +kernel
set_option maxRecDepth 20000 in
theorem dL_law_1301 : decode cL_law 1301 = .ok (.iload_n 3, 1) := by decide +kernel
set_option maxRecDepth 20000 in
theorem dL_law_1302 : decode cL_law 1302 = .ok (.iconst 1, 1) := by decide +kernel
set_option maxRecDepth 20000 in
theorem dL_law_1303 : decode cL_law 1303 = .ok (.iadd, 1) := by decide +kernel
set_option maxRecDepth 20000 in
theorem dL_law_1304 : decode cL_law 1304 = .ok (.iaload, 1) := by decide +kernel
set_option maxRecDepth 20000 in
theorem dL_law_1305 : decode cL_law 1305 = .ok (.aload_n 0, 1) := by decide +kernel
set_option maxRecDepth 20000 in
theorem dL_law_1306 : decode cL_law 1306 = .ok (.iload_n 3, 1) := by decide +kernel
set_option maxRecDepth 20000 in
theorem dL_law_1307 : decode cL_law 1307 = .ok (.iconst 2, 1) := by decide +kernel
set_option maxRecDepth 20000 in
theorem dL_law_1308 : decode cL_law 1308 = .ok (.iadd, 1) := by decide +kernel
set_option maxRecDepth 20000 in
theorem dL_law_1309 : decode cL_law 1309 = .ok (.iaload, 1) := by decide +kernel
set_option maxRecDepth 20000 in
theorem dL_law_1310 : decode cL_law 1310 = .ok (.aload_n 0, 1) := by decide +kernel
set_option maxRecDepth 20000 in
theorem dL_law_1311 : decode cL_law 1311 = .ok (.iload_n 3, 1) := by decide +kernel
set_option maxRecDepth 20000 in
theorem dL_law_1312 : decode cL_law 1312 = .ok (.iconst 3, 1) := by decide +kernel
set_option maxRecDepth 20000 in
theorem dL_law_1313 : decode cL_law 1313 = .ok (.iadd, 1) := by decide +kernel
set_option maxRecDepth 20000 in
theorem dL_law_1314 : decode cL_law 1314 = .ok (.iaload, 1) := by decide +kernel
set_option maxRecDepth 20000 in
theorem dL_law_1315 : decode cL_law 1315 = .ok (.invokevirtual 161, 3) := by decide +kernel
set_option maxRecDepth 20000 in
theorem dL_law_1318 : decode cL_law 1318 = .ok (.if_icmp .eq 199, 3) := by decide +kernel
set_option maxRecDepth 20000 in
theorem dL_law_1321 : decode cL_law 1321 = .ok (.iconst 0, 1) := by decide +kernel
set_option maxRecDepth 20000 in
theorem dL_law_1322 : decode cL_law 1322 = .ok (.ireturn, 1) := by decide +kernel
set_option maxRecDepth 20000 in
theorem dL_law_1323 : decode cL_law 1323 = .ok (.aload_n 1, 1) := by decide +kernel
set_option maxRecDepth 20000 in
theorem dL_law_1324 : decode cL_law 1324 = .ok (.aload_n 0, 1) := by decide +kernel
set_option maxRecDepth 20000 in
theorem dL_law_1325 : decode cL_law 1325 = .ok (.iload_n 3, 1) := by decide +kernel
set_option maxRecDepth 20000 in
theorem dL_law_1326 : decode cL_law 1326 = .ok (.iconst 1, 1) := by decide +kernel
set_option maxRecDepth 20000 in
theorem dL_law_1327 : decode cL_law 1327 = .ok (.iadd, 1) := by decide +kernel
set_option maxRecDepth 20000 in
theorem dL_law_1328 : decode cL_law 1328 = .ok (.iaload, 1) := by decide +kernel
set_option maxRecDepth 20000 in
theorem dL_law_1329 : decode cL_law 1329 = .ok (.aload_n 0, 1) := by decide +kernel
set_option maxRecDepth 20000 in
theorem dL_law_1330 : decode cL_law 1330 = .ok (.iload_n 3, 1) := by decide +kernel
set_option maxRecDepth 20000 in
theorem dL_law_1331 : decode cL_law 1331 = .ok (.iconst 2, 1) := by decide +kernel
set_option maxRecDepth 20000 in
theorem dL_law_1332 : decode cL_law 1332 = .ok (.iadd, 1) := by decide +kernel
set_option maxRecDepth 20000 in
theorem dL_law_1333 : decode cL_law 1333 = .ok (.iaload, 1) := by decide +kernel
set_option maxRecDepth 20000 in
theorem dL_law_1334 : decode cL_law 1334 = .ok (.aload_n 0, 1) := by decide +kernel
set_option maxRecDepth 20000 in
theorem dL_law_1335 : decode cL_law 1335 = .ok (.iload_n 3, 1) := by decide +kernel
set_option maxRecDepth 20000 in
theorem dL_law_1336 : decode cL_law 1336 = .ok (.iconst 3, 1) := by decide +kernel
set_option maxRecDepth 20000 in
theorem dL_law_1337 : decode cL_law 1337 = .ok (.iadd, 1) := by decide +kernel
set_option maxRecDepth 20000 in
theorem dL_law_1338 : decode cL_law 1338 = .ok (.iaload, 1) := by decide +kernel
set_option maxRecDepth 20000 in
theorem dL_law_1339 : decode cL_law 1339 = .ok (.aload_n 0, 1) := by decide +kernel
set_option maxRecDepth 20000 in
theorem dL_law_1340 : decode cL_law 1340 = .ok (.iload_n 3, 1) := by decide +kernel
set_option maxRecDepth 20000 in
theorem dL_law_1341 : decode cL_law 1341 = .ok (.iconst 4, 1) := by decide +kernel
set_option maxRecDepth 20000 in
theorem dL_law_1342 : decode cL_law 1342 = .ok (.iadd, 1) := by decide +kernel
set_option maxRecDepth 20000 in
theorem dL_law_1343 : decode cL_law 1343 = .ok (.iaload, 1) := by decide +kernel
set_option maxRecDepth 20000 in
theorem dL_law_1344 : decode cL_law 1344 = .ok (.aload_n 0, 1) := by decide +kernel
set_option maxRecDepth 20000 in
theorem dL_law_1345 : decode cL_law 1345 = .ok (.iload_n 3, 1) := by decide +kernel
set_option maxRecDepth 20000 in
theorem dL_law_1346 : decode cL_law 1346 = .ok (.iconst 5, 1) := by decide +kernel
set_option maxRecDepth 20000 in
theorem dL_law_1347 : decode cL_law 1347 = .ok (.iadd, 1) := by decide +kernel
set_option maxRecDepth 20000 in
theorem dL_law_1348 : decode cL_law 1348 = .ok (.iaload, 1) := by decide +kernel
set_option maxRecDepth 20000 in
theorem dL_law_1349 : decode cL_law 1349 = .ok (.invokevirtual 162, 3) := by decide +kernel
set_option maxRecDepth 20000 in
theorem dL_law_1352 : decode cL_law 1352 = .ok (.aload_n 2, 1) := by decide +kernel
set_option maxRecDepth 20000 in
theorem dL_law_1353 : decode cL_law 1353 = .ok (.aload_n 0, 1) := by decide +kernel
set_option maxRecDepth 20000 in
theorem dL_law_1354 : decode cL_law 1354 = .ok (.iload_n 3, 1) := by decide +kernel
set_option maxRecDepth 20000 in
theorem dL_law_1355 : decode cL_law 1355 = .ok (.iconst 1, 1) := by decide +kernel
set_option maxRecDepth 20000 in
theorem dL_law_1356 : decode cL_law 1356 = .ok (.iadd, 1) := by decide +kernel
set_option maxRecDepth 20000 in
theorem dL_law_1357 : decode cL_law 1357 = .ok (.iaload, 1) := by decide +kernel
set_option maxRecDepth 20000 in
theorem dL_law_1358 : decode cL_law 1358 = .ok (.aload_n 0, 1) := by decide +kernel
set_option maxRecDepth 20000 in
theorem dL_law_1359 : decode cL_law 1359 = .ok (.iload_n 3, 1) := by decide +kernel
set_option maxRecDepth 20000 in
theorem dL_law_1360 : decode cL_law 1360 = .ok (.iconst 2, 1) := by decide +kernel
set_option maxRecDepth 20000 in
theorem dL_law_1361 : decode cL_law 1361 = .ok (.iadd, 1) := by decide +kernel
set_option maxRecDepth 20000 in
theorem dL_law_1362 : decode cL_law 1362 = .ok (.iaload, 1) := by decide +kernel
set_option maxRecDepth 20000 in
theorem dL_law_1363 : decode cL_law 1363 = .ok (.aload_n 0, 1) := by decide +kernel
set_option maxRecDepth 20000 in
theorem dL_law_1364 : decode cL_law 1364 = .ok (.iload_n 3, 1) := by decide +kernel
set_option maxRecDepth 20000 in
theorem dL_law_1365 : decode cL_law 1365 = .ok (.iconst 3, 1) := by decide +kernel
set_option maxRecDepth 20000 in
theorem dL_law_1366 : decode cL_law 1366 = .ok (.iadd, 1) := by decide +kernel
set_option maxRecDepth 20000 in
theorem dL_law_1367 : decode cL_law 1367 = .ok (.iaload, 1) := by decide +kernel
set_option maxRecDepth 20000 in
theorem dL_law_1368 : decode cL_law 1368 = .ok (.aload_n 0, 1) := by decide +kernel
set_option maxRecDepth 20000 in
theorem dL_law_1369 : decode cL_law 1369 = .ok (.iload_n 3, 1) := by decide +kernel
set_option maxRecDepth 20000 in
theorem dL_law_1370 : decode cL_law 1370 = .ok (.iconst 4, 1) := by decide +kernel
set_option maxRecDepth 20000 in
theorem dL_law_1371 : decode cL_law 1371 = .ok (.iadd, 1) := by decide +kernel
set_option maxRecDepth 20000 in
theorem dL_law_1372 : decode cL_law 1372 = .ok (.iaload, 1) := by decide +kernel
set_option maxRecDepth 20000 in
theorem dL_law_1373 : decode cL_law 1373 = .ok (.aload_n 0, 1) := by decide +kernel
set_option maxRecDepth 20000 in
theorem dL_law_1374 : decode cL_law 1374 = .ok (.iload_n 3, 1) := by decide +kernel
set_option maxRecDepth 20000 in
theorem dL_law_1375 : decode cL_law 1375 = .ok (.iconst 5, 1) := by decide +kernel
set_option maxRecDepth 20000 in
theorem dL_law_1376 : decode cL_law 1376 = .ok (.iadd, 1) := by decide +kernel
set_option maxRecDepth 20000 in
theorem dL_law_1377 : decode cL_law 1377 = .ok (.iaload, 1) := by decide +kernel
set_option maxRecDepth 20000 in
theorem dL_law_1378 : decode cL_law 1378 = .ok (.invokevirtual 166, 3) := by decide +kernel
set_option maxRecDepth 20000 in
theorem dL_law_1381 : decode cL_law 1381 = .ok (.if_icmp .eq 136, 3) := by decide +kernel
set_option maxRecDepth 20000 in
theorem dL_law_1384 : decode cL_law 1384 = .ok (.iconst 0, 1) := by decide +kernel
set_option maxRecDepth 20000 in
theorem dL_law_1385 : decode cL_law 1385 = .ok (.ireturn, 1) := by decide +kernel
set_option maxRecDepth 20000 in
theorem dL_law_1386 : decode cL_law 1386 = .ok (.aload_n 1, 1) := by decide +kernel
set_option maxRecDepth 20000 in
theorem dL_law_1387 : decode cL_law 1387 = .ok (.aload_n 0, 1) := by decide +kernel
set_option maxRecDepth 20000 in
theorem dL_law_1388 : decode cL_law 1388 = .ok (.iload_n 3, 1) := by decide +kernel
set_option maxRecDepth 20000 in
theorem dL_law_1389 : decode cL_law 1389 = .ok (.iconst 1, 1) := by decide +kernel
set_option maxRecDepth 20000 in
theorem dL_law_1390 : decode cL_law 1390 = .ok (.iadd, 1) := by decide +kernel
set_option maxRecDepth 20000 in
theorem dL_law_1391 : decode cL_law 1391 = .ok (.iaload, 1) := by decide +kernel
set_option maxRecDepth 20000 in
theorem dL_law_1392 : decode cL_law 1392 = .ok (.invokevirtual 167, 3) := by decide +kernel
set_option maxRecDepth 20000 in
theorem dL_law_1395 : decode cL_law 1395 = .ok (.aload_n 2, 1) := by decide +kernel
set_option maxRecDepth 20000 in
theorem dL_law_1396 : decode cL_law 1396 = .ok (.aload_n 0, 1) := by decide +kernel
set_option maxRecDepth 20000 in
theorem dL_law_1397 : decode cL_law 1397 = .ok (.iload_n 3, 1) := by decide +kernel
set_option maxRecDepth 20000 in
theorem dL_law_1398 : decode cL_law 1398 = .ok (.iconst 1, 1) := by decide +kernel
set_option maxRecDepth 20000 in
theorem dL_law_1399 : decode cL_law 1399 = .ok (.iadd, 1) := by decide +kernel
set_option maxRecDepth 20000 in
theorem dL_law_1400 : decode cL_law 1400 = .ok (.iaload, 1) := by decide +kernel
set_option maxRecDepth 20000 in
theorem dL_law_1401 : decode cL_law 1401 = .ok (.invokevirtual 170, 3) := by decide +kernel
set_option maxRecDepth 20000 in
theorem dL_law_1404 : decode cL_law 1404 = .ok (.if_icmp .eq 113, 3) := by decide +kernel
set_option maxRecDepth 20000 in
theorem dL_law_1407 : decode cL_law 1407 = .ok (.iconst 0, 1) := by decide +kernel
set_option maxRecDepth 20000 in
theorem dL_law_1408 : decode cL_law 1408 = .ok (.ireturn, 1) := by decide +kernel
set_option maxRecDepth 20000 in
theorem dL_law_1409 : decode cL_law 1409 = .ok (.aload_n 1, 1) := by decide +kernel
set_option maxRecDepth 20000 in
theorem dL_law_1410 : decode cL_law 1410 = .ok (.aload_n 0, 1) := by decide +kernel
set_option maxRecDepth 20000 in
theorem dL_law_1411 : decode cL_law 1411 = .ok (.iload_n 3, 1) := by decide +kernel
set_option maxRecDepth 20000 in
theorem dL_law_1412 : decode cL_law 1412 = .ok (.iconst 1, 1) := by decide +kernel
set_option maxRecDepth 20000 in
theorem dL_law_1413 : decode cL_law 1413 = .ok (.iadd, 1) := by decide +kernel
set_option maxRecDepth 20000 in
theorem dL_law_1414 : decode cL_law 1414 = .ok (.iaload, 1) := by decide +kernel
set_option maxRecDepth 20000 in
theorem dL_law_1415 : decode cL_law 1415 = .ok (.invokevirtual 171, 3) := by decide +kernel
set_option maxRecDepth 20000 in
theorem dL_law_1418 : decode cL_law 1418 = .ok (.aload_n 2, 1) := by decide +kernel
set_option maxRecDepth 20000 in
theorem dL_law_1419 : decode cL_law 1419 = .ok (.aload_n 0, 1) := by decide +kernel
set_option maxRecDepth 20000 in
theorem dL_law_1420 : decode cL_law 1420 = .ok (.iload_n 3, 1) := by decide +kernel
set_option maxRecDepth 20000 in
theorem dL_law_1421 : decode cL_law 1421 = .ok (.iconst 1, 1) := by decide +kernel
set_option maxRecDepth 20000 in
theorem dL_law_1422 : decode cL_law 1422 = .ok (.iadd, 1) := by decide +kernel
set_option maxRecDepth 20000 in
theorem dL_law_1423 : decode cL_law 1423 = .ok (.iaload, 1) := by decide +kernel
set_option maxRecDepth 20000 in
theorem dL_law_1424 : decode cL_law 1424 = .ok (.invokevirtual 174, 3) := by decide +kernel
set_option maxRecDepth 20000 in
theorem dL_law_1427 : decode cL_law 1427 = .ok (.if_icmp .eq 90, 3) := by decide +kernel
set_option maxRecDepth 20000 in
theorem dL_law_1430 : decode cL_law 1430 = .ok (.iconst 0, 1) := by decide +kernel
set_option maxRecDepth 20000 in
theorem dL_law_1431 : decode cL_law 1431 = .ok (.ireturn, 1) := by decide +kernel
set_option maxRecDepth 20000 in
theorem dL_law_1432 : decode cL_law 1432 = .ok (.aload_n 1, 1) := by decide +kernel
set_option maxRecDepth 20000 in
theorem dL_law_1433 : decode cL_law 1433 = .ok (.invokevirtual 175, 3) := by decide +kernel
set_option maxRecDepth 20000 in
theorem dL_law_1436 : decode cL_law 1436 = .ok (.aload_n 2, 1) := by decide +kernel
set_option maxRecDepth 20000 in
theorem dL_law_1437 : decode cL_law 1437 = .ok (.invokevirtual 178, 3) := by decide +kernel
set_option maxRecDepth 20000 in
theorem dL_law_1440 : decode cL_law 1440 = .ok (.if_icmp .eq 77, 3) := by decide +kernel
set_option maxRecDepth 20000 in
theorem dL_law_1443 : decode cL_law 1443 = .ok (.iconst 0, 1) := by decide +kernel
set_option maxRecDepth 20000 in
theorem dL_law_1444 : decode cL_law 1444 = .ok (.ireturn, 1) := by decide +kernel
set_option maxRecDepth 20000 in
theorem dL_law_1445 : decode cL_law 1445 = .ok (.aload_n 1, 1) := by decide +kernel
set_option maxRecDepth 20000 in
theorem dL_law_1446 : decode cL_law 1446 = .ok (.invokevirtual 179, 3) := by decide +kernel
set_option maxRecDepth 20000 in
theorem dL_law_1449 : decode cL_law 1449 = .ok (.aload_n 2, 1) := by decide +kernel
set_option maxRecDepth 20000 in
theorem dL_law_1450 : decode cL_law 1450 = .ok (.invokevirtual 182, 3) := by decide +kernel
set_option maxRecDepth 20000 in
theorem dL_law_1453 : decode cL_law 1453 = .ok (.if_icmp .eq 64, 3) := by decide +kernel
set_option maxRecDepth 20000 in
theorem dL_law_1456 : decode cL_law 1456 = .ok (.iconst 0, 1) := by decide +kernel
set_option maxRecDepth 20000 in
theorem dL_law_1457 : decode cL_law 1457 = .ok (.ireturn, 1) := by decide +kernel
set_option maxRecDepth 20000 in
theorem dL_law_1458 : decode cL_law 1458 = .ok (.aload_n 1, 1) := by decide +kernel
set_option maxRecDepth 20000 in
theorem dL_law_1459 : decode cL_law 1459 = .ok (.invokevirtual 183, 3) := by decide +kernel
set_option maxRecDepth 20000 in
theorem dL_law_1462 : decode cL_law 1462 = .ok (.aload_n 2, 1) := by decide +kernel
set_option maxRecDepth 20000 in
theorem dL_law_1463 : decode cL_law 1463 = .ok (.invokevirtual 186, 3) := by decide +kernel
set_option maxRecDepth 20000 in
theorem dL_law_1466 : decode cL_law 1466 = .ok (.if_icmp .eq 51, 3) := by decide +kernel
set_option maxRecDepth 20000 in
theorem dL_law_1469 : decode cL_law 1469 = .ok (.iconst 0, 1) := by decide +kernel
set_option maxRecDepth 20000 in
theorem dL_law_1470 : decode cL_law 1470 = .ok (.ireturn, 1) := by decide +kernel
set_option maxRecDepth 20000 in
theorem dL_law_1471 : decode cL_law 1471 = .ok (.aload_n 1, 1) := by decide +kernel
set_option maxRecDepth 20000 in
theorem dL_law_1472 : decode cL_law 1472 = .ok (.aload_n 0, 1) := by decide +kernel
set_option maxRecDepth 20000 in
theorem dL_law_1473 : decode cL_law 1473 = .ok (.iload_n 3, 1) := by decide +kernel
set_option maxRecDepth 20000 in
theorem dL_law_1474 : decode cL_law 1474 = .ok (.iconst 1, 1) := by decide +kernel
set_option maxRecDepth 20000 in
theorem dL_law_1475 : decode cL_law 1475 = .ok (.iadd, 1) := by decide +kernel
set_option maxRecDepth 20000 in
theorem dL_law_1476 : decode cL_law 1476 = .ok (.iaload, 1) := by decide +kernel
set_option maxRecDepth 20000 in
theorem dL_law_1477 : decode cL_law 1477 = .ok (.invokevirtual 187, 3) := by decide +kernel
set_option maxRecDepth 20000 in
theorem dL_law_1480 : decode cL_law 1480 = .ok (.aload_n 2, 1) := by decide +kernel
set_option maxRecDepth 20000 in
theorem dL_law_1481 : decode cL_law 1481 = .ok (.aload_n 0, 1) := by decide +kernel
set_option maxRecDepth 20000 in
theorem dL_law_1482 : decode cL_law 1482 = .ok (.iload_n 3, 1) := by decide +kernel
set_option maxRecDepth 20000 in
theorem dL_law_1483 : decode cL_law 1483 = .ok (.iconst 1, 1) := by decide +kernel
set_option maxRecDepth 20000 in
theorem dL_law_1484 : decode cL_law 1484 = .ok (.iadd, 1) := by decide +kernel
set_option maxRecDepth 20000 in
theorem dL_law_1485 : decode cL_law 1485 = .ok (.iaload, 1) := by decide +kernel
set_option maxRecDepth 20000 in
theorem dL_law_1486 : decode cL_law 1486 = .ok (.invokevirtual 190, 3) := by decide +kernel
set_option maxRecDepth 20000 in
theorem dL_law_1489 : decode cL_law 1489 = .ok (.if_icmp .eq 28, 3) := by decide +kernel
set_option maxRecDepth 20000 in
theorem dL_law_1492 : decode cL_law 1492 = .ok (.iconst 0, 1) := by decide +kernel
set_option maxRecDepth 20000 in
theorem dL_law_1493 : decode cL_law 1493 = .ok (.ireturn, 1) := by decide +kernel
set_option maxRecDepth 20000 in
theorem dL_law_1494 : decode cL_law 1494 = .ok (.aload_n 1, 1) := by decide +kernel
set_option maxRecDepth 20000 in
theorem dL_law_1495 : decode cL_law 1495 = .ok (.aload_n 0, 1) := by decide +kernel
set_option maxRecDepth 20000 in
theorem dL_law_1496 : decode cL_law 1496 = .ok (.iload_n 3, 1) := by decide +kernel
set_option maxRecDepth 20000 in
theorem dL_law_1497 : decode cL_law 1497 = .ok (.iconst 1, 1) := by decide +kernel
set_option maxRecDepth 20000 in
theorem dL_law_1498 : decode cL_law 1498 = .ok (.iadd, 1) := by decide +kernel
set_option maxRecDepth 20000 in
theorem dL_law_1499 : decode cL_law 1499 = .ok (.iaload, 1) := by decide +kernel
set_option maxRecDepth 20000 in
theorem dL_law_1500 : decode cL_law 1500 = .ok (.invokevirtual 191, 3) := by decide +kernel
set_option maxRecDepth 20000 in
theorem dL_law_1503 : decode cL_law 1503 = .ok (.aload_n 2, 1) := by decide +kernel
set_option maxRecDepth 20000 in
theorem dL_law_1504 : decode cL_law 1504 = .ok (.aload_n 0, 1) := by decide +kernel
set_option maxRecDepth 20000 in
theorem dL_law_1505 : decode cL_law 1505 = .ok (.iload_n 3, 1) := by decide +kernel
set_option maxRecDepth 20000 in
theorem dL_law_1506 : decode cL_law 1506 = .ok (.iconst 1, 1) := by decide +kernel
set_option maxRecDepth 20000 in
theorem dL_law_1507 : decode cL_law 1507 = .ok (.iadd, 1) := by decide +kernel
set_option maxRecDepth 20000 in
theorem dL_law_1508 : decode cL_law 1508 = .ok (.iaload, 1) := by decide +kernel
set_option maxRecDepth 20000 in
theorem dL_law_1509 : decode cL_law 1509 = .ok (.invokevirtual 194, 3) := by decide +kernel
set_option maxRecDepth 20000 in
theorem dL_law_1512 : decode cL_law 1512 = .ok (.if_icmp .eq 5, 3) := by decide +kernel
set_option maxRecDepth 20000 in
theorem dL_law_1515 : decode cL_law 1515 = .ok (.iconst 0, 1) := by decide +kernel
set_option maxRecDepth 20000 in
theorem dL_law_1516 : decode cL_law 1516 = .ok (.ireturn, 1) := by decide +kernel
set_option maxRecDepth 20000 in
theorem dL_law_1517 : decode cL_law 1517 = .ok (.iinc 3 6, 3) := by decide +kernel
set_option maxRecDepth 20000 in
theorem dL_law_1520 : decode cL_law 1520 = .ok (.goto (-1502), 3) := by decide +kernel
set_option maxRecDepth 20000 in
theorem dL_law_1523 : decode cL_law 1523 = .ok (.iconst 1, 1) := by decide +kernel
set_option maxRecDepth 20000 in
theorem dL_law_1524 : decode cL_law 1524 = .ok (.ireturn, 1) := by decide +kernel
end
