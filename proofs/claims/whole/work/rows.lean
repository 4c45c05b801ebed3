section
-- ===== PART A: goes FIRST, ahead of the names: the tables' words, and 'selects' of the private methods out of them =====
/-- a private method of a class that the tables say can be made, by its rows of tables_1 -/
def lw_okq (q : MethodName × Nat) : Prop := (q.1.cls ≠ "java/lang/invoke/MethodHandle" ∧ q.1.cls ≠ "java/lang/invoke/VarHandle") ∧ Cond.instantiable q.1.cls q.2 ∈ tables_1 ∧ Cond.privateMethod q.1 ∈ tables_1 ∧ Cond.instanceMethod q.1 ∈ tables_1
theorem lw_p0 : lw_okq (⟨"BoothFlash", "finding", "(I)I"⟩, 7) := ⟨⟨by decide +kernel, by decide +kernel⟩, List.mem_of_getElem? (i := 15) (by decide +kernel), List.mem_of_getElem? (i := 195) (by decide +kernel), List.mem_of_getElem? (i := 196) (by decide +kernel)⟩
theorem lw_p1 : lw_okq (⟨"BoothFlash", "sheetAt", "(I)LBoothFlash$Sheet;"⟩, 7) := ⟨⟨by decide +kernel, by decide +kernel⟩, List.mem_of_getElem? (i := 15) (by decide +kernel), List.mem_of_getElem? (i := 471) (by decide +kernel), List.mem_of_getElem? (i := 472) (by decide +kernel)⟩
theorem lw_p2 : lw_okq (⟨"BoothFlash", "isTallAsTold", "(LBoothFlash$Sheet;II)Z"⟩, 7) := ⟨⟨by decide +kernel, by decide +kernel⟩, List.mem_of_getElem? (i := 15) (by decide +kernel), List.mem_of_getElem? (i := 483) (by decide +kernel), List.mem_of_getElem? (i := 484) (by decide +kernel)⟩
theorem lw_p3 : lw_okq (⟨"BoothFlash", "isKindAsTold", "(LBoothFlash$Sheet;II)Z"⟩, 7) := ⟨⟨by decide +kernel, by decide +kernel⟩, List.mem_of_getElem? (i := 15) (by decide +kernel), List.mem_of_getElem? (i := 507) (by decide +kernel), List.mem_of_getElem? (i := 508) (by decide +kernel)⟩
theorem lw_p4 : lw_okq (⟨"BoothFlash", "lightsWithoutFaults", "(II)I"⟩, 7) := ⟨⟨by decide +kernel, by decide +kernel⟩, List.mem_of_getElem? (i := 15) (by decide +kernel), List.mem_of_getElem? (i := 524) (by decide +kernel), List.mem_of_getElem? (i := 525) (by decide +kernel)⟩
theorem lw_p5 : lw_okq (⟨"BoothFlashModel", "become", "(II)I"⟩, 22) := ⟨⟨by decide +kernel, by decide +kernel⟩, List.mem_of_getElem? (i := 758) (by decide +kernel), List.mem_of_getElem? (i := 851) (by decide +kernel), List.mem_of_getElem? (i := 852) (by decide +kernel)⟩
theorem lw_p6 : lw_okq (⟨"BoothFlashModel", "finding", "(I)I"⟩, 22) := ⟨⟨by decide +kernel, by decide +kernel⟩, List.mem_of_getElem? (i := 758) (by decide +kernel), List.mem_of_getElem? (i := 856) (by decide +kernel), List.mem_of_getElem? (i := 857) (by decide +kernel)⟩
theorem lw_p7 : lw_okq (⟨"BoothFlashModel", "isInQueue", "(I)Z"⟩, 22) := ⟨⟨by decide +kernel, by decide +kernel⟩, List.mem_of_getElem? (i := 758) (by decide +kernel), List.mem_of_getElem? (i := 871) (by decide +kernel), List.mem_of_getElem? (i := 872) (by decide +kernel)⟩
theorem lw_p8 : lw_okq (⟨"BoothFlashModel", "isSitter", "(I)Z"⟩, 22) := ⟨⟨by decide +kernel, by decide +kernel⟩, List.mem_of_getElem? (i := 758) (by decide +kernel), List.mem_of_getElem? (i := 875) (by decide +kernel), List.mem_of_getElem? (i := 876) (by decide +kernel)⟩
theorem lw_p9 : lw_okq (⟨"BoothFlashModel", "comes", "(IIIII)I"⟩, 22) := ⟨⟨by decide +kernel, by decide +kernel⟩, List.mem_of_getElem? (i := 758) (by decide +kernel), List.mem_of_getElem? (i := 891) (by decide +kernel), List.mem_of_getElem? (i := 892) (by decide +kernel)⟩
theorem lw_p10 : lw_okq (⟨"BoothFlashModel", "sitterIs", "(II)I"⟩, 22) := ⟨⟨by decide +kernel, by decide +kernel⟩, List.mem_of_getElem? (i := 758) (by decide +kernel), List.mem_of_getElem? (i := 902) (by decide +kernel), List.mem_of_getElem? (i := 903) (by decide +kernel)⟩
theorem lw_p11 : lw_okq (⟨"BoothFlashModel", "off", "(I)I"⟩, 22) := ⟨⟨by decide +kernel, by decide +kernel⟩, List.mem_of_getElem? (i := 758) (by decide +kernel), List.mem_of_getElem? (i := 906) (by decide +kernel), List.mem_of_getElem? (i := 907) (by decide +kernel)⟩
theorem lw_p12 : lw_okq (⟨"BoothFlashModel", "may", "(I)I"⟩, 22) := ⟨⟨by decide +kernel, by decide +kernel⟩, List.mem_of_getElem? (i := 758) (by decide +kernel), List.mem_of_getElem? (i := 911) (by decide +kernel), List.mem_of_getElem? (i := 912) (by decide +kernel)⟩
theorem lw_p13 : lw_okq (⟨"BoothFlashModel", "faultsNow", "(II)I"⟩, 22) := ⟨⟨by decide +kernel, by decide +kernel⟩, List.mem_of_getElem? (i := 758) (by decide +kernel), List.mem_of_getElem? (i := 929) (by decide +kernel), List.mem_of_getElem? (i := 930) (by decide +kernel)⟩
theorem lw_p14 : lw_okq (⟨"BoothFlashModel", "isShut", "(II)Z"⟩, 22) := ⟨⟨by decide +kernel, by decide +kernel⟩, List.mem_of_getElem? (i := 758) (by decide +kernel), List.mem_of_getElem? (i := 933) (by decide +kernel), List.mem_of_getElem? (i := 934) (by decide +kernel)⟩
theorem lw_p15 : lw_okq (⟨"BoothFlashModel", "isSmiling", "(II)Z"⟩, 22) := ⟨⟨by decide +kernel, by decide +kernel⟩, List.mem_of_getElem? (i := 758) (by decide +kernel), List.mem_of_getElem? (i := 937) (by decide +kernel), List.mem_of_getElem? (i := 938) (by decide +kernel)⟩
def lw_privs_1 : List (MethodName × Nat) := [(⟨"BoothFlash", "finding", "(I)I"⟩, 7), (⟨"BoothFlash", "sheetAt", "(I)LBoothFlash$Sheet;"⟩, 7), (⟨"BoothFlash", "isTallAsTold", "(LBoothFlash$Sheet;II)Z"⟩, 7), (⟨"BoothFlash", "isKindAsTold", "(LBoothFlash$Sheet;II)Z"⟩, 7), (⟨"BoothFlash", "lightsWithoutFaults", "(II)I"⟩, 7), (⟨"BoothFlashModel", "become", "(II)I"⟩, 22), (⟨"BoothFlashModel", "finding", "(I)I"⟩, 22), (⟨"BoothFlashModel", "isInQueue", "(I)Z"⟩, 22), (⟨"BoothFlashModel", "isSitter", "(I)Z"⟩, 22), (⟨"BoothFlashModel", "comes", "(IIIII)I"⟩, 22), (⟨"BoothFlashModel", "sitterIs", "(II)I"⟩, 22), (⟨"BoothFlashModel", "off", "(I)I"⟩, 22), (⟨"BoothFlashModel", "may", "(I)I"⟩, 22), (⟨"BoothFlashModel", "faultsNow", "(II)I"⟩, 22), (⟨"BoothFlashModel", "isShut", "(II)Z"⟩, 22), (⟨"BoothFlashModel", "isSmiling", "(II)Z"⟩, 22)]
theorem lw_r1 : ∀ q ∈ lw_privs_1, lw_okq q := List.forall_mem_cons.mpr ⟨lw_p0, List.forall_mem_cons.mpr ⟨lw_p1, List.forall_mem_cons.mpr ⟨lw_p2, List.forall_mem_cons.mpr ⟨lw_p3, List.forall_mem_cons.mpr ⟨lw_p4, List.forall_mem_cons.mpr ⟨lw_p5, List.forall_mem_cons.mpr ⟨lw_p6, List.forall_mem_cons.mpr ⟨lw_p7, List.forall_mem_cons.mpr ⟨lw_p8, List.forall_mem_cons.mpr ⟨lw_p9, List.forall_mem_cons.mpr ⟨lw_p10, List.forall_mem_cons.mpr ⟨lw_p11, List.forall_mem_cons.mpr ⟨lw_p12, List.forall_mem_cons.mpr ⟨lw_p13, List.forall_mem_cons.mpr ⟨lw_p14, List.forall_mem_cons.mpr ⟨lw_p15, fun _ h => absurd h List.not_mem_nil⟩⟩⟩⟩⟩⟩⟩⟩⟩⟩⟩⟩⟩⟩⟩⟩
theorem lw_p16 : lw_okq (⟨"BoothFlashModel", "isShining", "(I)Z"⟩, 22) := ⟨⟨by decide +kernel, by decide +kernel⟩, List.mem_of_getElem? (i := 758) (by decide +kernel), List.mem_of_getElem? (i := 941) (by decide +kernel), List.mem_of_getElem? (i := 942) (by decide +kernel)⟩
theorem lw_p17 : lw_okq (⟨"BoothFlashModel", "minutes", "(I)V"⟩, 22) := ⟨⟨by decide +kernel, by decide +kernel⟩, List.mem_of_getElem? (i := 758) (by decide +kernel), List.mem_of_getElem? (i := 957) (by decide +kernel), List.mem_of_getElem? (i := 958) (by decide +kernel)⟩
theorem lw_p18 : lw_okq (⟨"BoothFlashModel", "minute", "()V"⟩, 22) := ⟨⟨by decide +kernel, by decide +kernel⟩, List.mem_of_getElem? (i := 758) (by decide +kernel), List.mem_of_getElem? (i := 961) (by decide +kernel), List.mem_of_getElem? (i := 962) (by decide +kernel)⟩
theorem lw_p19 : lw_okq (⟨"BoothFlashModel", "next", "()I"⟩, 22) := ⟨⟨by decide +kernel, by decide +kernel⟩, List.mem_of_getElem? (i := 758) (by decide +kernel), List.mem_of_getElem? (i := 965) (by decide +kernel), List.mem_of_getElem? (i := 966) (by decide +kernel)⟩
theorem lw_p20 : lw_okq (⟨"BoothFlashModel", "sits", "(I)V"⟩, 22) := ⟨⟨by decide +kernel, by decide +kernel⟩, List.mem_of_getElem? (i := 758) (by decide +kernel), List.mem_of_getElem? (i := 969) (by decide +kernel), List.mem_of_getElem? (i := 970) (by decide +kernel)⟩
theorem lw_p21 : lw_okq (⟨"BoothFlashModel", "turnsStool", "(I)V"⟩, 22) := ⟨⟨by decide +kernel, by decide +kernel⟩, List.mem_of_getElem? (i := 758) (by decide +kernel), List.mem_of_getElem? (i := 974) (by decide +kernel), List.mem_of_getElem? (i := 975) (by decide +kernel)⟩
theorem lw_p22 : lw_okq (⟨"BoothFlashModel", "isGood", "(I)Z"⟩, 22) := ⟨⟨by decide +kernel, by decide +kernel⟩, List.mem_of_getElem? (i := 758) (by decide +kernel), List.mem_of_getElem? (i := 979) (by decide +kernel), List.mem_of_getElem? (i := 980) (by decide +kernel)⟩
theorem lw_p23 : lw_okq (⟨"BoothFlashModel", "sumOf", "(I)I"⟩, 22) := ⟨⟨by decide +kernel, by decide +kernel⟩, List.mem_of_getElem? (i := 758) (by decide +kernel), List.mem_of_getElem? (i := 983) (by decide +kernel), List.mem_of_getElem? (i := 984) (by decide +kernel)⟩
theorem lw_p24 : lw_okq (⟨"BoothFlashModel", "goodOnes", "()I"⟩, 22) := ⟨⟨by decide +kernel, by decide +kernel⟩, List.mem_of_getElem? (i := 758) (by decide +kernel), List.mem_of_getElem? (i := 991) (by decide +kernel), List.mem_of_getElem? (i := 992) (by decide +kernel)⟩
theorem lw_p25 : lw_okq (⟨"BoothFlashModel", "commonFaults", "()I"⟩, 22) := ⟨⟨by decide +kernel, by decide +kernel⟩, List.mem_of_getElem? (i := 758) (by decide +kernel), List.mem_of_getElem? (i := 995) (by decide +kernel), List.mem_of_getElem? (i := 996) (by decide +kernel)⟩
theorem lw_p26 : lw_okq (⟨"BoothFlashModel", "behind", "(II)I"⟩, 22) := ⟨⟨by decide +kernel, by decide +kernel⟩, List.mem_of_getElem? (i := 758) (by decide +kernel), List.mem_of_getElem? (i := 1003) (by decide +kernel), List.mem_of_getElem? (i := 1004) (by decide +kernel)⟩
theorem lw_p27 : lw_okq (⟨"BoothFlashModel", "putBack", "(I)I"⟩, 22) := ⟨⟨by decide +kernel, by decide +kernel⟩, List.mem_of_getElem? (i := 758) (by decide +kernel), List.mem_of_getElem? (i := 1010) (by decide +kernel), List.mem_of_getElem? (i := 1011) (by decide +kernel)⟩
theorem lw_p28 : lw_okq (⟨"BoothFlashModel", "orNone", "(I)I"⟩, 22) := ⟨⟨by decide +kernel, by decide +kernel⟩, List.mem_of_getElem? (i := 758) (by decide +kernel), List.mem_of_getElem? (i := 1022) (by decide +kernel), List.mem_of_getElem? (i := 1023) (by decide +kernel)⟩
theorem lw_p29 : lw_okq (⟨"BoothFlashModel", "areAllTaken", "()Z"⟩, 22) := ⟨⟨by decide +kernel, by decide +kernel⟩, List.mem_of_getElem? (i := 758) (by decide +kernel), List.mem_of_getElem? (i := 1035) (by decide +kernel), List.mem_of_getElem? (i := 1036) (by decide +kernel)⟩
theorem lw_p30 : lw_okq (⟨"BoothFlashModel", "faultsTogether", "(I)I"⟩, 22) := ⟨⟨by decide +kernel, by decide +kernel⟩, List.mem_of_getElem? (i := 758) (by decide +kernel), List.mem_of_getElem? (i := 1043) (by decide +kernel), List.mem_of_getElem? (i := 1044) (by decide +kernel)⟩
theorem lw_p31 : lw_okq (⟨"BoothFlashModel", "isTakenWith", "(IIII)Z"⟩, 22) := ⟨⟨by decide +kernel, by decide +kernel⟩, List.mem_of_getElem? (i := 758) (by decide +kernel), List.mem_of_getElem? (i := 1054) (by decide +kernel), List.mem_of_getElem? (i := 1055) (by decide +kernel)⟩
def lw_privs_2 : List (MethodName × Nat) := [(⟨"BoothFlashModel", "isShining", "(I)Z"⟩, 22), (⟨"BoothFlashModel", "minutes", "(I)V"⟩, 22), (⟨"BoothFlashModel", "minute", "()V"⟩, 22), (⟨"BoothFlashModel", "next", "()I"⟩, 22), (⟨"BoothFlashModel", "sits", "(I)V"⟩, 22), (⟨"BoothFlashModel", "turnsStool", "(I)V"⟩, 22), (⟨"BoothFlashModel", "isGood", "(I)Z"⟩, 22), (⟨"BoothFlashModel", "sumOf", "(I)I"⟩, 22), (⟨"BoothFlashModel", "goodOnes", "()I"⟩, 22), (⟨"BoothFlashModel", "commonFaults", "()I"⟩, 22), (⟨"BoothFlashModel", "behind", "(II)I"⟩, 22), (⟨"BoothFlashModel", "putBack", "(I)I"⟩, 22), (⟨"BoothFlashModel", "orNone", "(I)I"⟩, 22), (⟨"BoothFlashModel", "areAllTaken", "()Z"⟩, 22), (⟨"BoothFlashModel", "faultsTogether", "(I)I"⟩, 22), (⟨"BoothFlashModel", "isTakenWith", "(IIII)Z"⟩, 22)]
theorem lw_r2 : ∀ q ∈ lw_privs_2, lw_okq q := List.forall_mem_cons.mpr ⟨lw_p16, List.forall_mem_cons.mpr ⟨lw_p17, List.forall_mem_cons.mpr ⟨lw_p18, List.forall_mem_cons.mpr ⟨lw_p19, List.forall_mem_cons.mpr ⟨lw_p20, List.forall_mem_cons.mpr ⟨lw_p21, List.forall_mem_cons.mpr ⟨lw_p22, List.forall_mem_cons.mpr ⟨lw_p23, List.forall_mem_cons.mpr ⟨lw_p24, List.forall_mem_cons.mpr ⟨lw_p25, List.forall_mem_cons.mpr ⟨lw_p26, List.forall_mem_cons.mpr ⟨lw_p27, List.forall_mem_cons.mpr ⟨lw_p28, List.forall_mem_cons.mpr ⟨lw_p29, List.forall_mem_cons.mpr ⟨lw_p30, List.forall_mem_cons.mpr ⟨lw_p31, fun _ h => absurd h List.not_mem_nil⟩⟩⟩⟩⟩⟩⟩⟩⟩⟩⟩⟩⟩⟩⟩⟩
theorem lw_p32 : lw_okq (⟨"BoothFlashModel", "takenWith", "(IIII)I"⟩, 22) := ⟨⟨by decide +kernel, by decide +kernel⟩, List.mem_of_getElem? (i := 758) (by decide +kernel), List.mem_of_getElem? (i := 1066) (by decide +kernel), List.mem_of_getElem? (i := 1067) (by decide +kernel)⟩
theorem lw_p33 : lw_okq (⟨"BoothFlashModel", "takenWithout", "(III)I"⟩, 22) := ⟨⟨by decide +kernel, by decide +kernel⟩, List.mem_of_getElem? (i := 758) (by decide +kernel), List.mem_of_getElem? (i := 1085) (by decide +kernel), List.mem_of_getElem? (i := 1086) (by decide +kernel)⟩
theorem lw_p34 : lw_okq (⟨"BoothFlashModel", "lacks", "(IZ)I"⟩, 22) := ⟨⟨by decide +kernel, by decide +kernel⟩, List.mem_of_getElem? (i := 758) (by decide +kernel), List.mem_of_getElem? (i := 1093) (by decide +kernel), List.mem_of_getElem? (i := 1094) (by decide +kernel)⟩
theorem lw_p35 : lw_okq (⟨"BoothFlashModel", "fitTall", "(II)V"⟩, 22) := ⟨⟨by decide +kernel, by decide +kernel⟩, List.mem_of_getElem? (i := 758) (by decide +kernel), List.mem_of_getElem? (i := 1101) (by decide +kernel), List.mem_of_getElem? (i := 1102) (by decide +kernel)⟩
theorem lw_p36 : lw_okq (⟨"BoothFlashModel", "areFaultsSo", "(II)Z"⟩, 22) := ⟨⟨by decide +kernel, by decide +kernel⟩, List.mem_of_getElem? (i := 758) (by decide +kernel), List.mem_of_getElem? (i := 1105) (by decide +kernel), List.mem_of_getElem? (i := 1106) (by decide +kernel)⟩
theorem lw_p37 : lw_okq (⟨"BoothFlashModel", "wasTakenSo", "(II)Z"⟩, 22) := ⟨⟨by decide +kernel, by decide +kernel⟩, List.mem_of_getElem? (i := 758) (by decide +kernel), List.mem_of_getElem? (i := 1117) (by decide +kernel), List.mem_of_getElem? (i := 1118) (by decide +kernel)⟩
theorem lw_p38 : lw_okq (⟨"BoothFlashModel", "drawn", "()I"⟩, 22) := ⟨⟨by decide +kernel, by decide +kernel⟩, List.mem_of_getElem? (i := 758) (by decide +kernel), List.mem_of_getElem? (i := 1125) (by decide +kernel), List.mem_of_getElem? (i := 1126) (by decide +kernel)⟩
theorem lw_p39 : lw_okq (⟨"BoothFlashModel", "token", "()V"⟩, 22) := ⟨⟨by decide +kernel, by decide +kernel⟩, List.mem_of_getElem? (i := 758) (by decide +kernel), List.mem_of_getElem? (i := 1150) (by decide +kernel), List.mem_of_getElem? (i := 1151) (by decide +kernel)⟩
theorem lw_p40 : lw_okq (⟨"BoothFlashModel", "byteAt", "(I)I"⟩, 22) := ⟨⟨by decide +kernel, by decide +kernel⟩, List.mem_of_getElem? (i := 758) (by decide +kernel), List.mem_of_getElem? (i := 1154) (by decide +kernel), List.mem_of_getElem? (i := 1155) (by decide +kernel)⟩
theorem lw_p41 : lw_okq (⟨"BoothFlashModel", "readItem", "()V"⟩, 22) := ⟨⟨by decide +kernel, by decide +kernel⟩, List.mem_of_getElem? (i := 758) (by decide +kernel), List.mem_of_getElem? (i := 1158) (by decide +kernel), List.mem_of_getElem? (i := 1159) (by decide +kernel)⟩
theorem lw_p42 : lw_okq (⟨"BoothFlashModel", "kindTold", "()I"⟩, 22) := ⟨⟨by decide +kernel, by decide +kernel⟩, List.mem_of_getElem? (i := 758) (by decide +kernel), List.mem_of_getElem? (i := 1162) (by decide +kernel), List.mem_of_getElem? (i := 1163) (by decide +kernel)⟩
theorem lw_p43 : lw_okq (⟨"BoothFlashModel", "isWord", "(Ljava/lang/String;)Z"⟩, 22) := ⟨⟨by decide +kernel, by decide +kernel⟩, List.mem_of_getElem? (i := 758) (by decide +kernel), List.mem_of_getElem? (i := 1166) (by decide +kernel), List.mem_of_getElem? (i := 1167) (by decide +kernel)⟩
theorem lw_p44 : lw_okq (⟨"BoothFlashModel", "readSitter", "(I)V"⟩, 22) := ⟨⟨by decide +kernel, by decide +kernel⟩, List.mem_of_getElem? (i := 758) (by decide +kernel), List.mem_of_getElem? (i := 1172) (by decide +kernel), List.mem_of_getElem? (i := 1173) (by decide +kernel)⟩
theorem lw_p45 : lw_okq (⟨"BoothFlashModel", "must", "(Z)V"⟩, 22) := ⟨⟨by decide +kernel, by decide +kernel⟩, List.mem_of_getElem? (i := 758) (by decide +kernel), List.mem_of_getElem? (i := 1176) (by decide +kernel), List.mem_of_getElem? (i := 1177) (by decide +kernel)⟩
theorem lw_p46 : lw_okq (⟨"BoothFlashModel", "perhaps", "(Ljava/lang/String;II)I"⟩, 22) := ⟨⟨by decide +kernel, by decide +kernel⟩, List.mem_of_getElem? (i := 758) (by decide +kernel), List.mem_of_getElem? (i := 1181) (by decide +kernel), List.mem_of_getElem? (i := 1182) (by decide +kernel)⟩
theorem lw_p47 : lw_okq (⟨"BoothFlashModel", "number", "(II)I"⟩, 22) := ⟨⟨by decide +kernel, by decide +kernel⟩, List.mem_of_getElem? (i := 758) (by decide +kernel), List.mem_of_getElem? (i := 1185) (by decide +kernel), List.mem_of_getElem? (i := 1186) (by decide +kernel)⟩
def lw_privs_3 : List (MethodName × Nat) := [(⟨"BoothFlashModel", "takenWith", "(IIII)I"⟩, 22), (⟨"BoothFlashModel", "takenWithout", "(III)I"⟩, 22), (⟨"BoothFlashModel", "lacks", "(IZ)I"⟩, 22), (⟨"BoothFlashModel", "fitTall", "(II)V"⟩, 22), (⟨"BoothFlashModel", "areFaultsSo", "(II)Z"⟩, 22), (⟨"BoothFlashModel", "wasTakenSo", "(II)Z"⟩, 22), (⟨"BoothFlashModel", "drawn", "()I"⟩, 22), (⟨"BoothFlashModel", "token", "()V"⟩, 22), (⟨"BoothFlashModel", "byteAt", "(I)I"⟩, 22), (⟨"BoothFlashModel", "readItem", "()V"⟩, 22), (⟨"BoothFlashModel", "kindTold", "()I"⟩, 22), (⟨"BoothFlashModel", "isWord", "(Ljava/lang/String;)Z"⟩, 22), (⟨"BoothFlashModel", "readSitter", "(I)V"⟩, 22), (⟨"BoothFlashModel", "must", "(Z)V"⟩, 22), (⟨"BoothFlashModel", "perhaps", "(Ljava/lang/String;II)I"⟩, 22), (⟨"BoothFlashModel", "number", "(II)I"⟩, 22)]
theorem lw_r3 : ∀ q ∈ lw_privs_3, lw_okq q := List.forall_mem_cons.mpr ⟨lw_p32, List.forall_mem_cons.mpr ⟨lw_p33, List.forall_mem_cons.mpr ⟨lw_p34, List.forall_mem_cons.mpr ⟨lw_p35, List.forall_mem_cons.mpr ⟨lw_p36, List.forall_mem_cons.mpr ⟨lw_p37, List.forall_mem_cons.mpr ⟨lw_p38, List.forall_mem_cons.mpr ⟨lw_p39, List.forall_mem_cons.mpr ⟨lw_p40, List.forall_mem_cons.mpr ⟨lw_p41, List.forall_mem_cons.mpr ⟨lw_p42, List.forall_mem_cons.mpr ⟨lw_p43, List.forall_mem_cons.mpr ⟨lw_p44, List.forall_mem_cons.mpr ⟨lw_p45, List.forall_mem_cons.mpr ⟨lw_p46, List.forall_mem_cons.mpr ⟨lw_p47, fun _ h => absurd h List.not_mem_nil⟩⟩⟩⟩⟩⟩⟩⟩⟩⟩⟩⟩⟩⟩⟩⟩
theorem lw_p48 : lw_okq (⟨"BoothFlashModel", "addItem", "(II)V"⟩, 22) := ⟨⟨by decide +kernel, by decide +kernel⟩, List.mem_of_getElem? (i := 758) (by decide +kernel), List.mem_of_getElem? (i := 1189) (by decide +kernel), List.mem_of_getElem? (i := 1190) (by decide +kernel)⟩
theorem lw_p49 : lw_okq (⟨"BoothFlashModel", "readQueue", "()V"⟩, 22) := ⟨⟨by decide +kernel, by decide +kernel⟩, List.mem_of_getElem? (i := 758) (by decide +kernel), List.mem_of_getElem? (i := 1197) (by decide +kernel), List.mem_of_getElem? (i := 1198) (by decide +kernel)⟩
theorem lw_p50 : lw_okq (⟨"BoothFlashModel", "readNumber", "(II)V"⟩, 22) := ⟨⟨by decide +kernel, by decide +kernel⟩, List.mem_of_getElem? (i := 758) (by decide +kernel), List.mem_of_getElem? (i := 1202) (by decide +kernel), List.mem_of_getElem? (i := 1203) (by decide +kernel)⟩
theorem lw_p51 : lw_okq (⟨"BoothFlashModel", "isToldSo", "(I)V"⟩, 22) := ⟨⟨by decide +kernel, by decide +kernel⟩, List.mem_of_getElem? (i := 758) (by decide +kernel), List.mem_of_getElem? (i := 1208) (by decide +kernel), List.mem_of_getElem? (i := 1209) (by decide +kernel)⟩
def lw_privs_4 : List (MethodName × Nat) := [(⟨"BoothFlashModel", "addItem", "(II)V"⟩, 22), (⟨"BoothFlashModel", "readQueue", "()V"⟩, 22), (⟨"BoothFlashModel", "readNumber", "(II)V"⟩, 22), (⟨"BoothFlashModel", "isToldSo", "(I)V"⟩, 22)]
theorem lw_r4 : ∀ q ∈ lw_privs_4, lw_okq q := List.forall_mem_cons.mpr ⟨lw_p48, List.forall_mem_cons.mpr ⟨lw_p49, List.forall_mem_cons.mpr ⟨lw_p50, List.forall_mem_cons.mpr ⟨lw_p51, fun _ h => absurd h List.not_mem_nil⟩⟩⟩⟩
def lw_privs : List (MethodName × Nat) := lw_privs_1 ++ (lw_privs_2 ++ (lw_privs_3 ++ (lw_privs_4)))
def lw_tbl : List Cond := k2_sels lw_privs ++ tables_1
theorem lw_privs_ok : ∀ q ∈ lw_privs, lw_okq q := by
  show ∀ q ∈ lw_privs_1 ++ (lw_privs_2 ++ (lw_privs_3 ++ (lw_privs_4))), lw_okq q
  exact List.forall_mem_append.mpr ⟨lw_r1, List.forall_mem_append.mpr ⟨lw_r2, List.forall_mem_append.mpr ⟨lw_r3, lw_r4⟩⟩⟩
end
section
/-! names, decode rows: begun as claim/NAMES.whole.lean.txt (a starting text); the words of the tables by their places -/
/-- the tables' words that every method may carry along -/
def TT : List Cond := lw_tbl.filter goodWord
theorem tt_in {w : Cond} (h : w ∈ tables_1) (g : goodWord w = true) : w ∈ TT := List.mem_filter.mpr ⟨List.mem_append_right _ h, g⟩
theorem tt_0 {w : Cond} (i : Nat) (h : (k2_sels lw_privs)[i]? = some w) (g : goodWord w = true) : w ∈ TT := List.mem_filter.mpr ⟨List.mem_append_left _ (List.mem_of_getElem? h), g⟩
theorem tt_1 {w : Cond} (i : Nat) (h : tables_1_1[i]? = some w) (g : goodWord w = true) : w ∈ TT := tt_in (List.mem_append_left _ (List.mem_of_getElem? h)) g
theorem tt_2 {w : Cond} (i : Nat) (h : tables_1_2[i]? = some w) (g : goodWord w = true) : w ∈ TT := tt_in (List.mem_append_right _ (List.mem_append_left _ (List.mem_of_getElem? h))) g
theorem tt_3 {w : Cond} (i : Nat) (h : tables_1_3[i]? = some w) (g : goodWord w = true) : w ∈ TT := tt_in (List.mem_append_right _ (List.mem_append_right _ (List.mem_append_left _ (List.mem_of_getElem? h)))) g
theorem tt_4 {w : Cond} (i : Nat) (h : tables_1_4[i]? = some w) (g : goodWord w = true) : w ∈ TT := tt_in (List.mem_append_right _ (List.mem_append_right _ (List.mem_append_right _ (List.mem_append_left _ (List.mem_of_getElem? h))))) g
theorem tt_5 {w : Cond} (i : Nat) (h : tables_1_5[i]? = some w) (g : goodWord w = true) : w ∈ TT := tt_in (List.mem_append_right _ (List.mem_append_right _ (List.mem_append_right _ (List.mem_append_right _ (List.mem_append_left _ (List.mem_of_getElem? h)))))) g
theorem tt_6 {w : Cond} (i : Nat) (h : tables_1_6[i]? = some w) (g : goodWord w = true) : w ∈ TT := tt_in (List.mem_append_right _ (List.mem_append_right _ (List.mem_append_right _ (List.mem_append_right _ (List.mem_append_right _ (List.mem_of_getElem? h)))))) g
theorem tt_good : ∀ w ∈ TT, goodWord w = true := fun w h => (List.mem_filter.mp h).2
theorem tt_tbl : ∀ w ∈ TT, w ∈ lw_tbl := fun w h => (List.mem_filter.mp h).1
def RX0 : String := "BoothFlash$Booth"
def TX0 : u_T := fun k => match k with
  | 0 => ("BoothFlash$Booth", "stool", "I", false)
  | 1 => ("BoothFlash$Booth", "light", "I", false)
  | 2 => ("BoothFlash$Booth", "price", "I", false)
  | 3 => ("BoothFlash$Booth", "till", "I", false)
  | 4 => ("BoothFlash$Booth", "minute", "I", false)
  | 5 => ("BoothFlash$Booth", "z", "I", false)
  | 6 => ("BoothFlash$Booth", "sitterCount", "I", false)
  | 7 => ("BoothFlash$Booth", "sitters", "[LBoothFlash$Sitter;", true)
  | 8 => ("BoothFlash$Booth", "places", "[I", true)
  | _ => ("BoothFlash$Booth", "spots", "[I", true)
def tyX0 : Nat → FieldType := fun k => match k with
  | 0 => .int
  | 1 => .int
  | 2 => .int
  | 3 => .int
  | 4 => .int
  | 5 => .int
  | 6 => .int
  | 7 => .array (.object "BoothFlash$Sitter")
  | 8 => .array .int
  | _ => .array .int
abbrev wsX00 : List Cond := u_ws RX0 TX0 10
theorem nmX0 : ∀ a, a < 10 → ∀ b, b < 10 → a ≠ b → (TX0 a).2.1 ≠ (TX0 b).2.1 := by decide +kernel
theorem tyX0_ok : ∀ k, k < 10 → parseFieldDescriptor (TX0 k).2.2.1 = some (tyX0 k) := by decide +kernel
abbrev cX0_init : ByteArray := prog_2_method_1_code
def yX0_init : MethodName := ⟨RX0, "<init>", "()V"⟩
abbrev cX0_become : ByteArray := prog_2_method_2_code
def yX0_become : MethodName := ⟨RX0, "become", "(LBoothFlash$Booth;)V"⟩
abbrev cX0_isPart : ByteArray := prog_2_method_3_code
def yX0_isPart : MethodName := ⟨RX0, "isPart", "(I)Z"⟩
abbrev cX0_mostOf : ByteArray := prog_2_method_4_code
def yX0_mostOf : MethodName := ⟨RX0, "mostOf", "(I)I"⟩
abbrev cX0_part : ByteArray := prog_2_method_5_code
def yX0_part : MethodName := ⟨RX0, "part", "(I)I"⟩
abbrev cX0_putPart : ByteArray := prog_2_method_6_code
def yX0_putPart : MethodName := ⟨RX0, "putPart", "(II)V"⟩
abbrev cX0_isPlace : ByteArray := prog_2_method_7_code
def yX0_isPlace : MethodName := ⟨RX0, "isPlace", "(I)Z"⟩
abbrev cX0_nextPlace : ByteArray := prog_2_method_8_code
def yX0_nextPlace : MethodName := ⟨RX0, "nextPlace", "()I"⟩
abbrev cX0_whoIsIn : ByteArray := prog_2_method_9_code
def yX0_whoIsIn : MethodName := ⟨RX0, "whoIsIn", "(I)I"⟩
abbrev cX0_seat : ByteArray := prog_2_method_10_code
def yX0_seat : MethodName := ⟨RX0, "seat", "(II)V"⟩
abbrev cX0_emptyPlacesOf : ByteArray := prog_2_method_11_code
def yX0_emptyPlacesOf : MethodName := ⟨RX0, "emptyPlacesOf", "(I)V"⟩
abbrev cX0_isSitter : ByteArray := prog_2_method_12_code
def yX0_isSitter : MethodName := ⟨RX0, "isSitter", "(I)Z"⟩
abbrev cX0_isSomebodyOrNobody : ByteArray := prog_2_method_13_code
def yX0_isSomebodyOrNobody : MethodName := ⟨RX0, "isSomebodyOrNobody", "(I)Z"⟩
abbrev cX0_who : ByteArray := prog_2_method_14_code
def yX0_who : MethodName := ⟨RX0, "who", "(I)LBoothFlash$Sitter;"⟩
abbrev cX0_addSitter : ByteArray := prog_2_method_15_code
def yX0_addSitter : MethodName := ⟨RX0, "addSitter", "(I)I"⟩
abbrev cX0_partOf : ByteArray := prog_2_method_16_code
def yX0_partOf : MethodName := ⟨RX0, "partOf", "(II)I"⟩
abbrev cX0_give : ByteArray := prog_2_method_17_code
def yX0_give : MethodName := ⟨RX0, "give", "(III)V"⟩
abbrev cX0_sumOf : ByteArray := prog_2_method_18_code
def yX0_sumOf : MethodName := ⟨RX0, "sumOf", "(I)I"⟩
abbrev cX0_sitterSet : ByteArray := prog_2_method_19_code
def yX0_sitterSet : MethodName := ⟨RX0, "sitterSet", "()I"⟩
abbrev cX0_isEachTaken : ByteArray := prog_2_method_20_code
def yX0_isEachTaken : MethodName := ⟨RX0, "isEachTaken", "()Z"⟩
abbrev cX0_spotsInUse : ByteArray := prog_2_method_21_code
def yX0_spotsInUse : MethodName := ⟨RX0, "spotsInUse", "()I"⟩
abbrev cX0_faultsOf : ByteArray := prog_2_method_22_code
def yX0_faultsOf : MethodName := ⟨RX0, "faultsOf", "(LBoothFlash$Sitter;I)I"⟩
abbrev cX0_hasClearFlash : ByteArray := prog_2_method_23_code
def yX0_hasClearFlash : MethodName := ⟨RX0, "hasClearFlash", "(LBoothFlash$Sitter;)Z"⟩
abbrev cX0_sittersWithClearFlash : ByteArray := prog_2_method_24_code
def yX0_sittersWithClearFlash : MethodName := ⟨RX0, "sittersWithClearFlash", "()I"⟩
abbrev cX0_commonFaults : ByteArray := prog_2_method_25_code
def yX0_commonFaults : MethodName := ⟨RX0, "commonFaults", "()I"⟩
abbrev cX0_faultsTogether : ByteArray := prog_2_method_26_code
def yX0_faultsTogether : MethodName := ⟨RX0, "faultsTogether", "(I)I"⟩
abbrev cX0_passMinutes : ByteArray := prog_2_method_27_code
def yX0_passMinutes : MethodName := ⟨RX0, "passMinutes", "(I)V"⟩
abbrev cX0_passMinute : ByteArray := prog_2_method_28_code
def yX0_passMinute : MethodName := ⟨RX0, "passMinute", "()V"⟩
abbrev cX0_takePictures : ByteArray := prog_2_method_29_code
def yX0_takePictures : MethodName := ⟨RX0, "takePictures", "(LBoothFlash$Sitter;)V"⟩
abbrev cX0_turnStool : ByteArray := prog_2_method_30_code
def yX0_turnStool : MethodName := ⟨RX0, "turnStool", "(LBoothFlash$Sitter;)V"⟩
abbrev cX0_payOut : ByteArray := prog_2_method_31_code
def yX0_payOut : MethodName := ⟨RX0, "payOut", "()V"⟩
abbrev cX0_draw : ByteArray := prog_2_method_32_code
def yX0_draw : MethodName := ⟨RX0, "draw", "()I"⟩
def RX1 : String := "BoothFlash$Sheet"
def TX1 : u_T := fun k => match k with
  | 0 => ("BoothFlash$Sheet", "bits", "I", false)
  | 1 => ("BoothFlash$Sheet", "size", "I", false)
  | _ => ("BoothFlash$Sheet", "numbers", "[I", true)
def tyX1 : Nat → FieldType := fun k => match k with
  | 0 => .int
  | 1 => .int
  | _ => .array .int
abbrev wsX10 : List Cond := u_ws RX1 TX1 3
theorem nmX1 : ∀ a, a < 3 → ∀ b, b < 3 → a ≠ b → (TX1 a).2.1 ≠ (TX1 b).2.1 := by decide +kernel
theorem tyX1_ok : ∀ k, k < 3 → parseFieldDescriptor (TX1 k).2.2.1 = some (tyX1 k) := by decide +kernel
abbrev cX1_init : ByteArray := prog_3_method_1_code
def yX1_init : MethodName := ⟨RX1, "<init>", "()V"⟩
abbrev cX1_isWidth : ByteArray := prog_3_method_2_code
def yX1_isWidth : MethodName := ⟨RX1, "isWidth", "(I)Z"⟩
abbrev cX1_isMissing : ByteArray := prog_3_method_3_code
def yX1_isMissing : MethodName := ⟨RX1, "isMissing", "()Z"⟩
abbrev cX1_begin : ByteArray := prog_3_method_4_code
def yX1_begin : MethodName := ⟨RX1, "begin", "(II)V"⟩
abbrev cX1_hasNumber : ByteArray := prog_3_method_5_code
def yX1_hasNumber : MethodName := ⟨RX1, "hasNumber", "(I)Z"⟩
abbrev cX1_hasRange : ByteArray := prog_3_method_6_code
def yX1_hasRange : MethodName := ⟨RX1, "hasRange", "(II)Z"⟩
abbrev cX1_number : ByteArray := prog_3_method_7_code
def yX1_number : MethodName := ⟨RX1, "number", "(I)I"⟩
abbrev cX1_putNumber : ByteArray := prog_3_method_8_code
def yX1_putNumber : MethodName := ⟨RX1, "putNumber", "(II)Z"⟩
abbrev cX1_allows : ByteArray := prog_3_method_9_code
def yX1_allows : MethodName := ⟨RX1, "allows", "(II)Z"⟩
def RX2 : String := "BoothFlash$Sitter"
def TX2 : u_T := fun k => match k with
  | 0 => ("BoothFlash$Sitter", "kind", "I", false)
  | 1 => ("BoothFlash$Sitter", "tall", "I", false)
  | 2 => ("BoothFlash$Sitter", "still", "I", false)
  | 3 => ("BoothFlash$Sitter", "merry", "I", false)
  | 4 => ("BoothFlash$Sitter", "coins", "I", false)
  | 5 => ("BoothFlash$Sitter", "taken", "I", false)
  | _ => ("BoothFlash$Sitter", "tried", "I", false)
def tyX2 : Nat → FieldType := fun k => match k with
  | 0 => .int
  | 1 => .int
  | 2 => .int
  | 3 => .int
  | 4 => .int
  | 5 => .int
  | _ => .int
abbrev wsX20 : List Cond := u_ws RX2 TX2 7
theorem nmX2 : ∀ a, a < 7 → ∀ b, b < 7 → a ≠ b → (TX2 a).2.1 ≠ (TX2 b).2.1 := by decide +kernel
theorem tyX2_ok : ∀ k, k < 7 → parseFieldDescriptor (TX2 k).2.2.1 = some (tyX2 k) := by decide +kernel
abbrev cX2_init : ByteArray := prog_4_method_1_code
def yX2_init : MethodName := ⟨RX2, "<init>", "()V"⟩
abbrev cX2_begin : ByteArray := prog_4_method_2_code
def yX2_begin : MethodName := ⟨RX2, "begin", "(I)V"⟩
abbrev cX2_become : ByteArray := prog_4_method_3_code
def yX2_become : MethodName := ⟨RX2, "become", "(LBoothFlash$Sitter;)V"⟩
abbrev cX2_mostOf : ByteArray := prog_4_method_4_code
def yX2_mostOf : MethodName := ⟨RX2, "mostOf", "(I)I"⟩
abbrev cX2_part : ByteArray := prog_4_method_5_code
def yX2_part : MethodName := ⟨RX2, "part", "(I)I"⟩
abbrev cX2_putPart : ByteArray := prog_4_method_6_code
def yX2_putPart : MethodName := ⟨RX2, "putPart", "(II)V"⟩
abbrev cX2_kindAbove : ByteArray := prog_4_method_7_code
def yX2_kindAbove : MethodName := ⟨RX2, "kindAbove", "(I)I"⟩
abbrev cX2_isOfOrUnder : ByteArray := prog_4_method_8_code
def yX2_isOfOrUnder : MethodName := ⟨RX2, "isOfOrUnder", "(II)Z"⟩
abbrev cX2_off : ByteArray := prog_4_method_9_code
def yX2_off : MethodName := ⟨RX2, "off", "(I)I"⟩
abbrev cX2_mayBeOff : ByteArray := prog_4_method_10_code
def yX2_mayBeOff : MethodName := ⟨RX2, "mayBeOff", "()I"⟩
abbrev cX2_isShut : ByteArray := prog_4_method_11_code
def yX2_isShut : MethodName := ⟨RX2, "isShut", "(III)Z"⟩
abbrev cX2_isSmiling : ByteArray := prog_4_method_12_code
def yX2_isSmiling : MethodName := ⟨RX2, "isSmiling", "(I)Z"⟩
abbrev cX2_isShining : ByteArray := prog_4_method_13_code
def yX2_isShining : MethodName := ⟨RX2, "isShining", "(I)Z"⟩
def RX3 : String := "BoothFlash$Tape"
def TX3 : u_T := fun k => match k with
  | 0 => ("BoothFlash$Tape", "bytes", "[I", true)
  | 1 => ("BoothFlash$Tape", "size", "I", false)
  | 2 => ("BoothFlash$Tape", "begin", "I", false)
  | 3 => ("BoothFlash$Tape", "behind", "I", false)
  | 4 => ("BoothFlash$Tape", "type", "I", false)
  | _ => ("BoothFlash$Tape", "value", "I", false)
def tyX3 : Nat → FieldType := fun k => match k with
  | 0 => .array .int
  | 1 => .int
  | 2 => .int
  | 3 => .int
  | 4 => .int
  | _ => .int
abbrev wsX30 : List Cond := u_ws RX3 TX3 6
theorem nmX3 : ∀ a, a < 6 → ∀ b, b < 6 → a ≠ b → (TX3 a).2.1 ≠ (TX3 b).2.1 := by decide +kernel
theorem tyX3_ok : ∀ k, k < 6 → parseFieldDescriptor (TX3 k).2.2.1 = some (tyX3 k) := by decide +kernel
abbrev cX3_init : ByteArray := prog_5_method_1_code
def yX3_init : MethodName := ⟨RX3, "<init>", "()V"⟩
abbrev cX3_hasRoomFor : ByteArray := prog_5_method_2_code
def yX3_hasRoomFor : MethodName := ⟨RX3, "hasRoomFor", "(I)Z"⟩
abbrev cX3_append : ByteArray := prog_5_method_3_code
def yX3_append : MethodName := ⟨RX3, "append", "(I)V"⟩
abbrev cX3_readInto : ByteArray := prog_5_method_4_code
def yX3_readInto : MethodName := ⟨RX3, "readInto", "(LBoothFlash$Booth;)I"⟩
abbrev cX3_readItem : ByteArray := prog_5_method_5_code
def yX3_readItem : MethodName := ⟨RX3, "readItem", "(LBoothFlash$Booth;)Z"⟩
abbrev cX3_readSitter : ByteArray := prog_5_method_6_code
def yX3_readSitter : MethodName := ⟨RX3, "readSitter", "(LBoothFlash$Booth;I)Z"⟩
abbrev cX3_readQueue : ByteArray := prog_5_method_7_code
def yX3_readQueue : MethodName := ⟨RX3, "readQueue", "(LBoothFlash$Booth;)Z"⟩
abbrev cX3_readPart : ByteArray := prog_5_method_8_code
def yX3_readPart : MethodName := ⟨RX3, "readPart", "(LBoothFlash$Booth;I)Z"⟩
abbrev cX3_nextToken : ByteArray := prog_5_method_9_code
def yX3_nextToken : MethodName := ⟨RX3, "nextToken", "()V"⟩
abbrev cX3_readDigits : ByteArray := prog_5_method_10_code
def yX3_readDigits : MethodName := ⟨RX3, "readDigits", "()V"⟩
abbrev cX3_byteAt : ByteArray := prog_5_method_11_code
def yX3_byteAt : MethodName := ⟨RX3, "byteAt", "(I)I"⟩
abbrev cX3_isLetter : ByteArray := prog_5_method_12_code
def yX3_isLetter : MethodName := ⟨RX3, "isLetter", "(I)Z"⟩
abbrev cX3_isDigit : ByteArray := prog_5_method_13_code
def yX3_isDigit : MethodName := ⟨RX3, "isDigit", "(I)Z"⟩
abbrev cX3_isNumber : ByteArray := prog_5_method_14_code
def yX3_isNumber : MethodName := ⟨RX3, "isNumber", "(I)Z"⟩
abbrev cX3_isWord : ByteArray := prog_5_method_15_code
def yX3_isWord : MethodName := ⟨RX3, "isWord", "(Ljava/lang/String;)Z"⟩
abbrev cX3_wordOfKind : ByteArray := prog_5_method_16_code
def yX3_wordOfKind : MethodName := ⟨RX3, "wordOfKind", "(I)Ljava/lang/String;"⟩
abbrev cX3_wordOfPart : ByteArray := prog_5_method_17_code
def yX3_wordOfPart : MethodName := ⟨RX3, "wordOfPart", "(I)Ljava/lang/String;"⟩
abbrev cX3_wordOfTrait : ByteArray := prog_5_method_18_code
def yX3_wordOfTrait : MethodName := ⟨RX3, "wordOfTrait", "(I)Ljava/lang/String;"⟩
def RX4 : String := "BoothFlash"
def TX4 : u_T := fun k => match k with
  | 0 => ("BoothFlash", "real", "LBoothFlash$Booth;", true)
  | 1 => ("BoothFlash", "trial", "LBoothFlash$Booth;", true)
  | 2 => ("BoothFlash", "kept", "LBoothFlash$Booth;", true)
  | 3 => ("BoothFlash", "isKept", "Z", false)
  | 4 => ("BoothFlash", "tape", "LBoothFlash$Tape;", true)
  | 5 => ("BoothFlash", "sheets", "[LBoothFlash$Sheet;", true)
  | _ => ("BoothFlash", "found", "[I", true)
def tyX4 : Nat → FieldType := fun k => match k with
  | 0 => .object "BoothFlash$Booth"
  | 1 => .object "BoothFlash$Booth"
  | 2 => .object "BoothFlash$Booth"
  | 3 => .boolean
  | 4 => .object "BoothFlash$Tape"
  | 5 => .array (.object "BoothFlash$Sheet")
  | _ => .array .int
abbrev wsX40 : List Cond := u_ws RX4 TX4 7
theorem nmX4 : ∀ a, a < 7 → ∀ b, b < 7 → a ≠ b → (TX4 a).2.1 ≠ (TX4 b).2.1 := by decide +kernel
theorem tyX4_ok : ∀ k, k < 7 → parseFieldDescriptor (TX4 k).2.2.1 = some (tyX4 k) := by decide +kernel
abbrev cX4_init : ByteArray := prog_1_method_1_code
def yX4_init : MethodName := ⟨RX4, "<init>", "()V"⟩
abbrev cX4_set : ByteArray := prog_1_method_2_code
def yX4_set : MethodName := ⟨RX4, "set", "(II)I"⟩
abbrev cX4_booth : ByteArray := prog_1_method_3_code
def yX4_booth : MethodName := ⟨RX4, "booth", "(I)I"⟩
abbrev cX4_queue : ByteArray := prog_1_method_4_code
def yX4_queue : MethodName := ⟨RX4, "queue", "(II)I"⟩
abbrev cX4_place : ByteArray := prog_1_method_5_code
def yX4_place : MethodName := ⟨RX4, "place", "(I)I"⟩
abbrev cX4_sitter : ByteArray := prog_1_method_6_code
def yX4_sitter : MethodName := ⟨RX4, "sitter", "(II)I"⟩
abbrev cX4_of : ByteArray := prog_1_method_7_code
def yX4_of : MethodName := ⟨RX4, "of", "(II)I"⟩
abbrev cX4_change : ByteArray := prog_1_method_8_code
def yX4_change : MethodName := ⟨RX4, "change", "(III)I"⟩
abbrev cX4_faults : ByteArray := prog_1_method_9_code
def yX4_faults : MethodName := ⟨RX4, "faults", "(II)I"⟩
abbrev cX4_best : ByteArray := prog_1_method_10_code
def yX4_best : MethodName := ⟨RX4, "best", "(I)I"⟩
abbrev cX4_go : ByteArray := prog_1_method_11_code
def yX4_go : MethodName := ⟨RX4, "go", "(I)I"⟩
abbrev cX4_now : ByteArray := prog_1_method_12_code
def yX4_now : MethodName := ⟨RX4, "now", "(I)I"⟩
abbrev cX4_ahead : ByteArray := prog_1_method_13_code
def yX4_ahead : MethodName := ⟨RX4, "ahead", "(III)I"⟩
abbrev cX4_later : ByteArray := prog_1_method_14_code
def yX4_later : MethodName := ⟨RX4, "later", "(II)I"⟩
abbrev cX4_when : ByteArray := prog_1_method_15_code
def yX4_when : MethodName := ⟨RX4, "when", "(II)I"⟩
abbrev cX4_broke : ByteArray := prog_1_method_16_code
def yX4_broke : MethodName := ⟨RX4, "broke", "(I)I"⟩
abbrev cX4_all : ByteArray := prog_1_method_17_code
def yX4_all : MethodName := ⟨RX4, "all", "()I"⟩
abbrev cX4_stoolFor : ByteArray := prog_1_method_18_code
def yX4_stoolFor : MethodName := ⟨RX4, "stoolFor", "(I)I"⟩
abbrev cX4_lightFor : ByteArray := prog_1_method_19_code
def yX4_lightFor : MethodName := ⟨RX4, "lightFor", "(II)I"⟩
abbrev cX4_turnFor : ByteArray := prog_1_method_20_code
def yX4_turnFor : MethodName := ⟨RX4, "turnFor", "(II)I"⟩
abbrev cX4_kindFor : ByteArray := prog_1_method_21_code
def yX4_kindFor : MethodName := ⟨RX4, "kindFor", "(II)I"⟩
abbrev cX4_merryFor : ByteArray := prog_1_method_22_code
def yX4_merryFor : MethodName := ⟨RX4, "merryFor", "(II)I"⟩
abbrev cX4_priceFor : ByteArray := prog_1_method_23_code
def yX4_priceFor : MethodName := ⟨RX4, "priceFor", "(I)I"⟩
abbrev cX4_away : ByteArray := prog_1_method_24_code
def yX4_away : MethodName := ⟨RX4, "away", "(III)I"⟩
abbrev cX4_fits : ByteArray := prog_1_method_25_code
def yX4_fits : MethodName := ⟨RX4, "fits", "(II)I"⟩
abbrev cX4_tall : ByteArray := prog_1_method_26_code
def yX4_tall : MethodName := ⟨RX4, "tall", "(II)I"⟩
abbrev cX4_kinds : ByteArray := prog_1_method_27_code
def yX4_kinds : MethodName := ⟨RX4, "kinds", "(II)I"⟩
abbrev cX4_lamps : ByteArray := prog_1_method_28_code
def yX4_lamps : MethodName := ⟨RX4, "lamps", "(I)I"⟩
abbrev cX4_odds : ByteArray := prog_1_method_29_code
def yX4_odds : MethodName := ⟨RX4, "odds", "(IIII)J"⟩
abbrev cX4_seed : ByteArray := prog_1_method_30_code
def yX4_seed : MethodName := ⟨RX4, "seed", "(I)I"⟩
abbrev cX4_feed : ByteArray := prog_1_method_31_code
def yX4_feed : MethodName := ⟨RX4, "feed", "(II)I"⟩
abbrev cX4_wipe : ByteArray := prog_1_method_32_code
def yX4_wipe : MethodName := ⟨RX4, "wipe", "()I"⟩
abbrev cX4_text : ByteArray := prog_1_method_33_code
def yX4_text : MethodName := ⟨RX4, "text", "()I"⟩
abbrev cX4_hold : ByteArray := prog_1_method_34_code
def yX4_hold : MethodName := ⟨RX4, "hold", "(II)I"⟩
abbrev cX4_as : ByteArray := prog_1_method_35_code
def yX4_as : MethodName := ⟨RX4, "as", "(II)I"⟩
abbrev cX4_sheet : ByteArray := prog_1_method_36_code
def yX4_sheet : MethodName := ⟨RX4, "sheet", "(III)I"⟩
abbrev cX4_write : ByteArray := prog_1_method_37_code
def yX4_write : MethodName := ⟨RX4, "write", "(III)I"⟩
abbrev cX4_copy : ByteArray := prog_1_method_38_code
def yX4_copy : MethodName := ⟨RX4, "copy", "(IIIII)I"⟩
abbrev cX4_load : ByteArray := prog_1_method_39_code
def yX4_load : MethodName := ⟨RX4, "load", "(I)I"⟩
abbrev cX4_judge : ByteArray := prog_1_method_40_code
def yX4_judge : MethodName := ⟨RX4, "judge", "(I)I"⟩
abbrev cX4_image : ByteArray := prog_1_method_41_code
def yX4_image : MethodName := ⟨RX4, "image", "()I"⟩
abbrev cX4_undo : ByteArray := prog_1_method_42_code
def yX4_undo : MethodName := ⟨RX4, "undo", "()I"⟩
abbrev cX4_tear : ByteArray := prog_1_method_43_code
def yX4_tear : MethodName := ⟨RX4, "tear", "()I"⟩
abbrev cX4_count : ByteArray := prog_1_method_44_code
def yX4_count : MethodName := ⟨RX4, "count", "(I)I"⟩
abbrev cX4_status : ByteArray := prog_1_method_45_code
def yX4_status : MethodName := ⟨RX4, "status", "(I)I"⟩
abbrev cX4_finding : ByteArray := prog_1_method_46_code
def yX4_finding : MethodName := ⟨RX4, "finding", "(I)I"⟩
abbrev cX4_isWithin : ByteArray := prog_1_method_47_code
def yX4_isWithin : MethodName := ⟨RX4, "isWithin", "(II)Z"⟩
abbrev cX4_sheetAt : ByteArray := prog_1_method_48_code
def yX4_sheetAt : MethodName := ⟨RX4, "sheetAt", "(I)LBoothFlash$Sheet;"⟩
abbrev cX4_refusalFor : ByteArray := prog_1_method_49_code
def yX4_refusalFor : MethodName := ⟨RX4, "refusalFor", "(LBoothFlash$Sheet;)I"⟩
abbrev cX4_isTallAsTold : ByteArray := prog_1_method_50_code
def yX4_isTallAsTold : MethodName := ⟨RX4, "isTallAsTold", "(LBoothFlash$Sheet;II)Z"⟩
abbrev cX4_isKindAsTold : ByteArray := prog_1_method_51_code
def yX4_isKindAsTold : MethodName := ⟨RX4, "isKindAsTold", "(LBoothFlash$Sheet;II)Z"⟩
abbrev cX4_lightsWithoutFaults : ByteArray := prog_1_method_52_code
def yX4_lightsWithoutFaults : MethodName := ⟨RX4, "lightsWithoutFaults", "(II)I"⟩
abbrev cX4_power : ByteArray := prog_1_method_53_code
def yX4_power : MethodName := ⟨RX4, "power", "(II)J"⟩
def RX5 : String := "BoothFlashModel"
def TX5 : u_T := fun k => match k with
  | 0 => ("BoothFlashModel", "now", "[I", true)
  | 1 => ("BoothFlashModel", "kept", "[I", true)
  | 2 => ("BoothFlashModel", "aside", "[I", true)
  | 3 => ("BoothFlashModel", "isKept", "Z", false)
  | 4 => ("BoothFlashModel", "found", "[I", true)
  | 5 => ("BoothFlashModel", "tallMany", "I", false)
  | 6 => ("BoothFlashModel", "tallLeast", "I", false)
  | 7 => ("BoothFlashModel", "tape", "[I", true)
  | 8 => ("BoothFlashModel", "taped", "I", false)
  | 9 => ("BoothFlashModel", "begins", "I", false)
  | 10 => ("BoothFlashModel", "ends", "I", false)
  | 11 => ("BoothFlashModel", "sort", "I", false)
  | 12 => ("BoothFlashModel", "value", "I", false)
  | 13 => ("BoothFlashModel", "isWrong", "Z", false)
  | 14 => ("BoothFlashModel", "kindNames", "[Ljava/lang/String;", true)
  | 15 => ("BoothFlashModel", "items", "[I", true)
  | 16 => ("BoothFlashModel", "itemMany", "I", false)
  | 17 => ("BoothFlashModel", "sittersThen", "I", false)
  | 18 => ("BoothFlashModel", "widths", "[I", true)
  | 19 => ("BoothFlashModel", "sizes", "[I", true)
  | 20 => ("BoothFlashModel", "numbers", "[I", true)
  | _ => ("BoothFlashModel", "moved", "[I", true)
def tyX5 : Nat → FieldType := fun k => match k with
  | 0 => .array .int
  | 1 => .array .int
  | 2 => .array .int
  | 3 => .boolean
  | 4 => .array .int
  | 5 => .int
  | 6 => .int
  | 7 => .array .int
  | 8 => .int
  | 9 => .int
  | 10 => .int
  | 11 => .int
  | 12 => .int
  | 13 => .boolean
  | 14 => .array (.object "java/lang/String")
  | 15 => .array .int
  | 16 => .int
  | 17 => .int
  | 18 => .array .int
  | 19 => .array .int
  | 20 => .array .int
  | _ => .array .int
abbrev wsX50 : List Cond := u_ws RX5 TX5 22
theorem nmX5 : ∀ a, a < 22 → ∀ b, b < 22 → a ≠ b → (TX5 a).2.1 ≠ (TX5 b).2.1 := by decide +kernel
theorem tyX5_ok : ∀ k, k < 22 → parseFieldDescriptor (TX5 k).2.2.1 = some (tyX5 k) := by decide +kernel
abbrev cX5_init : ByteArray := prog_7_method_1_code
def yX5_init : MethodName := ⟨RX5, "<init>", "()V"⟩
abbrev cX5_finding : ByteArray := prog_7_method_2_code
def yX5_finding : MethodName := ⟨RX5, "finding", "(I)I"⟩
abbrev cX5_within : ByteArray := prog_7_method_3_code
def yX5_within : MethodName := ⟨RX5, "within", "(III)Z"⟩
abbrev cX5_become : ByteArray := prog_7_method_4_code
def yX5_become : MethodName := ⟨RX5, "become", "(II)I"⟩
abbrev cX5_copyRow : ByteArray := prog_7_method_5_code
def yX5_copyRow : MethodName := ⟨RX5, "copyRow", "([I[I)V"⟩
abbrev cX5_putBack : ByteArray := prog_7_method_6_code
def yX5_putBack : MethodName := ⟨RX5, "putBack", "(I)I"⟩
abbrev cX5_orNone : ByteArray := prog_7_method_7_code
def yX5_orNone : MethodName := ⟨RX5, "orNone", "(I)I"⟩
abbrev cX5_bits : ByteArray := prog_7_method_8_code
def yX5_bits : MethodName := ⟨RX5, "bits", "(I)I"⟩
abbrev cX5_hasBit : ByteArray := prog_7_method_9_code
def yX5_hasBit : MethodName := ⟨RX5, "hasBit", "(II)Z"⟩
abbrev cX5_isSet : ByteArray := prog_7_method_10_code
def yX5_isSet : MethodName := ⟨RX5, "isSet", "(II)Z"⟩
abbrev cX5_set : ByteArray := prog_7_method_11_code
def yX5_set : MethodName := ⟨RX5, "set", "(II)I"⟩
abbrev cX5_booth : ByteArray := prog_7_method_12_code
def yX5_booth : MethodName := ⟨RX5, "booth", "(I)I"⟩
abbrev cX5_isPlace : ByteArray := prog_7_method_13_code
def yX5_isPlace : MethodName := ⟨RX5, "isPlace", "(I)Z"⟩
abbrev cX5_isSitter : ByteArray := prog_7_method_14_code
def yX5_isSitter : MethodName := ⟨RX5, "isSitter", "(I)Z"⟩
abbrev cX5_isInQueue : ByteArray := prog_7_method_15_code
def yX5_isInQueue : MethodName := ⟨RX5, "isInQueue", "(I)Z"⟩
abbrev cX5_queue : ByteArray := prog_7_method_16_code
def yX5_queue : MethodName := ⟨RX5, "queue", "(II)I"⟩
abbrev cX5_place : ByteArray := prog_7_method_17_code
def yX5_place : MethodName := ⟨RX5, "place", "(I)I"⟩
abbrev cX5_isKind : ByteArray := prog_7_method_18_code
def yX5_isKind : MethodName := ⟨RX5, "isKind", "(I)Z"⟩
abbrev cX5_sitterAt : ByteArray := prog_7_method_19_code
def yX5_sitterAt : MethodName := ⟨RX5, "sitterAt", "(II)I"⟩
abbrev cX5_sitterIs : ByteArray := prog_7_method_20_code
def yX5_sitterIs : MethodName := ⟨RX5, "sitterIs", "(II)I"⟩
abbrev cX5_comes : ByteArray := prog_7_method_21_code
def yX5_comes : MethodName := ⟨RX5, "comes", "(IIIII)I"⟩
abbrev cX5_sitter : ByteArray := prog_7_method_22_code
def yX5_sitter : MethodName := ⟨RX5, "sitter", "(II)I"⟩
abbrev cX5_off : ByteArray := prog_7_method_23_code
def yX5_off : MethodName := ⟨RX5, "off", "(I)I"⟩
abbrev cX5_may : ByteArray := prog_7_method_24_code
def yX5_may : MethodName := ⟨RX5, "may", "(I)I"⟩
abbrev cX5_isShut : ByteArray := prog_7_method_25_code
def yX5_isShut : MethodName := ⟨RX5, "isShut", "(II)Z"⟩
abbrev cX5_isSmiling : ByteArray := prog_7_method_26_code
def yX5_isSmiling : MethodName := ⟨RX5, "isSmiling", "(II)Z"⟩
abbrev cX5_isShining : ByteArray := prog_7_method_27_code
def yX5_isShining : MethodName := ⟨RX5, "isShining", "(I)Z"⟩
abbrev cX5_faultsNow : ByteArray := prog_7_method_28_code
def yX5_faultsNow : MethodName := ⟨RX5, "faultsNow", "(II)I"⟩
abbrev cX5_of : ByteArray := prog_7_method_29_code
def yX5_of : MethodName := ⟨RX5, "of", "(II)I"⟩
abbrev cX5_isField : ByteArray := prog_7_method_30_code
def yX5_isField : MethodName := ⟨RX5, "isField", "(II)Z"⟩
abbrev cX5_change : ByteArray := prog_7_method_31_code
def yX5_change : MethodName := ⟨RX5, "change", "(III)I"⟩
abbrev cX5_isFlash : ByteArray := prog_7_method_32_code
def yX5_isFlash : MethodName := ⟨RX5, "isFlash", "(I)Z"⟩
abbrev cX5_faults : ByteArray := prog_7_method_33_code
def yX5_faults : MethodName := ⟨RX5, "faults", "(II)I"⟩
abbrev cX5_best : ByteArray := prog_7_method_34_code
def yX5_best : MethodName := ⟨RX5, "best", "(I)I"⟩
abbrev cX5_isGood : ByteArray := prog_7_method_35_code
def yX5_isGood : MethodName := ⟨RX5, "isGood", "(I)Z"⟩
abbrev cX5_turnsStool : ByteArray := prog_7_method_36_code
def yX5_turnsStool : MethodName := ⟨RX5, "turnsStool", "(I)V"⟩
abbrev cX5_sits : ByteArray := prog_7_method_37_code
def yX5_sits : MethodName := ⟨RX5, "sits", "(I)V"⟩
abbrev cX5_next : ByteArray := prog_7_method_38_code
def yX5_next : MethodName := ⟨RX5, "next", "()I"⟩
abbrev cX5_minute : ByteArray := prog_7_method_39_code
def yX5_minute : MethodName := ⟨RX5, "minute", "()V"⟩
abbrev cX5_minutes : ByteArray := prog_7_method_40_code
def yX5_minutes : MethodName := ⟨RX5, "minutes", "(I)V"⟩
abbrev cX5_sumOf : ByteArray := prog_7_method_41_code
def yX5_sumOf : MethodName := ⟨RX5, "sumOf", "(I)I"⟩
abbrev cX5_go : ByteArray := prog_7_method_42_code
def yX5_go : MethodName := ⟨RX5, "go", "(I)I"⟩
abbrev cX5_goodOnes : ByteArray := prog_7_method_43_code
def yX5_goodOnes : MethodName := ⟨RX5, "goodOnes", "()I"⟩
abbrev cX5_commonFaults : ByteArray := prog_7_method_44_code
def yX5_commonFaults : MethodName := ⟨RX5, "commonFaults", "()I"⟩
abbrev cX5_now : ByteArray := prog_7_method_45_code
def yX5_now : MethodName := ⟨RX5, "now", "(I)I"⟩
abbrev cX5_behind : ByteArray := prog_7_method_46_code
def yX5_behind : MethodName := ⟨RX5, "behind", "(II)I"⟩
abbrev cX5_ahead : ByteArray := prog_7_method_47_code
def yX5_ahead : MethodName := ⟨RX5, "ahead", "(III)I"⟩
abbrev cX5_later : ByteArray := prog_7_method_48_code
def yX5_later : MethodName := ⟨RX5, "later", "(II)I"⟩
abbrev cX5_when : ByteArray := prog_7_method_49_code
def yX5_when : MethodName := ⟨RX5, "when", "(II)I"⟩
abbrev cX5_broke : ByteArray := prog_7_method_50_code
def yX5_broke : MethodName := ⟨RX5, "broke", "(I)I"⟩
abbrev cX5_areAllTaken : ByteArray := prog_7_method_51_code
def yX5_areAllTaken : MethodName := ⟨RX5, "areAllTaken", "()Z"⟩
abbrev cX5_all : ByteArray := prog_7_method_52_code
def yX5_all : MethodName := ⟨RX5, "all", "()I"⟩
abbrev cX5_faultsTogether : ByteArray := prog_7_method_53_code
def yX5_faultsTogether : MethodName := ⟨RX5, "faultsTogether", "(I)I"⟩
abbrev cX5_stoolFor : ByteArray := prog_7_method_54_code
def yX5_stoolFor : MethodName := ⟨RX5, "stoolFor", "(I)I"⟩
abbrev cX5_isThought : ByteArray := prog_7_method_55_code
def yX5_isThought : MethodName := ⟨RX5, "isThought", "(I)Z"⟩
abbrev cX5_isTakenWith : ByteArray := prog_7_method_56_code
def yX5_isTakenWith : MethodName := ⟨RX5, "isTakenWith", "(IIII)Z"⟩
abbrev cX5_lightFor : ByteArray := prog_7_method_57_code
def yX5_lightFor : MethodName := ⟨RX5, "lightFor", "(II)I"⟩
abbrev cX5_merryFor : ByteArray := prog_7_method_58_code
def yX5_merryFor : MethodName := ⟨RX5, "merryFor", "(II)I"⟩
abbrev cX5_takenWith : ByteArray := prog_7_method_59_code
def yX5_takenWith : MethodName := ⟨RX5, "takenWith", "(IIII)I"⟩
abbrev cX5_turnFor : ByteArray := prog_7_method_60_code
def yX5_turnFor : MethodName := ⟨RX5, "turnFor", "(II)I"⟩
abbrev cX5_kindFor : ByteArray := prog_7_method_61_code
def yX5_kindFor : MethodName := ⟨RX5, "kindFor", "(II)I"⟩
abbrev cX5_priceFor : ByteArray := prog_7_method_62_code
def yX5_priceFor : MethodName := ⟨RX5, "priceFor", "(I)I"⟩
abbrev cX5_takenWithout : ByteArray := prog_7_method_63_code
def yX5_takenWithout : MethodName := ⟨RX5, "takenWithout", "(III)I"⟩
abbrev cX5_away : ByteArray := prog_7_method_64_code
def yX5_away : MethodName := ⟨RX5, "away", "(III)I"⟩
abbrev cX5_lacks : ByteArray := prog_7_method_65_code
def yX5_lacks : MethodName := ⟨RX5, "lacks", "(IZ)I"⟩
abbrev cX5_areFaultsSo : ByteArray := prog_7_method_66_code
def yX5_areFaultsSo : MethodName := ⟨RX5, "areFaultsSo", "(II)Z"⟩
abbrev cX5_fitTall : ByteArray := prog_7_method_67_code
def yX5_fitTall : MethodName := ⟨RX5, "fitTall", "(II)V"⟩
abbrev cX5_fits : ByteArray := prog_7_method_68_code
def yX5_fits : MethodName := ⟨RX5, "fits", "(II)I"⟩
abbrev cX5_tall : ByteArray := prog_7_method_69_code
def yX5_tall : MethodName := ⟨RX5, "tall", "(II)I"⟩
abbrev cX5_wasTakenSo : ByteArray := prog_7_method_70_code
def yX5_wasTakenSo : MethodName := ⟨RX5, "wasTakenSo", "(II)Z"⟩
abbrev cX5_kinds : ByteArray := prog_7_method_71_code
def yX5_kinds : MethodName := ⟨RX5, "kinds", "(II)I"⟩
abbrev cX5_drawn : ByteArray := prog_7_method_72_code
def yX5_drawn : MethodName := ⟨RX5, "drawn", "()I"⟩
abbrev cX5_lamps : ByteArray := prog_7_method_73_code
def yX5_lamps : MethodName := ⟨RX5, "lamps", "(I)I"⟩
abbrev cX5_odds : ByteArray := prog_7_method_74_code
def yX5_odds : MethodName := ⟨RX5, "odds", "(IIII)J"⟩
abbrev cX5_seed : ByteArray := prog_7_method_75_code
def yX5_seed : MethodName := ⟨RX5, "seed", "(I)I"⟩
abbrev cX5_feed : ByteArray := prog_7_method_76_code
def yX5_feed : MethodName := ⟨RX5, "feed", "(II)I"⟩
abbrev cX5_wipe : ByteArray := prog_7_method_77_code
def yX5_wipe : MethodName := ⟨RX5, "wipe", "()I"⟩
abbrev cX5_byteAt : ByteArray := prog_7_method_78_code
def yX5_byteAt : MethodName := ⟨RX5, "byteAt", "(I)I"⟩
abbrev cX5_token : ByteArray := prog_7_method_79_code
def yX5_token : MethodName := ⟨RX5, "token", "()V"⟩
abbrev cX5_isWord : ByteArray := prog_7_method_80_code
def yX5_isWord : MethodName := ⟨RX5, "isWord", "(Ljava/lang/String;)Z"⟩
abbrev cX5_must : ByteArray := prog_7_method_81_code
def yX5_must : MethodName := ⟨RX5, "must", "(Z)V"⟩
abbrev cX5_number : ByteArray := prog_7_method_82_code
def yX5_number : MethodName := ⟨RX5, "number", "(II)I"⟩
abbrev cX5_addItem : ByteArray := prog_7_method_83_code
def yX5_addItem : MethodName := ⟨RX5, "addItem", "(II)V"⟩
abbrev cX5_kindTold : ByteArray := prog_7_method_84_code
def yX5_kindTold : MethodName := ⟨RX5, "kindTold", "()I"⟩
abbrev cX5_perhaps : ByteArray := prog_7_method_85_code
def yX5_perhaps : MethodName := ⟨RX5, "perhaps", "(Ljava/lang/String;II)I"⟩
abbrev cX5_readSitter : ByteArray := prog_7_method_86_code
def yX5_readSitter : MethodName := ⟨RX5, "readSitter", "(I)V"⟩
abbrev cX5_readQueue : ByteArray := prog_7_method_87_code
def yX5_readQueue : MethodName := ⟨RX5, "readQueue", "()V"⟩
abbrev cX5_readNumber : ByteArray := prog_7_method_88_code
def yX5_readNumber : MethodName := ⟨RX5, "readNumber", "(II)V"⟩
abbrev cX5_readItem : ByteArray := prog_7_method_89_code
def yX5_readItem : MethodName := ⟨RX5, "readItem", "()V"⟩
abbrev cX5_isToldSo : ByteArray := prog_7_method_90_code
def yX5_isToldSo : MethodName := ⟨RX5, "isToldSo", "(I)V"⟩
abbrev cX5_text : ByteArray := prog_7_method_91_code
def yX5_text : MethodName := ⟨RX5, "text", "()I"⟩
abbrev cX5_isSpot : ByteArray := prog_7_method_92_code
def yX5_isSpot : MethodName := ⟨RX5, "isSpot", "(I)Z"⟩
abbrev cX5_hold : ByteArray := prog_7_method_93_code
def yX5_hold : MethodName := ⟨RX5, "hold", "(II)I"⟩
abbrev cX5_as : ByteArray := prog_7_method_94_code
def yX5_as : MethodName := ⟨RX5, "as", "(II)I"⟩
abbrev cX5_isSheet : ByteArray := prog_7_method_95_code
def yX5_isSheet : MethodName := ⟨RX5, "isSheet", "(I)Z"⟩
abbrev cX5_cutTo : ByteArray := prog_7_method_96_code
def yX5_cutTo : MethodName := ⟨RX5, "cutTo", "(II)I"⟩
abbrev cX5_sheet : ByteArray := prog_7_method_97_code
def yX5_sheet : MethodName := ⟨RX5, "sheet", "(III)I"⟩
abbrev cX5_write : ByteArray := prog_7_method_98_code
def yX5_write : MethodName := ⟨RX5, "write", "(III)I"⟩
abbrev cX5_copy : ByteArray := prog_7_method_99_code
def yX5_copy : MethodName := ⟨RX5, "copy", "(IIIII)I"⟩
abbrev cX5_above : ByteArray := prog_7_method_100_code
def yX5_above : MethodName := ⟨RX5, "above", "(I)I"⟩
abbrev cX5_isUnder : ByteArray := prog_7_method_101_code
def yX5_isUnder : MethodName := ⟨RX5, "isUnder", "(II)Z"⟩
abbrev cX5_load : ByteArray := prog_7_method_102_code
def yX5_load : MethodName := ⟨RX5, "load", "(I)I"⟩
abbrev cX5_judge : ByteArray := prog_7_method_103_code
def yX5_judge : MethodName := ⟨RX5, "judge", "(I)I"⟩
abbrev cX5_image : ByteArray := prog_7_method_104_code
def yX5_image : MethodName := ⟨RX5, "image", "()I"⟩
abbrev cX5_undo : ByteArray := prog_7_method_105_code
def yX5_undo : MethodName := ⟨RX5, "undo", "()I"⟩
abbrev cX5_tear : ByteArray := prog_7_method_106_code
def yX5_tear : MethodName := ⟨RX5, "tear", "()I"⟩
abbrev cX5_count : ByteArray := prog_7_method_107_code
def yX5_count : MethodName := ⟨RX5, "count", "(I)I"⟩
abbrev cX5_status : ByteArray := prog_7_method_108_code
def yX5_status : MethodName := ⟨RX5, "status", "(I)I"⟩
def RJ6 : String := "java/lang/Integer"
abbrev cJ6_bitCount_0f7a4 : ByteArray := prog_8_method_49_code
def yJ6_bitCount_0f7a4 : MethodName := ⟨RJ6, "bitCount", "(I)I"⟩
def RJ9 : String := "java/lang/Math"
abbrev cJ9_abs_0f7a4 : ByteArray := prog_9_method_59_code
def yJ9_abs_0f7a4 : MethodName := ⟨RJ9, "abs", "(I)I"⟩
abbrev cJ9_max_7cf53 : ByteArray := prog_9_method_65_code
def yJ9_max_7cf53 : MethodName := ⟨RJ9, "max", "(II)I"⟩
abbrev cJ9_min_7cf53 : ByteArray := prog_9_method_69_code
def yJ9_min_7cf53 : MethodName := ⟨RJ9, "min", "(II)I"⟩
def RJ0 : String := "java/lang/String"
abbrev cJ0_length_8abf5 : ByteArray := prog_10_method_54_code
def yJ0_length_8abf5 : MethodName := ⟨RJ0, "length", "()I"⟩
abbrev cJ0_charAt_5068e : ByteArray := prog_10_method_56_code
def yJ0_charAt_5068e : MethodName := ⟨RJ0, "charAt", "(I)C"⟩
abbrev cJ0_coder_7d493 : ByteArray := prog_10_method_152_code
def yJ0_coder_7d493 : MethodName := ⟨RJ0, "coder", "()B"⟩
abbrev cJ0_isLatin1_aae02 : ByteArray := prog_10_method_154_code
def yJ0_isLatin1_aae02 : MethodName := ⟨RJ0, "isLatin1", "()Z"⟩
abbrev cJ0_checkIndex_df160 : ByteArray := prog_10_method_155_code
def yJ0_checkIndex_df160 : MethodName := ⟨RJ0, "checkIndex", "(II)V"⟩
def RJ1 : String := "java/lang/StringLatin1"
abbrev cJ1_charAt_3b067 : ByteArray := prog_11_method_2_code
def yJ1_charAt_3b067 : MethodName := ⟨RJ1, "charAt", "([BI)C"⟩
def RJ2 : String := "java/lang/StringUTF16"
abbrev cJ2_getChar_3b067 : ByteArray := prog_12_method_5_code
def yJ2_getChar_3b067 : MethodName := ⟨RJ2, "getChar", "([BI)C"⟩
abbrev cJ2_length_9d52b : ByteArray := prog_12_method_6_code
def yJ2_length_9d52b : MethodName := ⟨RJ2, "length", "([B)I"⟩
abbrev cJ2_charAt_3b067 : ByteArray := prog_12_method_83_code
def yJ2_charAt_3b067 : MethodName := ⟨RJ2, "charAt", "([BI)C"⟩
abbrev cJ2_checkIndex_2214a : ByteArray := prog_12_method_91_code
def yJ2_checkIndex_2214a : MethodName := ⟨RJ2, "checkIndex", "(I[B)V"⟩
def RJ10 : String := "java/lang/System"
def RJ3 : String := "jdk/internal/util/Preconditions"
abbrev cJ3_checkIndex_8e157 : ByteArray := prog_14_method_11_code
def yJ3_checkIndex_8e157 : MethodName := ⟨RJ3, "checkIndex", "(IILjava/util/function/BiFunction;)I"⟩
def RL : String := "BoothFlashLaw"
abbrev cL_law : ByteArray := code
def yL_law : MethodName := ⟨RL, "law", "([I)Z"⟩
set_option maxRecDepth 20000 in
theorem wv_X4_finding : Cond.selects RX4 yX4_finding yX4_finding ∈ TT := tt_0 0 (by decide +kernel) (by decide +kernel)
set_option maxRecDepth 20000 in
theorem wv_X4_sheetAt : Cond.selects RX4 yX4_sheetAt yX4_sheetAt ∈ TT := tt_0 1 (by decide +kernel) (by decide +kernel)
set_option maxRecDepth 20000 in
theorem wv_X4_isTallAsTold : Cond.selects RX4 yX4_isTallAsTold yX4_isTallAsTold ∈ TT := tt_0 2 (by decide +kernel) (by decide +kernel)
set_option maxRecDepth 20000 in
theorem wv_X4_isKindAsTold : Cond.selects RX4 yX4_isKindAsTold yX4_isKindAsTold ∈ TT := tt_0 3 (by decide +kernel) (by decide +kernel)
set_option maxRecDepth 20000 in
theorem wv_X4_lightsWithoutFaults : Cond.selects RX4 yX4_lightsWithoutFaults yX4_lightsWithoutFaults ∈ TT := tt_0 4 (by decide +kernel) (by decide +kernel)
set_option maxRecDepth 20000 in
theorem wv_X5_become : Cond.selects RX5 yX5_become yX5_become ∈ TT := tt_0 5 (by decide +kernel) (by decide +kernel)
set_option maxRecDepth 20000 in
theorem wv_X5_finding : Cond.selects RX5 yX5_finding yX5_finding ∈ TT := tt_0 6 (by decide +kernel) (by decide +kernel)
set_option maxRecDepth 20000 in
theorem wv_X5_isInQueue : Cond.selects RX5 yX5_isInQueue yX5_isInQueue ∈ TT := tt_0 7 (by decide +kernel) (by decide +kernel)
set_option maxRecDepth 20000 in
theorem wv_X5_isSitter : Cond.selects RX5 yX5_isSitter yX5_isSitter ∈ TT := tt_0 8 (by decide +kernel) (by decide +kernel)
set_option maxRecDepth 20000 in
theorem wv_X5_comes : Cond.selects RX5 yX5_comes yX5_comes ∈ TT := tt_0 9 (by decide +kernel) (by decide +kernel)
set_option maxRecDepth 20000 in
theorem wv_X5_sitterIs : Cond.selects RX5 yX5_sitterIs yX5_sitterIs ∈ TT := tt_0 10 (by decide +kernel) (by decide +kernel)
set_option maxRecDepth 20000 in
theorem wv_X5_off : Cond.selects RX5 yX5_off yX5_off ∈ TT := tt_0 11 (by decide +kernel) (by decide +kernel)
set_option maxRecDepth 20000 in
theorem wv_X5_may : Cond.selects RX5 yX5_may yX5_may ∈ TT := tt_0 12 (by decide +kernel) (by decide +kernel)
set_option maxRecDepth 20000 in
theorem wv_X5_faultsNow : Cond.selects RX5 yX5_faultsNow yX5_faultsNow ∈ TT := tt_0 13 (by decide +kernel) (by decide +kernel)
set_option maxRecDepth 20000 in
theorem wv_X5_isShut : Cond.selects RX5 yX5_isShut yX5_isShut ∈ TT := tt_0 14 (by decide +kernel) (by decide +kernel)
set_option maxRecDepth 20000 in
theorem wv_X5_isSmiling : Cond.selects RX5 yX5_isSmiling yX5_isSmiling ∈ TT := tt_0 15 (by decide +kernel) (by decide +kernel)
set_option maxRecDepth 20000 in
theorem wv_X5_isShining : Cond.selects RX5 yX5_isShining yX5_isShining ∈ TT := tt_0 16 (by decide +kernel) (by decide +kernel)
set_option maxRecDepth 20000 in
theorem wv_X5_minutes : Cond.selects RX5 yX5_minutes yX5_minutes ∈ TT := tt_0 17 (by decide +kernel) (by decide +kernel)
set_option maxRecDepth 20000 in
theorem wv_X5_minute : Cond.selects RX5 yX5_minute yX5_minute ∈ TT := tt_0 18 (by decide +kernel) (by decide +kernel)
set_option maxRecDepth 20000 in
theorem wv_X5_next : Cond.selects RX5 yX5_next yX5_next ∈ TT := tt_0 19 (by decide +kernel) (by decide +kernel)
set_option maxRecDepth 20000 in
theorem wv_X5_sits : Cond.selects RX5 yX5_sits yX5_sits ∈ TT := tt_0 20 (by decide +kernel) (by decide +kernel)
set_option maxRecDepth 20000 in
theorem wv_X5_turnsStool : Cond.selects RX5 yX5_turnsStool yX5_turnsStool ∈ TT := tt_0 21 (by decide +kernel) (by decide +kernel)
set_option maxRecDepth 20000 in
theorem wv_X5_isGood : Cond.selects RX5 yX5_isGood yX5_isGood ∈ TT := tt_0 22 (by decide +kernel) (by decide +kernel)
set_option maxRecDepth 20000 in
theorem wv_X5_sumOf : Cond.selects RX5 yX5_sumOf yX5_sumOf ∈ TT := tt_0 23 (by decide +kernel) (by decide +kernel)
set_option maxRecDepth 20000 in
theorem wv_X5_goodOnes : Cond.selects RX5 yX5_goodOnes yX5_goodOnes ∈ TT := tt_0 24 (by decide +kernel) (by decide +kernel)
set_option maxRecDepth 20000 in
theorem wv_X5_commonFaults : Cond.selects RX5 yX5_commonFaults yX5_commonFaults ∈ TT := tt_0 25 (by decide +kernel) (by decide +kernel)
set_option maxRecDepth 20000 in
theorem wv_X5_behind : Cond.selects RX5 yX5_behind yX5_behind ∈ TT := tt_0 26 (by decide +kernel) (by decide +kernel)
set_option maxRecDepth 20000 in
theorem wv_X5_putBack : Cond.selects RX5 yX5_putBack yX5_putBack ∈ TT := tt_0 27 (by decide +kernel) (by decide +kernel)
set_option maxRecDepth 20000 in
theorem wv_X5_orNone : Cond.selects RX5 yX5_orNone yX5_orNone ∈ TT := tt_0 28 (by decide +kernel) (by decide +kernel)
set_option maxRecDepth 20000 in
theorem wv_X5_areAllTaken : Cond.selects RX5 yX5_areAllTaken yX5_areAllTaken ∈ TT := tt_0 29 (by decide +kernel) (by decide +kernel)
set_option maxRecDepth 20000 in
theorem wv_X5_faultsTogether : Cond.selects RX5 yX5_faultsTogether yX5_faultsTogether ∈ TT := tt_0 30 (by decide +kernel) (by decide +kernel)
set_option maxRecDepth 20000 in
theorem wv_X5_isTakenWith : Cond.selects RX5 yX5_isTakenWith yX5_isTakenWith ∈ TT := tt_0 31 (by decide +kernel) (by decide +kernel)
set_option maxRecDepth 20000 in
theorem wv_X5_takenWith : Cond.selects RX5 yX5_takenWith yX5_takenWith ∈ TT := tt_0 32 (by decide +kernel) (by decide +kernel)
set_option maxRecDepth 20000 in
theorem wv_X5_takenWithout : Cond.selects RX5 yX5_takenWithout yX5_takenWithout ∈ TT := tt_0 33 (by decide +kernel) (by decide +kernel)
set_option maxRecDepth 20000 in
theorem wv_X5_lacks : Cond.selects RX5 yX5_lacks yX5_lacks ∈ TT := tt_0 34 (by decide +kernel) (by decide +kernel)
set_option maxRecDepth 20000 in
theorem wv_X5_fitTall : Cond.selects RX5 yX5_fitTall yX5_fitTall ∈ TT := tt_0 35 (by decide +kernel) (by decide +kernel)
set_option maxRecDepth 20000 in
theorem wv_X5_areFaultsSo : Cond.selects RX5 yX5_areFaultsSo yX5_areFaultsSo ∈ TT := tt_0 36 (by decide +kernel) (by decide +kernel)
set_option maxRecDepth 20000 in
theorem wv_X5_wasTakenSo : Cond.selects RX5 yX5_wasTakenSo yX5_wasTakenSo ∈ TT := tt_0 37 (by decide +kernel) (by decide +kernel)
set_option maxRecDepth 20000 in
theorem wv_X5_drawn : Cond.selects RX5 yX5_drawn yX5_drawn ∈ TT := tt_0 38 (by decide +kernel) (by decide +kernel)
set_option maxRecDepth 20000 in
theorem wv_X5_token : Cond.selects RX5 yX5_token yX5_token ∈ TT := tt_0 39 (by decide +kernel) (by decide +kernel)
set_option maxRecDepth 20000 in
theorem wv_X5_byteAt : Cond.selects RX5 yX5_byteAt yX5_byteAt ∈ TT := tt_0 40 (by decide +kernel) (by decide +kernel)
set_option maxRecDepth 20000 in
theorem wv_X5_readItem : Cond.selects RX5 yX5_readItem yX5_readItem ∈ TT := tt_0 41 (by decide +kernel) (by decide +kernel)
set_option maxRecDepth 20000 in
theorem wv_X5_kindTold : Cond.selects RX5 yX5_kindTold yX5_kindTold ∈ TT := tt_0 42 (by decide +kernel) (by decide +kernel)
set_option maxRecDepth 20000 in
theorem wv_X5_isWord : Cond.selects RX5 yX5_isWord yX5_isWord ∈ TT := tt_0 43 (by decide +kernel) (by decide +kernel)
set_option maxRecDepth 20000 in
theorem wv_X5_readSitter : Cond.selects RX5 yX5_readSitter yX5_readSitter ∈ TT := tt_0 44 (by decide +kernel) (by decide +kernel)
set_option maxRecDepth 20000 in
theorem wv_X5_must : Cond.selects RX5 yX5_must yX5_must ∈ TT := tt_0 45 (by decide +kernel) (by decide +kernel)
set_option maxRecDepth 20000 in
theorem wv_X5_perhaps : Cond.selects RX5 yX5_perhaps yX5_perhaps ∈ TT := tt_0 46 (by decide +kernel) (by decide +kernel)
set_option maxRecDepth 20000 in
theorem wv_X5_number : Cond.selects RX5 yX5_number yX5_number ∈ TT := tt_0 47 (by decide +kernel) (by decide +kernel)
set_option maxRecDepth 20000 in
theorem wv_X5_addItem : Cond.selects RX5 yX5_addItem yX5_addItem ∈ TT := tt_0 48 (by decide +kernel) (by decide +kernel)
set_option maxRecDepth 20000 in
theorem wv_X5_readQueue : Cond.selects RX5 yX5_readQueue yX5_readQueue ∈ TT := tt_0 49 (by decide +kernel) (by decide +kernel)
set_option maxRecDepth 20000 in
theorem wv_X5_readNumber : Cond.selects RX5 yX5_readNumber yX5_readNumber ∈ TT := tt_0 50 (by decide +kernel) (by decide +kernel)
set_option maxRecDepth 20000 in
theorem wv_X5_isToldSo : Cond.selects RX5 yX5_isToldSo yX5_isToldSo ∈ TT := tt_0 51 (by decide +kernel) (by decide +kernel)
set_option maxRecDepth 20000 in
theorem wn_L : Cond.initialized RL ∈ TT := tt_1 0 (by decide +kernel) (by decide +kernel)
set_option maxRecDepth 20000 in
theorem wn_X4 : Cond.initialized RX4 ∈ TT := tt_1 1 (by decide +kernel) (by decide +kernel)
set_option maxRecDepth 20000 in
theorem wn_X0 : Cond.initialized RX0 ∈ TT := tt_1 2 (by decide +kernel) (by decide +kernel)
set_option maxRecDepth 20000 in
theorem wn_X2 : Cond.initialized RX2 ∈ TT := tt_1 3 (by decide +kernel) (by decide +kernel)
set_option maxRecDepth 20000 in
theorem wn_X3 : Cond.initialized RX3 ∈ TT := tt_1 4 (by decide +kernel) (by decide +kernel)
set_option maxRecDepth 20000 in
theorem wn_X1 : Cond.initialized RX1 ∈ TT := tt_1 5 (by decide +kernel) (by decide +kernel)
set_option maxRecDepth 20000 in
theorem wn_X5 : Cond.initialized RX5 ∈ TT := tt_1 6 (by decide +kernel) (by decide +kernel)
set_option maxRecDepth 20000 in
theorem wn_J9 : Cond.initialized RJ9 ∈ TT := tt_1 7 (by decide +kernel) (by decide +kernel)
set_option maxRecDepth 20000 in
theorem wn_J6 : Cond.initialized RJ6 ∈ TT := tt_1 8 (by decide +kernel) (by decide +kernel)
set_option maxRecDepth 20000 in
theorem wn_J10 : Cond.initialized RJ10 ∈ TT := tt_1 9 (by decide +kernel) (by decide +kernel)
set_option maxRecDepth 20000 in
theorem wn_J0 : Cond.initialized RJ0 ∈ TT := tt_1 10 (by decide +kernel) (by decide +kernel)
set_option maxRecDepth 20000 in
theorem wn_J1 : Cond.initialized RJ1 ∈ TT := tt_1 11 (by decide +kernel) (by decide +kernel)
set_option maxRecDepth 20000 in
theorem wn_J3 : Cond.initialized RJ3 ∈ TT := tt_1 12 (by decide +kernel) (by decide +kernel)
set_option maxRecDepth 20000 in
theorem wn_J2 : Cond.initialized RJ2 ∈ TT := tt_1 13 (by decide +kernel) (by decide +kernel)
set_option maxRecDepth 20000 in
theorem wl_L_7 : Cond.classLink RL 7 RX4 ∈ TT := tt_1 14 (by decide +kernel) (by decide +kernel)
set_option maxRecDepth 20000 in
theorem wa_X4 : Cond.instantiable RX4 7 ∈ TT := tt_1 15 (by decide +kernel) (by decide +kernel)
set_option maxRecDepth 20000 in
theorem wm_L_9 : Cond.methodLink RL 9 yX4_init ∈ TT := tt_1 16 (by decide +kernel) (by decide +kernel)
set_option maxRecDepth 20000 in
theorem wi_X4_init : Cond.instanceMethod yX4_init ∈ TT := tt_1 17 (by decide +kernel) (by decide +kernel)
set_option maxRecDepth 20000 in
theorem wc_X4_init : Cond.code yX4_init cX4_init 2 none ∈ TT := tt_1 18 (by decide +kernel) (by decide +kernel)
set_option maxRecDepth 20000 in
theorem wm_X4_1 : Cond.methodLink RX4 1 objectInit ∈ TT := tt_1 19 (by decide +kernel) (by decide +kernel)
set_option maxRecDepth 20000 in
theorem wi_objectInit : Cond.instanceMethod objectInit ∈ TT := tt_1 20 (by decide +kernel) (by decide +kernel)
set_option maxRecDepth 20000 in
theorem wc_objectInit : Cond.code objectInit ⟨#[0xb1]⟩ 1 none ∈ TT := tt_1 21 (by decide +kernel) (by decide +kernel)
set_option maxRecDepth 20000 in
theorem wl_X4_7 : Cond.classLink RX4 7 RX0 ∈ TT := tt_1 22 (by decide +kernel) (by decide +kernel)
set_option maxRecDepth 20000 in
theorem wa_X0 : Cond.instantiable RX0 10 ∈ TT := tt_1 23 (by decide +kernel) (by decide +kernel)
set_option maxRecDepth 20000 in
theorem wm_X4_9 : Cond.methodLink RX4 9 yX0_init ∈ TT := tt_1 24 (by decide +kernel) (by decide +kernel)
set_option maxRecDepth 20000 in
theorem wi_X0_init : Cond.instanceMethod yX0_init ∈ TT := tt_1 25 (by decide +kernel) (by decide +kernel)
set_option maxRecDepth 20000 in
theorem wc_X0_init : Cond.code yX0_init cX0_init 2 none ∈ TT := tt_1 26 (by decide +kernel) (by decide +kernel)
set_option maxRecDepth 20000 in
theorem wm_X0_3 : Cond.methodLink RX0 3 objectInit ∈ TT := tt_1 27 (by decide +kernel) (by decide +kernel)
set_option maxRecDepth 20000 in
theorem wl_X0_33 : Cond.classLink RX0 33 RX2 ∈ TT := tt_1 28 (by decide +kernel) (by decide +kernel)
set_option maxRecDepth 20000 in
theorem wa_X2 : Cond.instantiable RX2 7 ∈ TT := tt_1 30 (by decide +kernel) (by decide +kernel)
set_option maxRecDepth 20000 in
theorem wm_X0_39 : Cond.methodLink RX0 39 yX2_init ∈ TT := tt_1 31 (by decide +kernel) (by decide +kernel)
set_option maxRecDepth 20000 in
theorem wi_X2_init : Cond.instanceMethod yX2_init ∈ TT := tt_1 32 (by decide +kernel) (by decide +kernel)
set_option maxRecDepth 20000 in
theorem wc_X2_init : Cond.code yX2_init cX2_init 1 none ∈ TT := tt_1 33 (by decide +kernel) (by decide +kernel)
set_option maxRecDepth 20000 in
theorem wm_X2_3 : Cond.methodLink RX2 3 objectInit ∈ TT := tt_1 34 (by decide +kernel) (by decide +kernel)
set_option maxRecDepth 20000 in
theorem wm_X2_9 : Cond.methodLink RX2 9 yX2_begin ∈ TT := tt_1 35 (by decide +kernel) (by decide +kernel)
set_option maxRecDepth 20000 in
theorem wi_X2_begin : Cond.instanceMethod yX2_begin ∈ TT := tt_1 36 (by decide +kernel) (by decide +kernel)
set_option maxRecDepth 20000 in
theorem wv_X2_begin : Cond.selects RX2 yX2_begin yX2_begin ∈ TT := tt_1 37 (by decide +kernel) (by decide +kernel)
set_option maxRecDepth 20000 in
theorem wc_X2_begin : Cond.code yX2_begin cX2_begin 2 none ∈ TT := tt_1 38 (by decide +kernel) (by decide +kernel)
set_option maxRecDepth 20000 in
theorem wf_X2_15 : Cond.fieldLink RX2 15 "BoothFlash$Sitter" "kind" "I" ∈ TT := tt_1 39 (by decide +kernel) (by decide +kernel)
set_option maxRecDepth 20000 in
theorem wf_X4_225 : Cond.fieldLink RX4 225 "BoothFlash$Sitter" "kind" "I" ∈ TT := tt_1 40 (by decide +kernel) (by decide +kernel)
set_option maxRecDepth 20000 in
theorem wf_X2_19 : Cond.fieldLink RX2 19 "BoothFlash$Sitter" "tall" "I" ∈ TT := tt_1 41 (by decide +kernel) (by decide +kernel)
set_option maxRecDepth 20000 in
theorem wf_X0_160 : Cond.fieldLink RX0 160 "BoothFlash$Sitter" "tall" "I" ∈ TT := tt_1 42 (by decide +kernel) (by decide +kernel)
set_option maxRecDepth 20000 in
theorem wf_X4_267 : Cond.fieldLink RX4 267 "BoothFlash$Sitter" "tall" "I" ∈ TT := tt_1 43 (by decide +kernel) (by decide +kernel)
set_option maxRecDepth 20000 in
theorem wf_X2_22 : Cond.fieldLink RX2 22 "BoothFlash$Sitter" "still" "I" ∈ TT := tt_1 44 (by decide +kernel) (by decide +kernel)
set_option maxRecDepth 20000 in
theorem wf_X0_151 : Cond.fieldLink RX0 151 "BoothFlash$Sitter" "still" "I" ∈ TT := tt_1 45 (by decide +kernel) (by decide +kernel)
set_option maxRecDepth 20000 in
theorem wf_X2_25 : Cond.fieldLink RX2 25 "BoothFlash$Sitter" "merry" "I" ∈ TT := tt_1 46 (by decide +kernel) (by decide +kernel)
set_option maxRecDepth 20000 in
theorem wf_X0_154 : Cond.fieldLink RX0 154 "BoothFlash$Sitter" "merry" "I" ∈ TT := tt_1 47 (by decide +kernel) (by decide +kernel)
set_option maxRecDepth 20000 in
theorem wf_X2_28 : Cond.fieldLink RX2 28 "BoothFlash$Sitter" "coins" "I" ∈ TT := tt_1 48 (by decide +kernel) (by decide +kernel)
set_option maxRecDepth 20000 in
theorem wf_X0_124 : Cond.fieldLink RX0 124 "BoothFlash$Sitter" "coins" "I" ∈ TT := tt_1 49 (by decide +kernel) (by decide +kernel)
set_option maxRecDepth 20000 in
theorem wf_X2_31 : Cond.fieldLink RX2 31 "BoothFlash$Sitter" "taken" "I" ∈ TT := tt_1 50 (by decide +kernel) (by decide +kernel)
set_option maxRecDepth 20000 in
theorem wf_X0_148 : Cond.fieldLink RX0 148 "BoothFlash$Sitter" "taken" "I" ∈ TT := tt_1 51 (by decide +kernel) (by decide +kernel)
set_option maxRecDepth 20000 in
theorem wf_X4_261 : Cond.fieldLink RX4 261 "BoothFlash$Sitter" "taken" "I" ∈ TT := tt_1 52 (by decide +kernel) (by decide +kernel)
set_option maxRecDepth 20000 in
theorem wf_X2_34 : Cond.fieldLink RX2 34 "BoothFlash$Sitter" "tried" "I" ∈ TT := tt_1 53 (by decide +kernel) (by decide +kernel)
set_option maxRecDepth 20000 in
theorem wf_X0_141 : Cond.fieldLink RX0 141 "BoothFlash$Sitter" "tried" "I" ∈ TT := tt_1 54 (by decide +kernel) (by decide +kernel)
set_option maxRecDepth 20000 in
theorem wf_X0_9 : Cond.fieldLink RX0 9 "BoothFlash$Booth" "stool" "I" ∈ TT := tt_1 70 (by decide +kernel) (by decide +kernel)
set_option maxRecDepth 20000 in
theorem wf_X4_94 : Cond.fieldLink RX4 94 "BoothFlash$Booth" "stool" "I" ∈ TT := tt_1 71 (by decide +kernel) (by decide +kernel)
set_option maxRecDepth 20000 in
theorem wf_X0_15 : Cond.fieldLink RX0 15 "BoothFlash$Booth" "light" "I" ∈ TT := tt_1 72 (by decide +kernel) (by decide +kernel)
set_option maxRecDepth 20000 in
theorem wf_X4_165 : Cond.fieldLink RX4 165 "BoothFlash$Booth" "light" "I" ∈ TT := tt_1 73 (by decide +kernel) (by decide +kernel)
set_option maxRecDepth 20000 in
theorem wf_X0_18 : Cond.fieldLink RX0 18 "BoothFlash$Booth" "price" "I" ∈ TT := tt_1 74 (by decide +kernel) (by decide +kernel)
set_option maxRecDepth 20000 in
theorem wf_X4_152 : Cond.fieldLink RX4 152 "BoothFlash$Booth" "price" "I" ∈ TT := tt_1 75 (by decide +kernel) (by decide +kernel)
set_option maxRecDepth 20000 in
theorem wf_X0_21 : Cond.fieldLink RX0 21 "BoothFlash$Booth" "till" "I" ∈ TT := tt_1 76 (by decide +kernel) (by decide +kernel)
set_option maxRecDepth 20000 in
theorem wf_X4_168 : Cond.fieldLink RX4 168 "BoothFlash$Booth" "till" "I" ∈ TT := tt_1 77 (by decide +kernel) (by decide +kernel)
set_option maxRecDepth 20000 in
theorem wf_X0_24 : Cond.fieldLink RX0 24 "BoothFlash$Booth" "minute" "I" ∈ TT := tt_1 78 (by decide +kernel) (by decide +kernel)
set_option maxRecDepth 20000 in
theorem wf_X4_116 : Cond.fieldLink RX4 116 "BoothFlash$Booth" "minute" "I" ∈ TT := tt_1 79 (by decide +kernel) (by decide +kernel)
set_option maxRecDepth 20000 in
theorem wf_X0_27 : Cond.fieldLink RX0 27 "BoothFlash$Booth" "z" "I" ∈ TT := tt_1 80 (by decide +kernel) (by decide +kernel)
set_option maxRecDepth 20000 in
theorem wf_X4_205 : Cond.fieldLink RX4 205 "BoothFlash$Booth" "z" "I" ∈ TT := tt_1 81 (by decide +kernel) (by decide +kernel)
set_option maxRecDepth 20000 in
theorem wf_X0_30 : Cond.fieldLink RX0 30 "BoothFlash$Booth" "sitterCount" "I" ∈ TT := tt_1 82 (by decide +kernel) (by decide +kernel)
set_option maxRecDepth 20000 in
theorem wf_X3_83 : Cond.fieldLink RX3 83 "BoothFlash$Booth" "sitterCount" "I" ∈ TT := tt_1 83 (by decide +kernel) (by decide +kernel)
set_option maxRecDepth 20000 in
theorem wf_X4_155 : Cond.fieldLink RX4 155 "BoothFlash$Booth" "sitterCount" "I" ∈ TT := tt_1 84 (by decide +kernel) (by decide +kernel)
set_option maxRecDepth 20000 in
theorem wf_X0_35 : Cond.fieldLink RX0 35 "BoothFlash$Booth" "sitters" "[LBoothFlash$Sitter;" ∈ TT := tt_1 85 (by decide +kernel) (by decide +kernel)
set_option maxRecDepth 20000 in
theorem wf_X0_40 : Cond.fieldLink RX0 40 "BoothFlash$Booth" "places" "[I" ∈ TT := tt_1 86 (by decide +kernel) (by decide +kernel)
set_option maxRecDepth 20000 in
theorem wf_X0_44 : Cond.fieldLink RX0 44 "BoothFlash$Booth" "spots" "[I" ∈ TT := tt_1 87 (by decide +kernel) (by decide +kernel)
set_option maxRecDepth 20000 in
theorem wf_X4_221 : Cond.fieldLink RX4 221 "BoothFlash$Booth" "spots" "[I" ∈ TT := tt_1 88 (by decide +kernel) (by decide +kernel)
set_option maxRecDepth 20000 in
theorem wac_int : Cond.arrayClass .int ∈ TT := tt_1 110 (by decide +kernel) (by decide +kernel)
set_option maxRecDepth 20000 in
theorem wl_X4_26 : Cond.classLink RX4 26 RX3 ∈ TT := tt_1 111 (by decide +kernel) (by decide +kernel)
set_option maxRecDepth 20000 in
theorem wa_X3 : Cond.instantiable RX3 6 ∈ TT := tt_1 112 (by decide +kernel) (by decide +kernel)
set_option maxRecDepth 20000 in
theorem wm_X4_28 : Cond.methodLink RX4 28 yX3_init ∈ TT := tt_1 113 (by decide +kernel) (by decide +kernel)
set_option maxRecDepth 20000 in
theorem wi_X3_init : Cond.instanceMethod yX3_init ∈ TT := tt_1 114 (by decide +kernel) (by decide +kernel)
set_option maxRecDepth 20000 in
theorem wc_X3_init : Cond.code yX3_init cX3_init 1 none ∈ TT := tt_1 115 (by decide +kernel) (by decide +kernel)
set_option maxRecDepth 20000 in
theorem wm_X3_3 : Cond.methodLink RX3 3 objectInit ∈ TT := tt_1 116 (by decide +kernel) (by decide +kernel)
set_option maxRecDepth 20000 in
theorem wf_X3_11 : Cond.fieldLink RX3 11 "BoothFlash$Tape" "bytes" "[I" ∈ TT := tt_1 117 (by decide +kernel) (by decide +kernel)
set_option maxRecDepth 20000 in
theorem wf_X3_15 : Cond.fieldLink RX3 15 "BoothFlash$Tape" "size" "I" ∈ TT := tt_1 118 (by decide +kernel) (by decide +kernel)
set_option maxRecDepth 20000 in
theorem wf_X4_214 : Cond.fieldLink RX4 214 "BoothFlash$Tape" "size" "I" ∈ TT := tt_1 119 (by decide +kernel) (by decide +kernel)
set_option maxRecDepth 20000 in
theorem wf_X3_19 : Cond.fieldLink RX3 19 "BoothFlash$Tape" "begin" "I" ∈ TT := tt_1 120 (by decide +kernel) (by decide +kernel)
set_option maxRecDepth 20000 in
theorem wf_X3_22 : Cond.fieldLink RX3 22 "BoothFlash$Tape" "behind" "I" ∈ TT := tt_1 121 (by decide +kernel) (by decide +kernel)
set_option maxRecDepth 20000 in
theorem wf_X3_25 : Cond.fieldLink RX3 25 "BoothFlash$Tape" "type" "I" ∈ TT := tt_1 122 (by decide +kernel) (by decide +kernel)
set_option maxRecDepth 20000 in
theorem wf_X3_28 : Cond.fieldLink RX3 28 "BoothFlash$Tape" "value" "I" ∈ TT := tt_1 123 (by decide +kernel) (by decide +kernel)
set_option maxRecDepth 20000 in
theorem wl_X4_33 : Cond.classLink RX4 33 RX1 ∈ TT := tt_1 137 (by decide +kernel) (by decide +kernel)
set_option maxRecDepth 20000 in
theorem wa_X1 : Cond.instantiable RX1 3 ∈ TT := tt_1 139 (by decide +kernel) (by decide +kernel)
set_option maxRecDepth 20000 in
theorem wm_X4_39 : Cond.methodLink RX4 39 yX1_init ∈ TT := tt_1 140 (by decide +kernel) (by decide +kernel)
set_option maxRecDepth 20000 in
theorem wi_X1_init : Cond.instanceMethod yX1_init ∈ TT := tt_1 141 (by decide +kernel) (by decide +kernel)
set_option maxRecDepth 20000 in
theorem wc_X1_init : Cond.code yX1_init cX1_init 1 none ∈ TT := tt_1 142 (by decide +kernel) (by decide +kernel)
set_option maxRecDepth 20000 in
theorem wm_X1_1 : Cond.methodLink RX1 1 objectInit ∈ TT := tt_1 143 (by decide +kernel) (by decide +kernel)
set_option maxRecDepth 20000 in
theorem wf_X1_7 : Cond.fieldLink RX1 7 "BoothFlash$Sheet" "bits" "I" ∈ TT := tt_1 144 (by decide +kernel) (by decide +kernel)
set_option maxRecDepth 20000 in
theorem wf_X4_243 : Cond.fieldLink RX4 243 "BoothFlash$Sheet" "bits" "I" ∈ TT := tt_1 145 (by decide +kernel) (by decide +kernel)
set_option maxRecDepth 20000 in
theorem wf_X1_13 : Cond.fieldLink RX1 13 "BoothFlash$Sheet" "size" "I" ∈ TT := tt_1 146 (by decide +kernel) (by decide +kernel)
set_option maxRecDepth 20000 in
theorem wf_X4_239 : Cond.fieldLink RX4 239 "BoothFlash$Sheet" "size" "I" ∈ TT := tt_1 147 (by decide +kernel) (by decide +kernel)
set_option maxRecDepth 20000 in
theorem wf_X1_16 : Cond.fieldLink RX1 16 "BoothFlash$Sheet" "numbers" "[I" ∈ TT := tt_1 148 (by decide +kernel) (by decide +kernel)
set_option maxRecDepth 20000 in
theorem wf_X4_249 : Cond.fieldLink RX4 249 "BoothFlash$Sheet" "numbers" "[I" ∈ TT := tt_1 149 (by decide +kernel) (by decide +kernel)
set_option maxRecDepth 20000 in
theorem wf_X4_10 : Cond.fieldLink RX4 10 "BoothFlash" "real" "LBoothFlash$Booth;" ∈ TT := tt_1 157 (by decide +kernel) (by decide +kernel)
set_option maxRecDepth 20000 in
theorem wf_X4_16 : Cond.fieldLink RX4 16 "BoothFlash" "trial" "LBoothFlash$Booth;" ∈ TT := tt_1 158 (by decide +kernel) (by decide +kernel)
set_option maxRecDepth 20000 in
theorem wf_X4_19 : Cond.fieldLink RX4 19 "BoothFlash" "kept" "LBoothFlash$Booth;" ∈ TT := tt_1 159 (by decide +kernel) (by decide +kernel)
set_option maxRecDepth 20000 in
theorem wf_X4_22 : Cond.fieldLink RX4 22 "BoothFlash" "isKept" "Z" ∈ TT := tt_1 160 (by decide +kernel) (by decide +kernel)
set_option maxRecDepth 20000 in
theorem wf_X4_29 : Cond.fieldLink RX4 29 "BoothFlash" "tape" "LBoothFlash$Tape;" ∈ TT := tt_1 161 (by decide +kernel) (by decide +kernel)
set_option maxRecDepth 20000 in
theorem wf_X4_35 : Cond.fieldLink RX4 35 "BoothFlash" "sheets" "[LBoothFlash$Sheet;" ∈ TT := tt_1 162 (by decide +kernel) (by decide +kernel)
set_option maxRecDepth 20000 in
theorem wf_X4_40 : Cond.fieldLink RX4 40 "BoothFlash" "found" "[I" ∈ TT := tt_1 163 (by decide +kernel) (by decide +kernel)
set_option maxRecDepth 20000 in
theorem wm_L_13 : Cond.methodLink RL 13 yX4_set ∈ TT := tt_1 179 (by decide +kernel) (by decide +kernel)
set_option maxRecDepth 20000 in
theorem wi_X4_set : Cond.instanceMethod yX4_set ∈ TT := tt_1 180 (by decide +kernel) (by decide +kernel)
set_option maxRecDepth 20000 in
theorem wv_X4_set : Cond.selects RX4 yX4_set yX4_set ∈ TT := tt_1 181 (by decide +kernel) (by decide +kernel)
set_option maxRecDepth 20000 in
theorem wc_X4_set : Cond.code yX4_set cX4_set 4 (some .int) ∈ TT := tt_1 182 (by decide +kernel) (by decide +kernel)
set_option maxRecDepth 20000 in
theorem wm_X4_44 : Cond.methodLink RX4 44 yX0_isPart ∈ TT := tt_1 183 (by decide +kernel) (by decide +kernel)
set_option maxRecDepth 20000 in
theorem wt_X0_isPart : Cond.static yX0_isPart ∈ TT := tt_1 184 (by decide +kernel) (by decide +kernel)
set_option maxRecDepth 20000 in
theorem wc_X0_isPart : Cond.code yX0_isPart cX0_isPart 1 (some .boolean) ∈ TT := tt_1 185 (by decide +kernel) (by decide +kernel)
set_option maxRecDepth 20000 in
theorem wm_X4_48 : Cond.methodLink RX4 48 yX0_mostOf ∈ TT := tt_1 186 (by decide +kernel) (by decide +kernel)
set_option maxRecDepth 20000 in
theorem wt_X0_mostOf : Cond.static yX0_mostOf ∈ TT := tt_1 187 (by decide +kernel) (by decide +kernel)
set_option maxRecDepth 20000 in
theorem wc_X0_mostOf : Cond.code yX0_mostOf cX0_mostOf 1 (some .int) ∈ TT := tt_1 188 (by decide +kernel) (by decide +kernel)
set_option maxRecDepth 20000 in
theorem wk_X0_57 : Cond.constant RX0 57 (99999) ∈ TT := tt_1 189 (by decide +kernel) (by decide +kernel)
set_option maxRecDepth 20000 in
theorem wm_X4_52 : Cond.methodLink RX4 52 yX4_isWithin ∈ TT := tt_1 190 (by decide +kernel) (by decide +kernel)
set_option maxRecDepth 20000 in
theorem wt_X4_isWithin : Cond.static yX4_isWithin ∈ TT := tt_1 191 (by decide +kernel) (by decide +kernel)
set_option maxRecDepth 20000 in
theorem wc_X4_isWithin : Cond.code yX4_isWithin cX4_isWithin 2 (some .boolean) ∈ TT := tt_1 192 (by decide +kernel) (by decide +kernel)
set_option maxRecDepth 20000 in
theorem wk_X4_56 : Cond.constant RX4 56 (-1000001) ∈ TT := tt_1 193 (by decide +kernel) (by decide +kernel)
set_option maxRecDepth 20000 in
theorem wm_X4_57 : Cond.methodLink RX4 57 yX4_finding ∈ TT := tt_1 194 (by decide +kernel) (by decide +kernel)
set_option maxRecDepth 20000 in
theorem wi_X4_finding : Cond.instanceMethod yX4_finding ∈ TT := tt_1 196 (by decide +kernel) (by decide +kernel)
set_option maxRecDepth 20000 in
theorem wc_X4_finding : Cond.code yX4_finding cX4_finding 3 (some .int) ∈ TT := tt_1 197 (by decide +kernel) (by decide +kernel)
set_option maxRecDepth 20000 in
theorem wm_X4_60 : Cond.methodLink RX4 60 yX0_part ∈ TT := tt_1 198 (by decide +kernel) (by decide +kernel)
set_option maxRecDepth 20000 in
theorem wi_X0_part : Cond.instanceMethod yX0_part ∈ TT := tt_1 199 (by decide +kernel) (by decide +kernel)
set_option maxRecDepth 20000 in
theorem wv_X0_part : Cond.selects RX0 yX0_part yX0_part ∈ TT := tt_1 200 (by decide +kernel) (by decide +kernel)
set_option maxRecDepth 20000 in
theorem wc_X0_part : Cond.code yX0_part cX0_part 2 (some .int) ∈ TT := tt_1 201 (by decide +kernel) (by decide +kernel)
set_option maxRecDepth 20000 in
theorem wm_X4_63 : Cond.methodLink RX4 63 yX0_putPart ∈ TT := tt_1 202 (by decide +kernel) (by decide +kernel)
set_option maxRecDepth 20000 in
theorem wi_X0_putPart : Cond.instanceMethod yX0_putPart ∈ TT := tt_1 203 (by decide +kernel) (by decide +kernel)
set_option maxRecDepth 20000 in
theorem wv_X0_putPart : Cond.selects RX0 yX0_putPart yX0_putPart ∈ TT := tt_1 204 (by decide +kernel) (by decide +kernel)
set_option maxRecDepth 20000 in
theorem wc_X0_putPart : Cond.code yX0_putPart cX0_putPart 3 none ∈ TT := tt_1 205 (by decide +kernel) (by decide +kernel)
set_option maxRecDepth 20000 in
theorem wm_L_18 : Cond.methodLink RL 18 yX4_booth ∈ TT := tt_1 206 (by decide +kernel) (by decide +kernel)
set_option maxRecDepth 20000 in
theorem wi_X4_booth : Cond.instanceMethod yX4_booth ∈ TT := tt_1 207 (by decide +kernel) (by decide +kernel)
set_option maxRecDepth 20000 in
theorem wv_X4_booth : Cond.selects RX4 yX4_booth yX4_booth ∈ TT := tt_1 208 (by decide +kernel) (by decide +kernel)
set_option maxRecDepth 20000 in
theorem wc_X4_booth : Cond.code yX4_booth cX4_booth 2 (some .int) ∈ TT := tt_1 209 (by decide +kernel) (by decide +kernel)
set_option maxRecDepth 20000 in
theorem wm_L_23 : Cond.methodLink RL 23 yX4_queue ∈ TT := tt_1 210 (by decide +kernel) (by decide +kernel)
set_option maxRecDepth 20000 in
theorem wi_X4_queue : Cond.instanceMethod yX4_queue ∈ TT := tt_1 211 (by decide +kernel) (by decide +kernel)
set_option maxRecDepth 20000 in
theorem wv_X4_queue : Cond.selects RX4 yX4_queue yX4_queue ∈ TT := tt_1 212 (by decide +kernel) (by decide +kernel)
set_option maxRecDepth 20000 in
theorem wc_X4_queue : Cond.code yX4_queue cX4_queue 4 (some .int) ∈ TT := tt_1 213 (by decide +kernel) (by decide +kernel)
set_option maxRecDepth 20000 in
theorem wm_X4_67 : Cond.methodLink RX4 67 yX0_isPlace ∈ TT := tt_1 214 (by decide +kernel) (by decide +kernel)
set_option maxRecDepth 20000 in
theorem wt_X0_isPlace : Cond.static yX0_isPlace ∈ TT := tt_1 215 (by decide +kernel) (by decide +kernel)
set_option maxRecDepth 20000 in
theorem wc_X0_isPlace : Cond.code yX0_isPlace cX0_isPlace 1 (some .boolean) ∈ TT := tt_1 216 (by decide +kernel) (by decide +kernel)
set_option maxRecDepth 20000 in
theorem wm_X4_70 : Cond.methodLink RX4 70 yX0_isSomebodyOrNobody ∈ TT := tt_1 217 (by decide +kernel) (by decide +kernel)
set_option maxRecDepth 20000 in
theorem wi_X0_isSomebodyOrNobody : Cond.instanceMethod yX0_isSomebodyOrNobody ∈ TT := tt_1 218 (by decide +kernel) (by decide +kernel)
set_option maxRecDepth 20000 in
theorem wv_X0_isSomebodyOrNobody : Cond.selects RX0 yX0_isSomebodyOrNobody yX0_isSomebodyOrNobody ∈ TT := tt_1 219 (by decide +kernel) (by decide +kernel)
set_option maxRecDepth 20000 in
theorem wc_X0_isSomebodyOrNobody : Cond.code yX0_isSomebodyOrNobody cX0_isSomebodyOrNobody 2 (some .boolean) ∈ TT := tt_1 220 (by decide +kernel) (by decide +kernel)
set_option maxRecDepth 20000 in
theorem wm_X0_62 : Cond.methodLink RX0 62 yX0_isSitter ∈ TT := tt_1 221 (by decide +kernel) (by decide +kernel)
set_option maxRecDepth 20000 in
theorem wi_X0_isSitter : Cond.instanceMethod yX0_isSitter ∈ TT := tt_1 222 (by decide +kernel) (by decide +kernel)
set_option maxRecDepth 20000 in
theorem wv_X0_isSitter : Cond.selects RX0 yX0_isSitter yX0_isSitter ∈ TT := tt_1 223 (by decide +kernel) (by decide +kernel)
set_option maxRecDepth 20000 in
theorem wc_X0_isSitter : Cond.code yX0_isSitter cX0_isSitter 2 (some .boolean) ∈ TT := tt_1 224 (by decide +kernel) (by decide +kernel)
set_option maxRecDepth 20000 in
theorem wm_X4_73 : Cond.methodLink RX4 73 yX0_whoIsIn ∈ TT := tt_1 225 (by decide +kernel) (by decide +kernel)
set_option maxRecDepth 20000 in
theorem wi_X0_whoIsIn : Cond.instanceMethod yX0_whoIsIn ∈ TT := tt_1 226 (by decide +kernel) (by decide +kernel)
set_option maxRecDepth 20000 in
theorem wv_X0_whoIsIn : Cond.selects RX0 yX0_whoIsIn yX0_whoIsIn ∈ TT := tt_1 227 (by decide +kernel) (by decide +kernel)
set_option maxRecDepth 20000 in
theorem wc_X0_whoIsIn : Cond.code yX0_whoIsIn cX0_whoIsIn 2 (some .int) ∈ TT := tt_1 228 (by decide +kernel) (by decide +kernel)
set_option maxRecDepth 20000 in
theorem wm_X0_58 : Cond.methodLink RX0 58 yX0_isPlace ∈ TT := tt_1 229 (by decide +kernel) (by decide +kernel)
set_option maxRecDepth 20000 in
theorem wm_X4_76 : Cond.methodLink RX4 76 yX0_seat ∈ TT := tt_1 230 (by decide +kernel) (by decide +kernel)
set_option maxRecDepth 20000 in
theorem wi_X0_seat : Cond.instanceMethod yX0_seat ∈ TT := tt_1 231 (by decide +kernel) (by decide +kernel)
set_option maxRecDepth 20000 in
theorem wv_X0_seat : Cond.selects RX0 yX0_seat yX0_seat ∈ TT := tt_1 232 (by decide +kernel) (by decide +kernel)
set_option maxRecDepth 20000 in
theorem wc_X0_seat : Cond.code yX0_seat cX0_seat 3 none ∈ TT := tt_1 233 (by decide +kernel) (by decide +kernel)
set_option maxRecDepth 20000 in
theorem wm_L_27 : Cond.methodLink RL 27 yX4_place ∈ TT := tt_1 234 (by decide +kernel) (by decide +kernel)
set_option maxRecDepth 20000 in
theorem wi_X4_place : Cond.instanceMethod yX4_place ∈ TT := tt_1 235 (by decide +kernel) (by decide +kernel)
set_option maxRecDepth 20000 in
theorem wv_X4_place : Cond.selects RX4 yX4_place yX4_place ∈ TT := tt_1 236 (by decide +kernel) (by decide +kernel)
set_option maxRecDepth 20000 in
theorem wc_X4_place : Cond.code yX4_place cX4_place 2 (some .int) ∈ TT := tt_1 237 (by decide +kernel) (by decide +kernel)
set_option maxRecDepth 20000 in
theorem wm_L_31 : Cond.methodLink RL 31 yX4_sitter ∈ TT := tt_1 238 (by decide +kernel) (by decide +kernel)
set_option maxRecDepth 20000 in
theorem wi_X4_sitter : Cond.instanceMethod yX4_sitter ∈ TT := tt_1 239 (by decide +kernel) (by decide +kernel)
set_option maxRecDepth 20000 in
theorem wv_X4_sitter : Cond.selects RX4 yX4_sitter yX4_sitter ∈ TT := tt_2 0 (by decide +kernel) (by decide +kernel)
set_option maxRecDepth 20000 in
theorem wc_X4_sitter : Cond.code yX4_sitter cX4_sitter 4 (some .int) ∈ TT := tt_2 1 (by decide +kernel) (by decide +kernel)
set_option maxRecDepth 20000 in
theorem wm_X4_79 : Cond.methodLink RX4 79 yX2_mostOf ∈ TT := tt_2 2 (by decide +kernel) (by decide +kernel)
set_option maxRecDepth 20000 in
theorem wt_X2_mostOf : Cond.static yX2_mostOf ∈ TT := tt_2 3 (by decide +kernel) (by decide +kernel)
set_option maxRecDepth 20000 in
theorem wc_X2_mostOf : Cond.code yX2_mostOf cX2_mostOf 1 (some .int) ∈ TT := tt_2 4 (by decide +kernel) (by decide +kernel)
set_option maxRecDepth 20000 in
theorem wm_X4_82 : Cond.methodLink RX4 82 yX0_addSitter ∈ TT := tt_2 5 (by decide +kernel) (by decide +kernel)
set_option maxRecDepth 20000 in
theorem wi_X0_addSitter : Cond.instanceMethod yX0_addSitter ∈ TT := tt_2 6 (by decide +kernel) (by decide +kernel)
set_option maxRecDepth 20000 in
theorem wv_X0_addSitter : Cond.selects RX0 yX0_addSitter yX0_addSitter ∈ TT := tt_2 7 (by decide +kernel) (by decide +kernel)
set_option maxRecDepth 20000 in
theorem wc_X0_addSitter : Cond.code yX0_addSitter cX0_addSitter 2 (some .int) ∈ TT := tt_2 8 (by decide +kernel) (by decide +kernel)
set_option maxRecDepth 20000 in
theorem wm_X0_65 : Cond.methodLink RX0 65 yX2_begin ∈ TT := tt_2 9 (by decide +kernel) (by decide +kernel)
set_option maxRecDepth 20000 in
theorem wk_X4_85 : Cond.constant RX4 85 (-1000002) ∈ TT := tt_2 10 (by decide +kernel) (by decide +kernel)
set_option maxRecDepth 20000 in
theorem wm_X4_86 : Cond.methodLink RX4 86 yX0_give ∈ TT := tt_2 11 (by decide +kernel) (by decide +kernel)
set_option maxRecDepth 20000 in
theorem wi_X0_give : Cond.instanceMethod yX0_give ∈ TT := tt_2 12 (by decide +kernel) (by decide +kernel)
set_option maxRecDepth 20000 in
theorem wv_X0_give : Cond.selects RX0 yX0_give yX0_give ∈ TT := tt_2 13 (by decide +kernel) (by decide +kernel)
set_option maxRecDepth 20000 in
theorem wc_X0_give : Cond.code yX0_give cX0_give 5 none ∈ TT := tt_2 14 (by decide +kernel) (by decide +kernel)
set_option maxRecDepth 20000 in
theorem wm_X0_69 : Cond.methodLink RX0 69 yX0_who ∈ TT := tt_2 15 (by decide +kernel) (by decide +kernel)
set_option maxRecDepth 20000 in
theorem wi_X0_who : Cond.instanceMethod yX0_who ∈ TT := tt_2 16 (by decide +kernel) (by decide +kernel)
set_option maxRecDepth 20000 in
theorem wv_X0_who : Cond.selects RX0 yX0_who yX0_who ∈ TT := tt_2 17 (by decide +kernel) (by decide +kernel)
set_option maxRecDepth 20000 in
theorem wc_X0_who : Cond.code yX0_who cX0_who 2 (some (.object "BoothFlash$Sitter")) ∈ TT := tt_2 18 (by decide +kernel) (by decide +kernel)
set_option maxRecDepth 20000 in
theorem wm_X0_77 : Cond.methodLink RX0 77 yX2_putPart ∈ TT := tt_2 19 (by decide +kernel) (by decide +kernel)
set_option maxRecDepth 20000 in
theorem wi_X2_putPart : Cond.instanceMethod yX2_putPart ∈ TT := tt_2 20 (by decide +kernel) (by decide +kernel)
set_option maxRecDepth 20000 in
theorem wv_X2_putPart : Cond.selects RX2 yX2_putPart yX2_putPart ∈ TT := tt_2 21 (by decide +kernel) (by decide +kernel)
set_option maxRecDepth 20000 in
theorem wc_X2_putPart : Cond.code yX2_putPart cX2_putPart 3 none ∈ TT := tt_2 22 (by decide +kernel) (by decide +kernel)
set_option maxRecDepth 20000 in
theorem wm_L_35 : Cond.methodLink RL 35 yX4_of ∈ TT := tt_2 23 (by decide +kernel) (by decide +kernel)
set_option maxRecDepth 20000 in
theorem wi_X4_of : Cond.instanceMethod yX4_of ∈ TT := tt_2 24 (by decide +kernel) (by decide +kernel)
set_option maxRecDepth 20000 in
theorem wv_X4_of : Cond.selects RX4 yX4_of yX4_of ∈ TT := tt_2 25 (by decide +kernel) (by decide +kernel)
set_option maxRecDepth 20000 in
theorem wc_X4_of : Cond.code yX4_of cX4_of 4 (some .int) ∈ TT := tt_2 26 (by decide +kernel) (by decide +kernel)
set_option maxRecDepth 20000 in
theorem wm_X4_90 : Cond.methodLink RX4 90 yX0_who ∈ TT := tt_2 27 (by decide +kernel) (by decide +kernel)
set_option maxRecDepth 20000 in
theorem wm_X4_98 : Cond.methodLink RX4 98 yX2_off ∈ TT := tt_2 28 (by decide +kernel) (by decide +kernel)
set_option maxRecDepth 20000 in
theorem wi_X2_off : Cond.instanceMethod yX2_off ∈ TT := tt_2 29 (by decide +kernel) (by decide +kernel)
set_option maxRecDepth 20000 in
theorem wv_X2_off : Cond.selects RX2 yX2_off yX2_off ∈ TT := tt_2 30 (by decide +kernel) (by decide +kernel)
set_option maxRecDepth 20000 in
theorem wc_X2_off : Cond.code yX2_off cX2_off 2 (some .int) ∈ TT := tt_2 31 (by decide +kernel) (by decide +kernel)
set_option maxRecDepth 20000 in
theorem wm_X2_41 : Cond.methodLink RX2 41 yJ9_abs_0f7a4 ∈ TT := tt_2 32 (by decide +kernel) (by decide +kernel)
set_option maxRecDepth 20000 in
theorem wt_J9_abs_0f7a4 : Cond.static yJ9_abs_0f7a4 ∈ TT := tt_2 33 (by decide +kernel) (by decide +kernel)
set_option maxRecDepth 20000 in
theorem wc_J9_abs_0f7a4 : Cond.code yJ9_abs_0f7a4 cJ9_abs_0f7a4 1 (some .int) ∈ TT := tt_2 34 (by decide +kernel) (by decide +kernel)
set_option maxRecDepth 20000 in
theorem wm_X4_101 : Cond.methodLink RX4 101 yX2_mayBeOff ∈ TT := tt_2 35 (by decide +kernel) (by decide +kernel)
set_option maxRecDepth 20000 in
theorem wi_X2_mayBeOff : Cond.instanceMethod yX2_mayBeOff ∈ TT := tt_2 36 (by decide +kernel) (by decide +kernel)
set_option maxRecDepth 20000 in
theorem wv_X2_mayBeOff : Cond.selects RX2 yX2_mayBeOff yX2_mayBeOff ∈ TT := tt_2 37 (by decide +kernel) (by decide +kernel)
set_option maxRecDepth 20000 in
theorem wc_X2_mayBeOff : Cond.code yX2_mayBeOff cX2_mayBeOff 1 (some .int) ∈ TT := tt_2 38 (by decide +kernel) (by decide +kernel)
set_option maxRecDepth 20000 in
theorem wm_X4_105 : Cond.methodLink RX4 105 yX2_part ∈ TT := tt_2 39 (by decide +kernel) (by decide +kernel)
set_option maxRecDepth 20000 in
theorem wi_X2_part : Cond.instanceMethod yX2_part ∈ TT := tt_2 40 (by decide +kernel) (by decide +kernel)
set_option maxRecDepth 20000 in
theorem wv_X2_part : Cond.selects RX2 yX2_part yX2_part ∈ TT := tt_2 41 (by decide +kernel) (by decide +kernel)
set_option maxRecDepth 20000 in
theorem wc_X2_part : Cond.code yX2_part cX2_part 2 (some .int) ∈ TT := tt_2 42 (by decide +kernel) (by decide +kernel)
set_option maxRecDepth 20000 in
theorem wm_L_39 : Cond.methodLink RL 39 yX4_change ∈ TT := tt_2 43 (by decide +kernel) (by decide +kernel)
set_option maxRecDepth 20000 in
theorem wi_X4_change : Cond.instanceMethod yX4_change ∈ TT := tt_2 44 (by decide +kernel) (by decide +kernel)
set_option maxRecDepth 20000 in
theorem wv_X4_change : Cond.selects RX4 yX4_change yX4_change ∈ TT := tt_2 45 (by decide +kernel) (by decide +kernel)
set_option maxRecDepth 20000 in
theorem wc_X4_change : Cond.code yX4_change cX4_change 6 (some .int) ∈ TT := tt_2 46 (by decide +kernel) (by decide +kernel)
set_option maxRecDepth 20000 in
theorem wm_X4_106 : Cond.methodLink RX4 106 yX2_putPart ∈ TT := tt_2 47 (by decide +kernel) (by decide +kernel)
set_option maxRecDepth 20000 in
theorem wm_L_44 : Cond.methodLink RL 44 yX4_faults ∈ TT := tt_2 48 (by decide +kernel) (by decide +kernel)
set_option maxRecDepth 20000 in
theorem wi_X4_faults : Cond.instanceMethod yX4_faults ∈ TT := tt_2 49 (by decide +kernel) (by decide +kernel)
set_option maxRecDepth 20000 in
theorem wv_X4_faults : Cond.selects RX4 yX4_faults yX4_faults ∈ TT := tt_2 50 (by decide +kernel) (by decide +kernel)
set_option maxRecDepth 20000 in
theorem wc_X4_faults : Cond.code yX4_faults cX4_faults 4 (some .int) ∈ TT := tt_2 51 (by decide +kernel) (by decide +kernel)
set_option maxRecDepth 20000 in
theorem wm_X4_107 : Cond.methodLink RX4 107 yX0_faultsOf ∈ TT := tt_2 52 (by decide +kernel) (by decide +kernel)
set_option maxRecDepth 20000 in
theorem wi_X0_faultsOf : Cond.instanceMethod yX0_faultsOf ∈ TT := tt_2 53 (by decide +kernel) (by decide +kernel)
set_option maxRecDepth 20000 in
theorem wv_X0_faultsOf : Cond.selects RX0 yX0_faultsOf yX0_faultsOf ∈ TT := tt_2 54 (by decide +kernel) (by decide +kernel)
set_option maxRecDepth 20000 in
theorem wc_X0_faultsOf : Cond.code yX0_faultsOf cX0_faultsOf 4 (some .int) ∈ TT := tt_2 55 (by decide +kernel) (by decide +kernel)
set_option maxRecDepth 20000 in
theorem wm_X0_85 : Cond.methodLink RX0 85 yX2_off ∈ TT := tt_2 56 (by decide +kernel) (by decide +kernel)
set_option maxRecDepth 20000 in
theorem wm_X0_88 : Cond.methodLink RX0 88 yX2_mayBeOff ∈ TT := tt_2 57 (by decide +kernel) (by decide +kernel)
set_option maxRecDepth 20000 in
theorem wm_X0_92 : Cond.methodLink RX0 92 yX2_isShut ∈ TT := tt_2 58 (by decide +kernel) (by decide +kernel)
set_option maxRecDepth 20000 in
theorem wi_X2_isShut : Cond.instanceMethod yX2_isShut ∈ TT := tt_2 59 (by decide +kernel) (by decide +kernel)
set_option maxRecDepth 20000 in
theorem wv_X2_isShut : Cond.selects RX2 yX2_isShut yX2_isShut ∈ TT := tt_2 60 (by decide +kernel) (by decide +kernel)
set_option maxRecDepth 20000 in
theorem wc_X2_isShut : Cond.code yX2_isShut cX2_isShut 6 (some .boolean) ∈ TT := tt_2 61 (by decide +kernel) (by decide +kernel)
set_option maxRecDepth 20000 in
theorem wm_X0_96 : Cond.methodLink RX0 96 yX2_isSmiling ∈ TT := tt_2 62 (by decide +kernel) (by decide +kernel)
set_option maxRecDepth 20000 in
theorem wi_X2_isSmiling : Cond.instanceMethod yX2_isSmiling ∈ TT := tt_2 63 (by decide +kernel) (by decide +kernel)
set_option maxRecDepth 20000 in
theorem wv_X2_isSmiling : Cond.selects RX2 yX2_isSmiling yX2_isSmiling ∈ TT := tt_2 64 (by decide +kernel) (by decide +kernel)
set_option maxRecDepth 20000 in
theorem wc_X2_isSmiling : Cond.code yX2_isSmiling cX2_isSmiling 3 (some .boolean) ∈ TT := tt_2 65 (by decide +kernel) (by decide +kernel)
set_option maxRecDepth 20000 in
theorem wm_X0_99 : Cond.methodLink RX0 99 yX2_isShining ∈ TT := tt_2 66 (by decide +kernel) (by decide +kernel)
set_option maxRecDepth 20000 in
theorem wi_X2_isShining : Cond.instanceMethod yX2_isShining ∈ TT := tt_2 67 (by decide +kernel) (by decide +kernel)
set_option maxRecDepth 20000 in
theorem wv_X2_isShining : Cond.selects RX2 yX2_isShining yX2_isShining ∈ TT := tt_2 68 (by decide +kernel) (by decide +kernel)
set_option maxRecDepth 20000 in
theorem wc_X2_isShining : Cond.code yX2_isShining cX2_isShining 2 (some .boolean) ∈ TT := tt_2 69 (by decide +kernel) (by decide +kernel)
set_option maxRecDepth 20000 in
theorem wm_L_48 : Cond.methodLink RL 48 yX4_best ∈ TT := tt_2 70 (by decide +kernel) (by decide +kernel)
set_option maxRecDepth 20000 in
theorem wi_X4_best : Cond.instanceMethod yX4_best ∈ TT := tt_2 71 (by decide +kernel) (by decide +kernel)
set_option maxRecDepth 20000 in
theorem wv_X4_best : Cond.selects RX4 yX4_best yX4_best ∈ TT := tt_2 72 (by decide +kernel) (by decide +kernel)
set_option maxRecDepth 20000 in
theorem wc_X4_best : Cond.code yX4_best cX4_best 5 (some .int) ∈ TT := tt_2 73 (by decide +kernel) (by decide +kernel)
set_option maxRecDepth 20000 in
theorem wm_X4_111 : Cond.methodLink RX4 111 yJ6_bitCount_0f7a4 ∈ TT := tt_2 74 (by decide +kernel) (by decide +kernel)
set_option maxRecDepth 20000 in
theorem wt_J6_bitCount_0f7a4 : Cond.static yJ6_bitCount_0f7a4 ∈ TT := tt_2 75 (by decide +kernel) (by decide +kernel)
set_option maxRecDepth 20000 in
theorem wc_J6_bitCount_0f7a4 : Cond.code yJ6_bitCount_0f7a4 cJ6_bitCount_0f7a4 1 (some .int) ∈ TT := tt_2 76 (by decide +kernel) (by decide +kernel)
set_option maxRecDepth 20000 in
theorem wk_J6_265 : Cond.constant RJ6 265 (1431655765) ∈ TT := tt_2 77 (by decide +kernel) (by decide +kernel)
set_option maxRecDepth 20000 in
theorem wk_J6_266 : Cond.constant RJ6 266 (858993459) ∈ TT := tt_2 78 (by decide +kernel) (by decide +kernel)
set_option maxRecDepth 20000 in
theorem wk_J6_267 : Cond.constant RJ6 267 (252645135) ∈ TT := tt_2 79 (by decide +kernel) (by decide +kernel)
set_option maxRecDepth 20000 in
theorem wm_L_52 : Cond.methodLink RL 52 yX4_go ∈ TT := tt_2 80 (by decide +kernel) (by decide +kernel)
set_option maxRecDepth 20000 in
theorem wi_X4_go : Cond.instanceMethod yX4_go ∈ TT := tt_2 81 (by decide +kernel) (by decide +kernel)
set_option maxRecDepth 20000 in
theorem wv_X4_go : Cond.selects RX4 yX4_go yX4_go ∈ TT := tt_2 82 (by decide +kernel) (by decide +kernel)
set_option maxRecDepth 20000 in
theorem wc_X4_go : Cond.code yX4_go cX4_go 2 (some .int) ∈ TT := tt_2 83 (by decide +kernel) (by decide +kernel)
set_option maxRecDepth 20000 in
theorem wk_X4_119 : Cond.constant RX4 119 (99999) ∈ TT := tt_2 84 (by decide +kernel) (by decide +kernel)
set_option maxRecDepth 20000 in
theorem wk_X4_120 : Cond.constant RX4 120 (-1000005) ∈ TT := tt_2 85 (by decide +kernel) (by decide +kernel)
set_option maxRecDepth 20000 in
theorem wm_X4_121 : Cond.methodLink RX4 121 yX0_passMinutes ∈ TT := tt_2 86 (by decide +kernel) (by decide +kernel)
set_option maxRecDepth 20000 in
theorem wi_X0_passMinutes : Cond.instanceMethod yX0_passMinutes ∈ TT := tt_2 87 (by decide +kernel) (by decide +kernel)
set_option maxRecDepth 20000 in
theorem wv_X0_passMinutes : Cond.selects RX0 yX0_passMinutes yX0_passMinutes ∈ TT := tt_2 88 (by decide +kernel) (by decide +kernel)
set_option maxRecDepth 20000 in
theorem wc_X0_passMinutes : Cond.code yX0_passMinutes cX0_passMinutes 3 none ∈ TT := tt_2 89 (by decide +kernel) (by decide +kernel)
set_option maxRecDepth 20000 in
theorem wm_X0_115 : Cond.methodLink RX0 115 yX0_passMinute ∈ TT := tt_2 90 (by decide +kernel) (by decide +kernel)
set_option maxRecDepth 20000 in
theorem wi_X0_passMinute : Cond.instanceMethod yX0_passMinute ∈ TT := tt_2 91 (by decide +kernel) (by decide +kernel)
set_option maxRecDepth 20000 in
theorem wv_X0_passMinute : Cond.selects RX0 yX0_passMinute yX0_passMinute ∈ TT := tt_2 92 (by decide +kernel) (by decide +kernel)
set_option maxRecDepth 20000 in
theorem wc_X0_passMinute : Cond.code yX0_passMinute cX0_passMinute 2 none ∈ TT := tt_2 93 (by decide +kernel) (by decide +kernel)
set_option maxRecDepth 20000 in
theorem wm_X0_118 : Cond.methodLink RX0 118 yX0_nextPlace ∈ TT := tt_2 94 (by decide +kernel) (by decide +kernel)
set_option maxRecDepth 20000 in
theorem wi_X0_nextPlace : Cond.instanceMethod yX0_nextPlace ∈ TT := tt_2 95 (by decide +kernel) (by decide +kernel)
set_option maxRecDepth 20000 in
theorem wv_X0_nextPlace : Cond.selects RX0 yX0_nextPlace yX0_nextPlace ∈ TT := tt_2 96 (by decide +kernel) (by decide +kernel)
set_option maxRecDepth 20000 in
theorem wc_X0_nextPlace : Cond.code yX0_nextPlace cX0_nextPlace 1 (some .int) ∈ TT := tt_2 97 (by decide +kernel) (by decide +kernel)
set_option maxRecDepth 20000 in
theorem wm_X0_121 : Cond.methodLink RX0 121 yX0_whoIsIn ∈ TT := tt_2 98 (by decide +kernel) (by decide +kernel)
set_option maxRecDepth 20000 in
theorem wm_X0_127 : Cond.methodLink RX0 127 yX0_takePictures ∈ TT := tt_2 99 (by decide +kernel) (by decide +kernel)
set_option maxRecDepth 20000 in
theorem wi_X0_takePictures : Cond.instanceMethod yX0_takePictures ∈ TT := tt_2 100 (by decide +kernel) (by decide +kernel)
set_option maxRecDepth 20000 in
theorem wv_X0_takePictures : Cond.selects RX0 yX0_takePictures yX0_takePictures ∈ TT := tt_2 101 (by decide +kernel) (by decide +kernel)
set_option maxRecDepth 20000 in
theorem wc_X0_takePictures : Cond.code yX0_takePictures cX0_takePictures 2 none ∈ TT := tt_2 102 (by decide +kernel) (by decide +kernel)
set_option maxRecDepth 20000 in
theorem wm_X0_138 : Cond.methodLink RX0 138 yX0_mostOf ∈ TT := tt_2 103 (by decide +kernel) (by decide +kernel)
set_option maxRecDepth 20000 in
theorem wm_X0_130 : Cond.methodLink RX0 130 yJ9_min_7cf53 ∈ TT := tt_2 104 (by decide +kernel) (by decide +kernel)
set_option maxRecDepth 20000 in
theorem wt_J9_min_7cf53 : Cond.static yJ9_min_7cf53 ∈ TT := tt_2 105 (by decide +kernel) (by decide +kernel)
set_option maxRecDepth 20000 in
theorem wc_J9_min_7cf53 : Cond.code yJ9_min_7cf53 cJ9_min_7cf53 2 (some .int) ∈ TT := tt_2 106 (by decide +kernel) (by decide +kernel)
set_option maxRecDepth 20000 in
theorem wm_X0_144 : Cond.methodLink RX0 144 yX2_mostOf ∈ TT := tt_2 107 (by decide +kernel) (by decide +kernel)
set_option maxRecDepth 20000 in
theorem wm_X0_145 : Cond.methodLink RX0 145 yX0_turnStool ∈ TT := tt_2 108 (by decide +kernel) (by decide +kernel)
set_option maxRecDepth 20000 in
theorem wi_X0_turnStool : Cond.instanceMethod yX0_turnStool ∈ TT := tt_2 109 (by decide +kernel) (by decide +kernel)
set_option maxRecDepth 20000 in
theorem wv_X0_turnStool : Cond.selects RX0 yX0_turnStool yX0_turnStool ∈ TT := tt_2 110 (by decide +kernel) (by decide +kernel)
set_option maxRecDepth 20000 in
theorem wc_X0_turnStool : Cond.code yX0_turnStool cX0_turnStool 3 none ∈ TT := tt_2 111 (by decide +kernel) (by decide +kernel)
set_option maxRecDepth 20000 in
theorem wm_X0_157 : Cond.methodLink RX0 157 yJ9_max_7cf53 ∈ TT := tt_2 112 (by decide +kernel) (by decide +kernel)
set_option maxRecDepth 20000 in
theorem wt_J9_max_7cf53 : Cond.static yJ9_max_7cf53 ∈ TT := tt_2 113 (by decide +kernel) (by decide +kernel)
set_option maxRecDepth 20000 in
theorem wc_J9_max_7cf53 : Cond.code yJ9_max_7cf53 cJ9_max_7cf53 2 (some .int) ∈ TT := tt_2 114 (by decide +kernel) (by decide +kernel)
set_option maxRecDepth 20000 in
theorem wm_X0_106 : Cond.methodLink RX0 106 yX0_hasClearFlash ∈ TT := tt_2 115 (by decide +kernel) (by decide +kernel)
set_option maxRecDepth 20000 in
theorem wi_X0_hasClearFlash : Cond.instanceMethod yX0_hasClearFlash ∈ TT := tt_2 116 (by decide +kernel) (by decide +kernel)
set_option maxRecDepth 20000 in
theorem wv_X0_hasClearFlash : Cond.selects RX0 yX0_hasClearFlash yX0_hasClearFlash ∈ TT := tt_2 117 (by decide +kernel) (by decide +kernel)
set_option maxRecDepth 20000 in
theorem wc_X0_hasClearFlash : Cond.code yX0_hasClearFlash cX0_hasClearFlash 3 (some .boolean) ∈ TT := tt_2 118 (by decide +kernel) (by decide +kernel)
set_option maxRecDepth 20000 in
theorem wm_X0_102 : Cond.methodLink RX0 102 yX0_faultsOf ∈ TT := tt_2 119 (by decide +kernel) (by decide +kernel)
set_option maxRecDepth 20000 in
theorem wm_X0_135 : Cond.methodLink RX0 135 yX0_payOut ∈ TT := tt_2 120 (by decide +kernel) (by decide +kernel)
set_option maxRecDepth 20000 in
theorem wi_X0_payOut : Cond.instanceMethod yX0_payOut ∈ TT := tt_2 121 (by decide +kernel) (by decide +kernel)
set_option maxRecDepth 20000 in
theorem wv_X0_payOut : Cond.selects RX0 yX0_payOut yX0_payOut ∈ TT := tt_2 122 (by decide +kernel) (by decide +kernel)
set_option maxRecDepth 20000 in
theorem wc_X0_payOut : Cond.code yX0_payOut cX0_payOut 3 none ∈ TT := tt_2 123 (by decide +kernel) (by decide +kernel)
set_option maxRecDepth 20000 in
theorem wm_X4_125 : Cond.methodLink RX4 125 yX0_sumOf ∈ TT := tt_2 124 (by decide +kernel) (by decide +kernel)
set_option maxRecDepth 20000 in
theorem wi_X0_sumOf : Cond.instanceMethod yX0_sumOf ∈ TT := tt_2 125 (by decide +kernel) (by decide +kernel)
set_option maxRecDepth 20000 in
theorem wv_X0_sumOf : Cond.selects RX0 yX0_sumOf yX0_sumOf ∈ TT := tt_2 126 (by decide +kernel) (by decide +kernel)
set_option maxRecDepth 20000 in
theorem wc_X0_sumOf : Cond.code yX0_sumOf cX0_sumOf 4 (some .int) ∈ TT := tt_2 127 (by decide +kernel) (by decide +kernel)
set_option maxRecDepth 20000 in
theorem wm_X0_81 : Cond.methodLink RX0 81 yX0_partOf ∈ TT := tt_2 128 (by decide +kernel) (by decide +kernel)
set_option maxRecDepth 20000 in
theorem wi_X0_partOf : Cond.instanceMethod yX0_partOf ∈ TT := tt_2 129 (by decide +kernel) (by decide +kernel)
set_option maxRecDepth 20000 in
theorem wv_X0_partOf : Cond.selects RX0 yX0_partOf yX0_partOf ∈ TT := tt_2 130 (by decide +kernel) (by decide +kernel)
set_option maxRecDepth 20000 in
theorem wc_X0_partOf : Cond.code yX0_partOf cX0_partOf 4 (some .int) ∈ TT := tt_2 131 (by decide +kernel) (by decide +kernel)
set_option maxRecDepth 20000 in
theorem wm_X0_73 : Cond.methodLink RX0 73 yX2_part ∈ TT := tt_2 132 (by decide +kernel) (by decide +kernel)
set_option maxRecDepth 20000 in
theorem wm_L_56 : Cond.methodLink RL 56 yX4_now ∈ TT := tt_2 133 (by decide +kernel) (by decide +kernel)
set_option maxRecDepth 20000 in
theorem wi_X4_now : Cond.instanceMethod yX4_now ∈ TT := tt_2 134 (by decide +kernel) (by decide +kernel)
set_option maxRecDepth 20000 in
theorem wv_X4_now : Cond.selects RX4 yX4_now yX4_now ∈ TT := tt_2 135 (by decide +kernel) (by decide +kernel)
set_option maxRecDepth 20000 in
theorem wc_X4_now : Cond.code yX4_now cX4_now 2 (some .int) ∈ TT := tt_2 136 (by decide +kernel) (by decide +kernel)
set_option maxRecDepth 20000 in
theorem wm_X4_128 : Cond.methodLink RX4 128 yX0_nextPlace ∈ TT := tt_2 137 (by decide +kernel) (by decide +kernel)
set_option maxRecDepth 20000 in
theorem wm_X4_131 : Cond.methodLink RX4 131 yX0_sittersWithClearFlash ∈ TT := tt_2 138 (by decide +kernel) (by decide +kernel)
set_option maxRecDepth 20000 in
theorem wi_X0_sittersWithClearFlash : Cond.instanceMethod yX0_sittersWithClearFlash ∈ TT := tt_2 139 (by decide +kernel) (by decide +kernel)
set_option maxRecDepth 20000 in
theorem wv_X0_sittersWithClearFlash : Cond.selects RX0 yX0_sittersWithClearFlash yX0_sittersWithClearFlash ∈ TT := tt_2 140 (by decide +kernel) (by decide +kernel)
set_option maxRecDepth 20000 in
theorem wc_X0_sittersWithClearFlash : Cond.code yX0_sittersWithClearFlash cX0_sittersWithClearFlash 4 (some .int) ∈ TT := tt_2 141 (by decide +kernel) (by decide +kernel)
set_option maxRecDepth 20000 in
theorem wm_X4_134 : Cond.methodLink RX4 134 yX0_commonFaults ∈ TT := tt_2 142 (by decide +kernel) (by decide +kernel)
set_option maxRecDepth 20000 in
theorem wi_X0_commonFaults : Cond.instanceMethod yX0_commonFaults ∈ TT := tt_2 143 (by decide +kernel) (by decide +kernel)
set_option maxRecDepth 20000 in
theorem wv_X0_commonFaults : Cond.selects RX0 yX0_commonFaults yX0_commonFaults ∈ TT := tt_2 144 (by decide +kernel) (by decide +kernel)
set_option maxRecDepth 20000 in
theorem wc_X0_commonFaults : Cond.code yX0_commonFaults cX0_commonFaults 5 (some .int) ∈ TT := tt_2 145 (by decide +kernel) (by decide +kernel)
set_option maxRecDepth 20000 in
theorem wm_L_60 : Cond.methodLink RL 60 yX4_ahead ∈ TT := tt_2 146 (by decide +kernel) (by decide +kernel)
set_option maxRecDepth 20000 in
theorem wi_X4_ahead : Cond.instanceMethod yX4_ahead ∈ TT := tt_2 147 (by decide +kernel) (by decide +kernel)
set_option maxRecDepth 20000 in
theorem wv_X4_ahead : Cond.selects RX4 yX4_ahead yX4_ahead ∈ TT := tt_2 148 (by decide +kernel) (by decide +kernel)
set_option maxRecDepth 20000 in
theorem wc_X4_ahead : Cond.code yX4_ahead cX4_ahead 4 (some .int) ∈ TT := tt_2 149 (by decide +kernel) (by decide +kernel)
set_option maxRecDepth 20000 in
theorem wm_X4_137 : Cond.methodLink RX4 137 yX0_isSitter ∈ TT := tt_2 150 (by decide +kernel) (by decide +kernel)
set_option maxRecDepth 20000 in
theorem wm_X4_140 : Cond.methodLink RX4 140 yX0_become ∈ TT := tt_2 151 (by decide +kernel) (by decide +kernel)
set_option maxRecDepth 20000 in
theorem wi_X0_become : Cond.instanceMethod yX0_become ∈ TT := tt_2 152 (by decide +kernel) (by decide +kernel)
set_option maxRecDepth 20000 in
theorem wv_X0_become : Cond.selects RX0 yX0_become yX0_become ∈ TT := tt_2 153 (by decide +kernel) (by decide +kernel)
set_option maxRecDepth 20000 in
theorem wc_X0_become : Cond.code yX0_become cX0_become 3 none ∈ TT := tt_2 154 (by decide +kernel) (by decide +kernel)
set_option maxRecDepth 20000 in
theorem wm_X0_47 : Cond.methodLink RX0 47 yX2_become ∈ TT := tt_2 155 (by decide +kernel) (by decide +kernel)
set_option maxRecDepth 20000 in
theorem wi_X2_become : Cond.instanceMethod yX2_become ∈ TT := tt_2 156 (by decide +kernel) (by decide +kernel)
set_option maxRecDepth 20000 in
theorem wv_X2_become : Cond.selects RX2 yX2_become yX2_become ∈ TT := tt_2 157 (by decide +kernel) (by decide +kernel)
set_option maxRecDepth 20000 in
theorem wc_X2_become : Cond.code yX2_become cX2_become 2 none ∈ TT := tt_2 158 (by decide +kernel) (by decide +kernel)
set_option maxRecDepth 20000 in
theorem wm_X0_51 : Cond.methodLink RX0 51 (⟨"java/lang/System", "arraycopy", "(Ljava/lang/Object;ILjava/lang/Object;II)V"⟩ : MethodName) ∈ TT := tt_2 159 (by decide +kernel) (by decide +kernel)
set_option maxRecDepth 20000 in
theorem wt_arraycopy : Cond.static (⟨"java/lang/System", "arraycopy", "(Ljava/lang/Object;ILjava/lang/Object;II)V"⟩ : MethodName) ∈ TT := tt_2 160 (by decide +kernel) (by decide +kernel)
set_option maxRecDepth 20000 in
theorem wnative_arraycopy : Cond.native (⟨"java/lang/System", "arraycopy", "(Ljava/lang/Object;ILjava/lang/Object;II)V"⟩ : MethodName) ∈ TT := tt_2 161 (by decide +kernel) (by decide +kernel)
set_option maxRecDepth 20000 in
theorem wm_X4_144 : Cond.methodLink RX4 144 yX0_partOf ∈ TT := tt_2 162 (by decide +kernel) (by decide +kernel)
set_option maxRecDepth 20000 in
theorem wm_L_64 : Cond.methodLink RL 64 yX4_later ∈ TT := tt_2 163 (by decide +kernel) (by decide +kernel)
set_option maxRecDepth 20000 in
theorem wi_X4_later : Cond.instanceMethod yX4_later ∈ TT := tt_2 164 (by decide +kernel) (by decide +kernel)
set_option maxRecDepth 20000 in
theorem wv_X4_later : Cond.selects RX4 yX4_later yX4_later ∈ TT := tt_2 165 (by decide +kernel) (by decide +kernel)
set_option maxRecDepth 20000 in
theorem wc_X4_later : Cond.code yX4_later cX4_later 3 (some .int) ∈ TT := tt_2 166 (by decide +kernel) (by decide +kernel)
set_option maxRecDepth 20000 in
theorem wm_L_68 : Cond.methodLink RL 68 yX4_when ∈ TT := tt_2 167 (by decide +kernel) (by decide +kernel)
set_option maxRecDepth 20000 in
theorem wi_X4_when : Cond.instanceMethod yX4_when ∈ TT := tt_2 168 (by decide +kernel) (by decide +kernel)
set_option maxRecDepth 20000 in
theorem wv_X4_when : Cond.selects RX4 yX4_when yX4_when ∈ TT := tt_2 169 (by decide +kernel) (by decide +kernel)
set_option maxRecDepth 20000 in
theorem wc_X4_when : Cond.code yX4_when cX4_when 4 (some .int) ∈ TT := tt_2 170 (by decide +kernel) (by decide +kernel)
set_option maxRecDepth 20000 in
theorem wm_X4_148 : Cond.methodLink RX4 148 yX0_passMinute ∈ TT := tt_2 171 (by decide +kernel) (by decide +kernel)
set_option maxRecDepth 20000 in
theorem wk_X4_151 : Cond.constant RX4 151 (-1000004) ∈ TT := tt_2 172 (by decide +kernel) (by decide +kernel)
set_option maxRecDepth 20000 in
theorem wm_L_72 : Cond.methodLink RL 72 yX4_broke ∈ TT := tt_2 173 (by decide +kernel) (by decide +kernel)
set_option maxRecDepth 20000 in
theorem wi_X4_broke : Cond.instanceMethod yX4_broke ∈ TT := tt_2 174 (by decide +kernel) (by decide +kernel)
set_option maxRecDepth 20000 in
theorem wv_X4_broke : Cond.selects RX4 yX4_broke yX4_broke ∈ TT := tt_2 175 (by decide +kernel) (by decide +kernel)
set_option maxRecDepth 20000 in
theorem wc_X4_broke : Cond.code yX4_broke cX4_broke 3 (some .int) ∈ TT := tt_2 176 (by decide +kernel) (by decide +kernel)
set_option maxRecDepth 20000 in
theorem wm_L_76 : Cond.methodLink RL 76 yX4_all ∈ TT := tt_2 177 (by decide +kernel) (by decide +kernel)
set_option maxRecDepth 20000 in
theorem wi_X4_all : Cond.instanceMethod yX4_all ∈ TT := tt_2 178 (by decide +kernel) (by decide +kernel)
set_option maxRecDepth 20000 in
theorem wv_X4_all : Cond.selects RX4 yX4_all yX4_all ∈ TT := tt_2 179 (by decide +kernel) (by decide +kernel)
set_option maxRecDepth 20000 in
theorem wc_X4_all : Cond.code yX4_all cX4_all 2 (some .int) ∈ TT := tt_2 180 (by decide +kernel) (by decide +kernel)
set_option maxRecDepth 20000 in
theorem wm_X4_158 : Cond.methodLink RX4 158 yX0_isEachTaken ∈ TT := tt_2 181 (by decide +kernel) (by decide +kernel)
set_option maxRecDepth 20000 in
theorem wi_X0_isEachTaken : Cond.instanceMethod yX0_isEachTaken ∈ TT := tt_2 182 (by decide +kernel) (by decide +kernel)
set_option maxRecDepth 20000 in
theorem wv_X0_isEachTaken : Cond.selects RX0 yX0_isEachTaken yX0_isEachTaken ∈ TT := tt_2 183 (by decide +kernel) (by decide +kernel)
set_option maxRecDepth 20000 in
theorem wc_X0_isEachTaken : Cond.code yX0_isEachTaken cX0_isEachTaken 2 (some .boolean) ∈ TT := tt_2 184 (by decide +kernel) (by decide +kernel)
set_option maxRecDepth 20000 in
theorem wm_L_81 : Cond.methodLink RL 81 yX4_stoolFor ∈ TT := tt_2 185 (by decide +kernel) (by decide +kernel)
set_option maxRecDepth 20000 in
theorem wi_X4_stoolFor : Cond.instanceMethod yX4_stoolFor ∈ TT := tt_2 186 (by decide +kernel) (by decide +kernel)
set_option maxRecDepth 20000 in
theorem wv_X4_stoolFor : Cond.selects RX4 yX4_stoolFor yX4_stoolFor ∈ TT := tt_2 187 (by decide +kernel) (by decide +kernel)
set_option maxRecDepth 20000 in
theorem wc_X4_stoolFor : Cond.code yX4_stoolFor cX4_stoolFor 6 (some .int) ∈ TT := tt_2 188 (by decide +kernel) (by decide +kernel)
set_option maxRecDepth 20000 in
theorem wm_X4_162 : Cond.methodLink RX4 162 yX0_faultsTogether ∈ TT := tt_2 189 (by decide +kernel) (by decide +kernel)
set_option maxRecDepth 20000 in
theorem wi_X0_faultsTogether : Cond.instanceMethod yX0_faultsTogether ∈ TT := tt_2 190 (by decide +kernel) (by decide +kernel)
set_option maxRecDepth 20000 in
theorem wv_X0_faultsTogether : Cond.selects RX0 yX0_faultsTogether yX0_faultsTogether ∈ TT := tt_2 191 (by decide +kernel) (by decide +kernel)
set_option maxRecDepth 20000 in
theorem wc_X0_faultsTogether : Cond.code yX0_faultsTogether cX0_faultsTogether 5 (some .int) ∈ TT := tt_2 192 (by decide +kernel) (by decide +kernel)
set_option maxRecDepth 20000 in
theorem wm_X0_110 : Cond.methodLink RX0 110 yJ6_bitCount_0f7a4 ∈ TT := tt_2 193 (by decide +kernel) (by decide +kernel)
set_option maxRecDepth 20000 in
theorem wm_L_85 : Cond.methodLink RL 85 yX4_lightFor ∈ TT := tt_2 194 (by decide +kernel) (by decide +kernel)
set_option maxRecDepth 20000 in
theorem wi_X4_lightFor : Cond.instanceMethod yX4_lightFor ∈ TT := tt_2 195 (by decide +kernel) (by decide +kernel)
set_option maxRecDepth 20000 in
theorem wv_X4_lightFor : Cond.selects RX4 yX4_lightFor yX4_lightFor ∈ TT := tt_2 196 (by decide +kernel) (by decide +kernel)
set_option maxRecDepth 20000 in
theorem wc_X4_lightFor : Cond.code yX4_lightFor cX4_lightFor 5 (some .int) ∈ TT := tt_2 197 (by decide +kernel) (by decide +kernel)
set_option maxRecDepth 20000 in
theorem wm_L_89 : Cond.methodLink RL 89 yX4_turnFor ∈ TT := tt_2 198 (by decide +kernel) (by decide +kernel)
set_option maxRecDepth 20000 in
theorem wi_X4_turnFor : Cond.instanceMethod yX4_turnFor ∈ TT := tt_2 199 (by decide +kernel) (by decide +kernel)
set_option maxRecDepth 20000 in
theorem wv_X4_turnFor : Cond.selects RX4 yX4_turnFor yX4_turnFor ∈ TT := tt_2 200 (by decide +kernel) (by decide +kernel)
set_option maxRecDepth 20000 in
theorem wc_X4_turnFor : Cond.code yX4_turnFor cX4_turnFor 7 (some .int) ∈ TT := tt_2 201 (by decide +kernel) (by decide +kernel)
set_option maxRecDepth 20000 in
theorem wm_L_93 : Cond.methodLink RL 93 yX4_kindFor ∈ TT := tt_2 202 (by decide +kernel) (by decide +kernel)
set_option maxRecDepth 20000 in
theorem wi_X4_kindFor : Cond.instanceMethod yX4_kindFor ∈ TT := tt_2 203 (by decide +kernel) (by decide +kernel)
set_option maxRecDepth 20000 in
theorem wv_X4_kindFor : Cond.selects RX4 yX4_kindFor yX4_kindFor ∈ TT := tt_2 204 (by decide +kernel) (by decide +kernel)
set_option maxRecDepth 20000 in
theorem wc_X4_kindFor : Cond.code yX4_kindFor cX4_kindFor 7 (some .int) ∈ TT := tt_2 205 (by decide +kernel) (by decide +kernel)
set_option maxRecDepth 20000 in
theorem wm_L_97 : Cond.methodLink RL 97 yX4_merryFor ∈ TT := tt_2 206 (by decide +kernel) (by decide +kernel)
set_option maxRecDepth 20000 in
theorem wi_X4_merryFor : Cond.instanceMethod yX4_merryFor ∈ TT := tt_2 207 (by decide +kernel) (by decide +kernel)
set_option maxRecDepth 20000 in
theorem wv_X4_merryFor : Cond.selects RX4 yX4_merryFor yX4_merryFor ∈ TT := tt_2 208 (by decide +kernel) (by decide +kernel)
set_option maxRecDepth 20000 in
theorem wc_X4_merryFor : Cond.code yX4_merryFor cX4_merryFor 5 (some .int) ∈ TT := tt_2 209 (by decide +kernel) (by decide +kernel)
set_option maxRecDepth 20000 in
theorem wm_L_101 : Cond.methodLink RL 101 yX4_priceFor ∈ TT := tt_2 210 (by decide +kernel) (by decide +kernel)
set_option maxRecDepth 20000 in
theorem wi_X4_priceFor : Cond.instanceMethod yX4_priceFor ∈ TT := tt_2 211 (by decide +kernel) (by decide +kernel)
set_option maxRecDepth 20000 in
theorem wv_X4_priceFor : Cond.selects RX4 yX4_priceFor yX4_priceFor ∈ TT := tt_2 212 (by decide +kernel) (by decide +kernel)
set_option maxRecDepth 20000 in
theorem wc_X4_priceFor : Cond.code yX4_priceFor cX4_priceFor 5 (some .int) ∈ TT := tt_2 213 (by decide +kernel) (by decide +kernel)
set_option maxRecDepth 20000 in
theorem wm_L_105 : Cond.methodLink RL 105 yX4_away ∈ TT := tt_2 214 (by decide +kernel) (by decide +kernel)
set_option maxRecDepth 20000 in
theorem wi_X4_away : Cond.instanceMethod yX4_away ∈ TT := tt_2 215 (by decide +kernel) (by decide +kernel)
set_option maxRecDepth 20000 in
theorem wv_X4_away : Cond.selects RX4 yX4_away yX4_away ∈ TT := tt_2 216 (by decide +kernel) (by decide +kernel)
set_option maxRecDepth 20000 in
theorem wc_X4_away : Cond.code yX4_away cX4_away 9 (some .int) ∈ TT := tt_2 217 (by decide +kernel) (by decide +kernel)
set_option maxRecDepth 20000 in
theorem wm_X4_171 : Cond.methodLink RX4 171 yX0_sitterSet ∈ TT := tt_2 218 (by decide +kernel) (by decide +kernel)
set_option maxRecDepth 20000 in
theorem wi_X0_sitterSet : Cond.instanceMethod yX0_sitterSet ∈ TT := tt_2 219 (by decide +kernel) (by decide +kernel)
set_option maxRecDepth 20000 in
theorem wv_X0_sitterSet : Cond.selects RX0 yX0_sitterSet yX0_sitterSet ∈ TT := tt_2 220 (by decide +kernel) (by decide +kernel)
set_option maxRecDepth 20000 in
theorem wc_X0_sitterSet : Cond.code yX0_sitterSet cX0_sitterSet 1 (some .int) ∈ TT := tt_2 221 (by decide +kernel) (by decide +kernel)
set_option maxRecDepth 20000 in
theorem wm_X4_174 : Cond.methodLink RX4 174 yX0_emptyPlacesOf ∈ TT := tt_2 222 (by decide +kernel) (by decide +kernel)
set_option maxRecDepth 20000 in
theorem wi_X0_emptyPlacesOf : Cond.instanceMethod yX0_emptyPlacesOf ∈ TT := tt_2 223 (by decide +kernel) (by decide +kernel)
set_option maxRecDepth 20000 in
theorem wv_X0_emptyPlacesOf : Cond.selects RX0 yX0_emptyPlacesOf yX0_emptyPlacesOf ∈ TT := tt_2 224 (by decide +kernel) (by decide +kernel)
set_option maxRecDepth 20000 in
theorem wc_X0_emptyPlacesOf : Cond.code yX0_emptyPlacesOf cX0_emptyPlacesOf 3 none ∈ TT := tt_2 225 (by decide +kernel) (by decide +kernel)
set_option maxRecDepth 20000 in
theorem wm_L_109 : Cond.methodLink RL 109 yX4_fits ∈ TT := tt_2 226 (by decide +kernel) (by decide +kernel)
set_option maxRecDepth 20000 in
theorem wi_X4_fits : Cond.instanceMethod yX4_fits ∈ TT := tt_2 227 (by decide +kernel) (by decide +kernel)
set_option maxRecDepth 20000 in
theorem wv_X4_fits : Cond.selects RX4 yX4_fits yX4_fits ∈ TT := tt_2 228 (by decide +kernel) (by decide +kernel)
set_option maxRecDepth 20000 in
theorem wc_X4_fits : Cond.code yX4_fits cX4_fits 6 (some .int) ∈ TT := tt_2 229 (by decide +kernel) (by decide +kernel)
set_option maxRecDepth 20000 in
theorem wm_X4_177 : Cond.methodLink RX4 177 yX4_sheetAt ∈ TT := tt_2 230 (by decide +kernel) (by decide +kernel)
set_option maxRecDepth 20000 in
theorem wi_X4_sheetAt : Cond.instanceMethod yX4_sheetAt ∈ TT := tt_2 232 (by decide +kernel) (by decide +kernel)
set_option maxRecDepth 20000 in
theorem wc_X4_sheetAt : Cond.code yX4_sheetAt cX4_sheetAt 2 (some (.object "BoothFlash$Sheet")) ∈ TT := tt_2 233 (by decide +kernel) (by decide +kernel)
set_option maxRecDepth 20000 in
theorem wm_X4_181 : Cond.methodLink RX4 181 yX1_isMissing ∈ TT := tt_2 234 (by decide +kernel) (by decide +kernel)
set_option maxRecDepth 20000 in
theorem wi_X1_isMissing : Cond.instanceMethod yX1_isMissing ∈ TT := tt_2 235 (by decide +kernel) (by decide +kernel)
set_option maxRecDepth 20000 in
theorem wv_X1_isMissing : Cond.selects RX1 yX1_isMissing yX1_isMissing ∈ TT := tt_2 236 (by decide +kernel) (by decide +kernel)
set_option maxRecDepth 20000 in
theorem wc_X1_isMissing : Cond.code yX1_isMissing cX1_isMissing 1 (some .boolean) ∈ TT := tt_2 237 (by decide +kernel) (by decide +kernel)
set_option maxRecDepth 20000 in
theorem wm_X4_184 : Cond.methodLink RX4 184 yX4_refusalFor ∈ TT := tt_2 238 (by decide +kernel) (by decide +kernel)
set_option maxRecDepth 20000 in
theorem wt_X4_refusalFor : Cond.static yX4_refusalFor ∈ TT := tt_2 239 (by decide +kernel) (by decide +kernel)
set_option maxRecDepth 20000 in
theorem wc_X4_refusalFor : Cond.code yX4_refusalFor cX4_refusalFor 1 (some .int) ∈ TT := tt_3 0 (by decide +kernel) (by decide +kernel)
set_option maxRecDepth 20000 in
theorem wk_X4_224 : Cond.constant RX4 224 (-1000006) ∈ TT := tt_3 1 (by decide +kernel) (by decide +kernel)
set_option maxRecDepth 20000 in
theorem wm_X4_188 : Cond.methodLink RX4 188 yX4_isTallAsTold ∈ TT := tt_3 2 (by decide +kernel) (by decide +kernel)
set_option maxRecDepth 20000 in
theorem wi_X4_isTallAsTold : Cond.instanceMethod yX4_isTallAsTold ∈ TT := tt_3 4 (by decide +kernel) (by decide +kernel)
set_option maxRecDepth 20000 in
theorem wc_X4_isTallAsTold : Cond.code yX4_isTallAsTold cX4_isTallAsTold 6 (some .boolean) ∈ TT := tt_3 5 (by decide +kernel) (by decide +kernel)
set_option maxRecDepth 20000 in
theorem wm_X4_270 : Cond.methodLink RX4 270 yX1_allows ∈ TT := tt_3 6 (by decide +kernel) (by decide +kernel)
set_option maxRecDepth 20000 in
theorem wi_X1_allows : Cond.instanceMethod yX1_allows ∈ TT := tt_3 7 (by decide +kernel) (by decide +kernel)
set_option maxRecDepth 20000 in
theorem wv_X1_allows : Cond.selects RX1 yX1_allows yX1_allows ∈ TT := tt_3 8 (by decide +kernel) (by decide +kernel)
set_option maxRecDepth 20000 in
theorem wc_X1_allows : Cond.code yX1_allows cX1_allows 4 (some .boolean) ∈ TT := tt_3 9 (by decide +kernel) (by decide +kernel)
set_option maxRecDepth 20000 in
theorem wm_X1_24 : Cond.methodLink RX1 24 yX1_number ∈ TT := tt_3 10 (by decide +kernel) (by decide +kernel)
set_option maxRecDepth 20000 in
theorem wi_X1_number : Cond.instanceMethod yX1_number ∈ TT := tt_3 11 (by decide +kernel) (by decide +kernel)
set_option maxRecDepth 20000 in
theorem wv_X1_number : Cond.selects RX1 yX1_number yX1_number ∈ TT := tt_3 12 (by decide +kernel) (by decide +kernel)
set_option maxRecDepth 20000 in
theorem wc_X1_number : Cond.code yX1_number cX1_number 2 (some .int) ∈ TT := tt_3 13 (by decide +kernel) (by decide +kernel)
set_option maxRecDepth 20000 in
theorem wm_X1_20 : Cond.methodLink RX1 20 yX1_hasNumber ∈ TT := tt_3 14 (by decide +kernel) (by decide +kernel)
set_option maxRecDepth 20000 in
theorem wi_X1_hasNumber : Cond.instanceMethod yX1_hasNumber ∈ TT := tt_3 15 (by decide +kernel) (by decide +kernel)
set_option maxRecDepth 20000 in
theorem wv_X1_hasNumber : Cond.selects RX1 yX1_hasNumber yX1_hasNumber ∈ TT := tt_3 16 (by decide +kernel) (by decide +kernel)
set_option maxRecDepth 20000 in
theorem wc_X1_hasNumber : Cond.code yX1_hasNumber cX1_hasNumber 2 (some .boolean) ∈ TT := tt_3 17 (by decide +kernel) (by decide +kernel)
set_option maxRecDepth 20000 in
theorem wm_L_113 : Cond.methodLink RL 113 yX4_tall ∈ TT := tt_3 18 (by decide +kernel) (by decide +kernel)
set_option maxRecDepth 20000 in
theorem wi_X4_tall : Cond.instanceMethod yX4_tall ∈ TT := tt_3 19 (by decide +kernel) (by decide +kernel)
set_option maxRecDepth 20000 in
theorem wv_X4_tall : Cond.selects RX4 yX4_tall yX4_tall ∈ TT := tt_3 20 (by decide +kernel) (by decide +kernel)
set_option maxRecDepth 20000 in
theorem wc_X4_tall : Cond.code yX4_tall cX4_tall 5 (some .int) ∈ TT := tt_3 21 (by decide +kernel) (by decide +kernel)
set_option maxRecDepth 20000 in
theorem wm_L_117 : Cond.methodLink RL 117 yX4_kinds ∈ TT := tt_3 22 (by decide +kernel) (by decide +kernel)
set_option maxRecDepth 20000 in
theorem wi_X4_kinds : Cond.instanceMethod yX4_kinds ∈ TT := tt_3 23 (by decide +kernel) (by decide +kernel)
set_option maxRecDepth 20000 in
theorem wv_X4_kinds : Cond.selects RX4 yX4_kinds yX4_kinds ∈ TT := tt_3 24 (by decide +kernel) (by decide +kernel)
set_option maxRecDepth 20000 in
theorem wc_X4_kinds : Cond.code yX4_kinds cX4_kinds 6 (some .int) ∈ TT := tt_3 25 (by decide +kernel) (by decide +kernel)
set_option maxRecDepth 20000 in
theorem wm_X4_192 : Cond.methodLink RX4 192 yX4_isKindAsTold ∈ TT := tt_3 26 (by decide +kernel) (by decide +kernel)
set_option maxRecDepth 20000 in
theorem wi_X4_isKindAsTold : Cond.instanceMethod yX4_isKindAsTold ∈ TT := tt_3 28 (by decide +kernel) (by decide +kernel)
set_option maxRecDepth 20000 in
theorem wc_X4_isKindAsTold : Cond.code yX4_isKindAsTold cX4_isKindAsTold 5 (some .boolean) ∈ TT := tt_3 29 (by decide +kernel) (by decide +kernel)
set_option maxRecDepth 20000 in
theorem wm_L_121 : Cond.methodLink RL 121 yX4_lamps ∈ TT := tt_3 30 (by decide +kernel) (by decide +kernel)
set_option maxRecDepth 20000 in
theorem wi_X4_lamps : Cond.instanceMethod yX4_lamps ∈ TT := tt_3 31 (by decide +kernel) (by decide +kernel)
set_option maxRecDepth 20000 in
theorem wv_X4_lamps : Cond.selects RX4 yX4_lamps yX4_lamps ∈ TT := tt_3 32 (by decide +kernel) (by decide +kernel)
set_option maxRecDepth 20000 in
theorem wc_X4_lamps : Cond.code yX4_lamps cX4_lamps 4 (some .int) ∈ TT := tt_3 33 (by decide +kernel) (by decide +kernel)
set_option maxRecDepth 20000 in
theorem wm_X4_195 : Cond.methodLink RX4 195 yX0_draw ∈ TT := tt_3 34 (by decide +kernel) (by decide +kernel)
set_option maxRecDepth 20000 in
theorem wi_X0_draw : Cond.instanceMethod yX0_draw ∈ TT := tt_3 35 (by decide +kernel) (by decide +kernel)
set_option maxRecDepth 20000 in
theorem wv_X0_draw : Cond.selects RX0 yX0_draw yX0_draw ∈ TT := tt_3 36 (by decide +kernel) (by decide +kernel)
set_option maxRecDepth 20000 in
theorem wc_X0_draw : Cond.code yX0_draw cX0_draw 1 (some .int) ∈ TT := tt_3 37 (by decide +kernel) (by decide +kernel)
set_option maxRecDepth 20000 in
theorem wk_X0_163 : Cond.constant RX0 163 (1103515245) ∈ TT := tt_3 38 (by decide +kernel) (by decide +kernel)
set_option maxRecDepth 20000 in
theorem wm_L_125 : Cond.methodLink RL 125 yX4_odds ∈ TT := tt_3 39 (by decide +kernel) (by decide +kernel)
set_option maxRecDepth 20000 in
theorem wi_X4_odds : Cond.instanceMethod yX4_odds ∈ TT := tt_3 40 (by decide +kernel) (by decide +kernel)
set_option maxRecDepth 20000 in
theorem wv_X4_odds : Cond.selects RX4 yX4_odds yX4_odds ∈ TT := tt_3 41 (by decide +kernel) (by decide +kernel)
set_option maxRecDepth 20000 in
theorem wc_X4_odds : Cond.code yX4_odds cX4_odds 8 (some .long) ∈ TT := tt_3 42 (by decide +kernel) (by decide +kernel)
set_option maxRecDepth 20000 in
theorem wm_X4_198 : Cond.methodLink RX4 198 yX4_lightsWithoutFaults ∈ TT := tt_3 43 (by decide +kernel) (by decide +kernel)
set_option maxRecDepth 20000 in
theorem wi_X4_lightsWithoutFaults : Cond.instanceMethod yX4_lightsWithoutFaults ∈ TT := tt_3 45 (by decide +kernel) (by decide +kernel)
set_option maxRecDepth 20000 in
theorem wc_X4_lightsWithoutFaults : Cond.code yX4_lightsWithoutFaults cX4_lightsWithoutFaults 6 (some .int) ∈ TT := tt_3 46 (by decide +kernel) (by decide +kernel)
set_option maxRecDepth 20000 in
theorem wm_X4_201 : Cond.methodLink RX4 201 yX4_power ∈ TT := tt_3 47 (by decide +kernel) (by decide +kernel)
set_option maxRecDepth 20000 in
theorem wt_X4_power : Cond.static yX4_power ∈ TT := tt_3 48 (by decide +kernel) (by decide +kernel)
set_option maxRecDepth 20000 in
theorem wc_X4_power : Cond.code yX4_power cX4_power 5 (some .long) ∈ TT := tt_3 49 (by decide +kernel) (by decide +kernel)
set_option maxRecDepth 20000 in
theorem wm_L_130 : Cond.methodLink RL 130 yX4_seed ∈ TT := tt_3 50 (by decide +kernel) (by decide +kernel)
set_option maxRecDepth 20000 in
theorem wi_X4_seed : Cond.instanceMethod yX4_seed ∈ TT := tt_3 51 (by decide +kernel) (by decide +kernel)
set_option maxRecDepth 20000 in
theorem wv_X4_seed : Cond.selects RX4 yX4_seed yX4_seed ∈ TT := tt_3 52 (by decide +kernel) (by decide +kernel)
set_option maxRecDepth 20000 in
theorem wc_X4_seed : Cond.code yX4_seed cX4_seed 3 (some .int) ∈ TT := tt_3 53 (by decide +kernel) (by decide +kernel)
set_option maxRecDepth 20000 in
theorem wm_L_134 : Cond.methodLink RL 134 yX4_feed ∈ TT := tt_3 54 (by decide +kernel) (by decide +kernel)
set_option maxRecDepth 20000 in
theorem wi_X4_feed : Cond.instanceMethod yX4_feed ∈ TT := tt_3 55 (by decide +kernel) (by decide +kernel)
set_option maxRecDepth 20000 in
theorem wv_X4_feed : Cond.selects RX4 yX4_feed yX4_feed ∈ TT := tt_3 56 (by decide +kernel) (by decide +kernel)
set_option maxRecDepth 20000 in
theorem wc_X4_feed : Cond.code yX4_feed cX4_feed 4 (some .int) ∈ TT := tt_3 57 (by decide +kernel) (by decide +kernel)
set_option maxRecDepth 20000 in
theorem wm_X4_208 : Cond.methodLink RX4 208 yX3_hasRoomFor ∈ TT := tt_3 58 (by decide +kernel) (by decide +kernel)
set_option maxRecDepth 20000 in
theorem wi_X3_hasRoomFor : Cond.instanceMethod yX3_hasRoomFor ∈ TT := tt_3 59 (by decide +kernel) (by decide +kernel)
set_option maxRecDepth 20000 in
theorem wv_X3_hasRoomFor : Cond.selects RX3 yX3_hasRoomFor yX3_hasRoomFor ∈ TT := tt_3 60 (by decide +kernel) (by decide +kernel)
set_option maxRecDepth 20000 in
theorem wc_X3_hasRoomFor : Cond.code yX3_hasRoomFor cX3_hasRoomFor 2 (some .boolean) ∈ TT := tt_3 61 (by decide +kernel) (by decide +kernel)
set_option maxRecDepth 20000 in
theorem wm_X4_211 : Cond.methodLink RX4 211 yX3_append ∈ TT := tt_3 62 (by decide +kernel) (by decide +kernel)
set_option maxRecDepth 20000 in
theorem wi_X3_append : Cond.instanceMethod yX3_append ∈ TT := tt_3 63 (by decide +kernel) (by decide +kernel)
set_option maxRecDepth 20000 in
theorem wv_X3_append : Cond.selects RX3 yX3_append yX3_append ∈ TT := tt_3 64 (by decide +kernel) (by decide +kernel)
set_option maxRecDepth 20000 in
theorem wc_X3_append : Cond.code yX3_append cX3_append 2 none ∈ TT := tt_3 65 (by decide +kernel) (by decide +kernel)
set_option maxRecDepth 20000 in
theorem wm_L_138 : Cond.methodLink RL 138 yX4_wipe ∈ TT := tt_3 66 (by decide +kernel) (by decide +kernel)
set_option maxRecDepth 20000 in
theorem wi_X4_wipe : Cond.instanceMethod yX4_wipe ∈ TT := tt_3 67 (by decide +kernel) (by decide +kernel)
set_option maxRecDepth 20000 in
theorem wv_X4_wipe : Cond.selects RX4 yX4_wipe yX4_wipe ∈ TT := tt_3 68 (by decide +kernel) (by decide +kernel)
set_option maxRecDepth 20000 in
theorem wc_X4_wipe : Cond.code yX4_wipe cX4_wipe 2 (some .int) ∈ TT := tt_3 69 (by decide +kernel) (by decide +kernel)
set_option maxRecDepth 20000 in
theorem wm_L_142 : Cond.methodLink RL 142 yX4_text ∈ TT := tt_3 70 (by decide +kernel) (by decide +kernel)
set_option maxRecDepth 20000 in
theorem wi_X4_text : Cond.instanceMethod yX4_text ∈ TT := tt_3 71 (by decide +kernel) (by decide +kernel)
set_option maxRecDepth 20000 in
theorem wv_X4_text : Cond.selects RX4 yX4_text yX4_text ∈ TT := tt_3 72 (by decide +kernel) (by decide +kernel)
set_option maxRecDepth 20000 in
theorem wc_X4_text : Cond.code yX4_text cX4_text 2 (some .int) ∈ TT := tt_3 73 (by decide +kernel) (by decide +kernel)
set_option maxRecDepth 20000 in
theorem wm_X4_217 : Cond.methodLink RX4 217 yX3_readInto ∈ TT := tt_3 74 (by decide +kernel) (by decide +kernel)
set_option maxRecDepth 20000 in
theorem wi_X3_readInto : Cond.instanceMethod yX3_readInto ∈ TT := tt_3 75 (by decide +kernel) (by decide +kernel)
set_option maxRecDepth 20000 in
theorem wv_X3_readInto : Cond.selects RX3 yX3_readInto yX3_readInto ∈ TT := tt_3 76 (by decide +kernel) (by decide +kernel)
set_option maxRecDepth 20000 in
theorem wc_X3_readInto : Cond.code yX3_readInto cX3_readInto 3 (some .int) ∈ TT := tt_3 77 (by decide +kernel) (by decide +kernel)
set_option maxRecDepth 20000 in
theorem wm_X3_31 : Cond.methodLink RX3 31 yX3_nextToken ∈ TT := tt_3 78 (by decide +kernel) (by decide +kernel)
set_option maxRecDepth 20000 in
theorem wi_X3_nextToken : Cond.instanceMethod yX3_nextToken ∈ TT := tt_3 79 (by decide +kernel) (by decide +kernel)
set_option maxRecDepth 20000 in
theorem wv_X3_nextToken : Cond.selects RX3 yX3_nextToken yX3_nextToken ∈ TT := tt_3 80 (by decide +kernel) (by decide +kernel)
set_option maxRecDepth 20000 in
theorem wc_X3_nextToken : Cond.code yX3_nextToken cX3_nextToken 2 none ∈ TT := tt_3 81 (by decide +kernel) (by decide +kernel)
set_option maxRecDepth 20000 in
theorem wm_X3_94 : Cond.methodLink RX3 94 yX3_byteAt ∈ TT := tt_3 82 (by decide +kernel) (by decide +kernel)
set_option maxRecDepth 20000 in
theorem wi_X3_byteAt : Cond.instanceMethod yX3_byteAt ∈ TT := tt_3 83 (by decide +kernel) (by decide +kernel)
set_option maxRecDepth 20000 in
theorem wv_X3_byteAt : Cond.selects RX3 yX3_byteAt yX3_byteAt ∈ TT := tt_3 84 (by decide +kernel) (by decide +kernel)
set_option maxRecDepth 20000 in
theorem wc_X3_byteAt : Cond.code yX3_byteAt cX3_byteAt 2 (some .int) ∈ TT := tt_3 85 (by decide +kernel) (by decide +kernel)
set_option maxRecDepth 20000 in
theorem wm_X3_97 : Cond.methodLink RX3 97 yX3_isLetter ∈ TT := tt_3 86 (by decide +kernel) (by decide +kernel)
set_option maxRecDepth 20000 in
theorem wt_X3_isLetter : Cond.static yX3_isLetter ∈ TT := tt_3 87 (by decide +kernel) (by decide +kernel)
set_option maxRecDepth 20000 in
theorem wc_X3_isLetter : Cond.code yX3_isLetter cX3_isLetter 1 (some .boolean) ∈ TT := tt_3 88 (by decide +kernel) (by decide +kernel)
set_option maxRecDepth 20000 in
theorem wm_X3_100 : Cond.methodLink RX3 100 yX3_isDigit ∈ TT := tt_3 89 (by decide +kernel) (by decide +kernel)
set_option maxRecDepth 20000 in
theorem wt_X3_isDigit : Cond.static yX3_isDigit ∈ TT := tt_3 90 (by decide +kernel) (by decide +kernel)
set_option maxRecDepth 20000 in
theorem wc_X3_isDigit : Cond.code yX3_isDigit cX3_isDigit 1 (some .boolean) ∈ TT := tt_3 91 (by decide +kernel) (by decide +kernel)
set_option maxRecDepth 20000 in
theorem wm_X3_103 : Cond.methodLink RX3 103 yX3_readDigits ∈ TT := tt_3 92 (by decide +kernel) (by decide +kernel)
set_option maxRecDepth 20000 in
theorem wi_X3_readDigits : Cond.instanceMethod yX3_readDigits ∈ TT := tt_3 93 (by decide +kernel) (by decide +kernel)
set_option maxRecDepth 20000 in
theorem wv_X3_readDigits : Cond.selects RX3 yX3_readDigits yX3_readDigits ∈ TT := tt_3 94 (by decide +kernel) (by decide +kernel)
set_option maxRecDepth 20000 in
theorem wc_X3_readDigits : Cond.code yX3_readDigits cX3_readDigits 1 none ∈ TT := tt_3 95 (by decide +kernel) (by decide +kernel)
set_option maxRecDepth 20000 in
theorem wm_X3_106 : Cond.methodLink RX3 106 yJ9_min_7cf53 ∈ TT := tt_3 96 (by decide +kernel) (by decide +kernel)
set_option maxRecDepth 20000 in
theorem wm_X3_34 : Cond.methodLink RX3 34 yX3_readItem ∈ TT := tt_3 97 (by decide +kernel) (by decide +kernel)
set_option maxRecDepth 20000 in
theorem wi_X3_readItem : Cond.instanceMethod yX3_readItem ∈ TT := tt_3 98 (by decide +kernel) (by decide +kernel)
set_option maxRecDepth 20000 in
theorem wv_X3_readItem : Cond.selects RX3 yX3_readItem yX3_readItem ∈ TT := tt_3 99 (by decide +kernel) (by decide +kernel)
set_option maxRecDepth 20000 in
theorem wc_X3_readItem : Cond.code yX3_readItem cX3_readItem 3 (some .boolean) ∈ TT := tt_3 100 (by decide +kernel) (by decide +kernel)
set_option maxRecDepth 20000 in
theorem wm_X3_38 : Cond.methodLink RX3 38 yX3_wordOfKind ∈ TT := tt_3 101 (by decide +kernel) (by decide +kernel)
set_option maxRecDepth 20000 in
theorem wt_X3_wordOfKind : Cond.static yX3_wordOfKind ∈ TT := tt_3 102 (by decide +kernel) (by decide +kernel)
set_option maxRecDepth 20000 in
theorem wc_X3_wordOfKind : Cond.code yX3_wordOfKind cX3_wordOfKind 1 (some (.object "java/lang/String")) ∈ TT := tt_3 103 (by decide +kernel) (by decide +kernel)
set_option maxRecDepth 20000 in
theorem wm_X3_42 : Cond.methodLink RX3 42 yX3_isWord ∈ TT := tt_3 111 (by decide +kernel) (by decide +kernel)
set_option maxRecDepth 20000 in
theorem wi_X3_isWord : Cond.instanceMethod yX3_isWord ∈ TT := tt_3 112 (by decide +kernel) (by decide +kernel)
set_option maxRecDepth 20000 in
theorem wv_X3_isWord : Cond.selects RX3 yX3_isWord yX3_isWord ∈ TT := tt_3 113 (by decide +kernel) (by decide +kernel)
set_option maxRecDepth 20000 in
theorem wc_X3_isWord : Cond.code yX3_isWord cX3_isWord 3 (some .boolean) ∈ TT := tt_3 114 (by decide +kernel) (by decide +kernel)
set_option maxRecDepth 20000 in
theorem wm_X3_112 : Cond.methodLink RX3 112 yJ0_length_8abf5 ∈ TT := tt_3 115 (by decide +kernel) (by decide +kernel)
set_option maxRecDepth 20000 in
theorem wi_J0_length_8abf5 : Cond.instanceMethod yJ0_length_8abf5 ∈ TT := tt_3 116 (by decide +kernel) (by decide +kernel)
set_option maxRecDepth 20000 in
theorem wv_J0_length_8abf5 : Cond.selects RJ0 yJ0_length_8abf5 yJ0_length_8abf5 ∈ TT := tt_3 117 (by decide +kernel) (by decide +kernel)
set_option maxRecDepth 20000 in
theorem wc_J0_length_8abf5 : Cond.code yJ0_length_8abf5 cJ0_length_8abf5 1 (some .int) ∈ TT := tt_3 118 (by decide +kernel) (by decide +kernel)
set_option maxRecDepth 20000 in
theorem wm_J0_335 : Cond.methodLink RJ0 335 yJ0_coder_7d493 ∈ TT := tt_3 119 (by decide +kernel) (by decide +kernel)
set_option maxRecDepth 20000 in
theorem wi_J0_coder_7d493 : Cond.instanceMethod yJ0_coder_7d493 ∈ TT := tt_3 120 (by decide +kernel) (by decide +kernel)
set_option maxRecDepth 20000 in
theorem wv_J0_coder_7d493 : Cond.selects RJ0 yJ0_coder_7d493 yJ0_coder_7d493 ∈ TT := tt_3 121 (by decide +kernel) (by decide +kernel)
set_option maxRecDepth 20000 in
theorem wc_J0_coder_7d493 : Cond.code yJ0_coder_7d493 cJ0_coder_7d493 1 (some .byte) ∈ TT := tt_3 122 (by decide +kernel) (by decide +kernel)
set_option maxRecDepth 20000 in
theorem wf_J0_38 : Cond.fieldLink RJ0 38 "java/lang/String" "COMPACT_STRINGS" "Z" ∈ TT := tt_3 123 (by decide +kernel) (by decide +kernel)
set_option maxRecDepth 20000 in
theorem wm_X3_118 : Cond.methodLink RX3 118 yJ0_charAt_5068e ∈ TT := tt_3 125 (by decide +kernel) (by decide +kernel)
set_option maxRecDepth 20000 in
theorem wi_J0_charAt_5068e : Cond.instanceMethod yJ0_charAt_5068e ∈ TT := tt_3 126 (by decide +kernel) (by decide +kernel)
set_option maxRecDepth 20000 in
theorem wv_J0_charAt_5068e : Cond.selects RJ0 yJ0_charAt_5068e yJ0_charAt_5068e ∈ TT := tt_3 127 (by decide +kernel) (by decide +kernel)
set_option maxRecDepth 20000 in
theorem wc_J0_charAt_5068e : Cond.code yJ0_charAt_5068e cJ0_charAt_5068e 2 (some .char) ∈ TT := tt_3 128 (by decide +kernel) (by decide +kernel)
set_option maxRecDepth 20000 in
theorem wm_J0_492 : Cond.methodLink RJ0 492 yJ0_isLatin1_aae02 ∈ TT := tt_3 129 (by decide +kernel) (by decide +kernel)
set_option maxRecDepth 20000 in
theorem wi_J0_isLatin1_aae02 : Cond.instanceMethod yJ0_isLatin1_aae02 ∈ TT := tt_3 130 (by decide +kernel) (by decide +kernel)
set_option maxRecDepth 20000 in
theorem wv_J0_isLatin1_aae02 : Cond.selects RJ0 yJ0_isLatin1_aae02 yJ0_isLatin1_aae02 ∈ TT := tt_3 131 (by decide +kernel) (by decide +kernel)
set_option maxRecDepth 20000 in
theorem wc_J0_isLatin1_aae02 : Cond.code yJ0_isLatin1_aae02 cJ0_isLatin1_aae02 1 (some .boolean) ∈ TT := tt_3 132 (by decide +kernel) (by decide +kernel)
set_option maxRecDepth 20000 in
theorem wm_J0_495 : Cond.methodLink RJ0 495 yJ1_charAt_3b067 ∈ TT := tt_3 133 (by decide +kernel) (by decide +kernel)
set_option maxRecDepth 20000 in
theorem wt_J1_charAt_3b067 : Cond.static yJ1_charAt_3b067 ∈ TT := tt_3 134 (by decide +kernel) (by decide +kernel)
set_option maxRecDepth 20000 in
theorem wc_J1_charAt_3b067 : Cond.code yJ1_charAt_3b067 cJ1_charAt_3b067 2 (some .char) ∈ TT := tt_3 135 (by decide +kernel) (by decide +kernel)
set_option maxRecDepth 20000 in
theorem wm_J1_9 : Cond.methodLink RJ1 9 yJ0_checkIndex_df160 ∈ TT := tt_3 136 (by decide +kernel) (by decide +kernel)
set_option maxRecDepth 20000 in
theorem wt_J0_checkIndex_df160 : Cond.static yJ0_checkIndex_df160 ∈ TT := tt_3 137 (by decide +kernel) (by decide +kernel)
set_option maxRecDepth 20000 in
theorem wc_J0_checkIndex_df160 : Cond.code yJ0_checkIndex_df160 cJ0_checkIndex_df160 2 none ∈ TT := tt_3 138 (by decide +kernel) (by decide +kernel)
set_option maxRecDepth 20000 in
theorem wf_J0_1053 : Cond.fieldLink RJ0 1053 "jdk/internal/util/Preconditions" "SIOOBE_FORMATTER" "Ljava/util/function/BiFunction;" ∈ TT := tt_3 139 (by decide +kernel) (by decide +kernel)
set_option maxRecDepth 20000 in
theorem wm_J0_1059 : Cond.methodLink RJ0 1059 yJ3_checkIndex_8e157 ∈ TT := tt_3 141 (by decide +kernel) (by decide +kernel)
set_option maxRecDepth 20000 in
theorem wt_J3_checkIndex_8e157 : Cond.static yJ3_checkIndex_8e157 ∈ TT := tt_3 142 (by decide +kernel) (by decide +kernel)
set_option maxRecDepth 20000 in
theorem wc_J3_checkIndex_8e157 : Cond.code yJ3_checkIndex_8e157 cJ3_checkIndex_8e157 3 (some .int) ∈ TT := tt_3 143 (by decide +kernel) (by decide +kernel)
set_option maxRecDepth 20000 in
theorem wm_J0_498 : Cond.methodLink RJ0 498 yJ2_charAt_3b067 ∈ TT := tt_3 144 (by decide +kernel) (by decide +kernel)
set_option maxRecDepth 20000 in
theorem wt_J2_charAt_3b067 : Cond.static yJ2_charAt_3b067 ∈ TT := tt_3 145 (by decide +kernel) (by decide +kernel)
set_option maxRecDepth 20000 in
theorem wc_J2_charAt_3b067 : Cond.code yJ2_charAt_3b067 cJ2_charAt_3b067 2 (some .char) ∈ TT := tt_3 146 (by decide +kernel) (by decide +kernel)
set_option maxRecDepth 20000 in
theorem wm_J2_67 : Cond.methodLink RJ2 67 yJ2_checkIndex_2214a ∈ TT := tt_3 147 (by decide +kernel) (by decide +kernel)
set_option maxRecDepth 20000 in
theorem wt_J2_checkIndex_2214a : Cond.static yJ2_checkIndex_2214a ∈ TT := tt_3 148 (by decide +kernel) (by decide +kernel)
set_option maxRecDepth 20000 in
theorem wc_J2_checkIndex_2214a : Cond.code yJ2_checkIndex_2214a cJ2_checkIndex_2214a 2 none ∈ TT := tt_3 149 (by decide +kernel) (by decide +kernel)
set_option maxRecDepth 20000 in
theorem wm_J2_48 : Cond.methodLink RJ2 48 yJ2_length_9d52b ∈ TT := tt_3 150 (by decide +kernel) (by decide +kernel)
set_option maxRecDepth 20000 in
theorem wt_J2_length_9d52b : Cond.static yJ2_length_9d52b ∈ TT := tt_3 151 (by decide +kernel) (by decide +kernel)
set_option maxRecDepth 20000 in
theorem wc_J2_length_9d52b : Cond.code yJ2_length_9d52b cJ2_length_9d52b 1 (some .int) ∈ TT := tt_3 152 (by decide +kernel) (by decide +kernel)
set_option maxRecDepth 20000 in
theorem wm_J2_414 : Cond.methodLink RJ2 414 yJ0_checkIndex_df160 ∈ TT := tt_3 153 (by decide +kernel) (by decide +kernel)
set_option maxRecDepth 20000 in
theorem wm_J2_71 : Cond.methodLink RJ2 71 yJ2_getChar_3b067 ∈ TT := tt_3 154 (by decide +kernel) (by decide +kernel)
set_option maxRecDepth 20000 in
theorem wt_J2_getChar_3b067 : Cond.static yJ2_getChar_3b067 ∈ TT := tt_3 155 (by decide +kernel) (by decide +kernel)
set_option maxRecDepth 20000 in
theorem wc_J2_getChar_3b067 : Cond.code yJ2_getChar_3b067 cJ2_getChar_3b067 2 (some .char) ∈ TT := tt_3 156 (by decide +kernel) (by decide +kernel)
set_option maxRecDepth 20000 in
theorem wf_J2_44 : Cond.fieldLink RJ2 44 "java/lang/StringUTF16" "$assertionsDisabled" "Z" ∈ TT := tt_3 157 (by decide +kernel) (by decide +kernel)
set_option maxRecDepth 20000 in
theorem wf_J2_59 : Cond.fieldLink RJ2 59 "java/lang/StringUTF16" "HI_BYTE_SHIFT" "I" ∈ TT := tt_3 159 (by decide +kernel) (by decide +kernel)
set_option maxRecDepth 20000 in
theorem wf_J2_63 : Cond.fieldLink RJ2 63 "java/lang/StringUTF16" "LO_BYTE_SHIFT" "I" ∈ TT := tt_3 161 (by decide +kernel) (by decide +kernel)
set_option maxRecDepth 20000 in
theorem wm_X3_46 : Cond.methodLink RX3 46 yX3_readSitter ∈ TT := tt_3 163 (by decide +kernel) (by decide +kernel)
set_option maxRecDepth 20000 in
theorem wi_X3_readSitter : Cond.instanceMethod yX3_readSitter ∈ TT := tt_3 164 (by decide +kernel) (by decide +kernel)
set_option maxRecDepth 20000 in
theorem wv_X3_readSitter : Cond.selects RX3 yX3_readSitter yX3_readSitter ∈ TT := tt_3 165 (by decide +kernel) (by decide +kernel)
set_option maxRecDepth 20000 in
theorem wc_X3_readSitter : Cond.code yX3_readSitter cX3_readSitter 5 (some .boolean) ∈ TT := tt_3 166 (by decide +kernel) (by decide +kernel)
set_option maxRecDepth 20000 in
theorem wm_X3_61 : Cond.methodLink RX3 61 yX0_addSitter ∈ TT := tt_3 167 (by decide +kernel) (by decide +kernel)
set_option maxRecDepth 20000 in
theorem wm_X3_67 : Cond.methodLink RX3 67 yX3_wordOfTrait ∈ TT := tt_3 168 (by decide +kernel) (by decide +kernel)
set_option maxRecDepth 20000 in
theorem wt_X3_wordOfTrait : Cond.static yX3_wordOfTrait ∈ TT := tt_3 169 (by decide +kernel) (by decide +kernel)
set_option maxRecDepth 20000 in
theorem wc_X3_wordOfTrait : Cond.code yX3_wordOfTrait cX3_wordOfTrait 1 (some (.object "java/lang/String")) ∈ TT := tt_3 170 (by decide +kernel) (by decide +kernel)
set_option maxRecDepth 20000 in
theorem wm_X3_70 : Cond.methodLink RX3 70 yX2_mostOf ∈ TT := tt_3 175 (by decide +kernel) (by decide +kernel)
set_option maxRecDepth 20000 in
theorem wm_X3_75 : Cond.methodLink RX3 75 yX3_isNumber ∈ TT := tt_3 176 (by decide +kernel) (by decide +kernel)
set_option maxRecDepth 20000 in
theorem wi_X3_isNumber : Cond.instanceMethod yX3_isNumber ∈ TT := tt_3 177 (by decide +kernel) (by decide +kernel)
set_option maxRecDepth 20000 in
theorem wv_X3_isNumber : Cond.selects RX3 yX3_isNumber yX3_isNumber ∈ TT := tt_3 178 (by decide +kernel) (by decide +kernel)
set_option maxRecDepth 20000 in
theorem wc_X3_isNumber : Cond.code yX3_isNumber cX3_isNumber 2 (some .boolean) ∈ TT := tt_3 179 (by decide +kernel) (by decide +kernel)
set_option maxRecDepth 20000 in
theorem wm_X3_79 : Cond.methodLink RX3 79 yX0_give ∈ TT := tt_3 180 (by decide +kernel) (by decide +kernel)
set_option maxRecDepth 20000 in
theorem wm_X3_52 : Cond.methodLink RX3 52 yX3_readQueue ∈ TT := tt_3 182 (by decide +kernel) (by decide +kernel)
set_option maxRecDepth 20000 in
theorem wi_X3_readQueue : Cond.instanceMethod yX3_readQueue ∈ TT := tt_3 183 (by decide +kernel) (by decide +kernel)
set_option maxRecDepth 20000 in
theorem wv_X3_readQueue : Cond.selects RX3 yX3_readQueue yX3_readQueue ∈ TT := tt_3 184 (by decide +kernel) (by decide +kernel)
set_option maxRecDepth 20000 in
theorem wc_X3_readQueue : Cond.code yX3_readQueue cX3_readQueue 3 (some .boolean) ∈ TT := tt_3 185 (by decide +kernel) (by decide +kernel)
set_option maxRecDepth 20000 in
theorem wm_X3_86 : Cond.methodLink RX3 86 yX0_seat ∈ TT := tt_3 186 (by decide +kernel) (by decide +kernel)
set_option maxRecDepth 20000 in
theorem wm_X3_55 : Cond.methodLink RX3 55 yX3_wordOfPart ∈ TT := tt_3 187 (by decide +kernel) (by decide +kernel)
set_option maxRecDepth 20000 in
theorem wt_X3_wordOfPart : Cond.static yX3_wordOfPart ∈ TT := tt_3 188 (by decide +kernel) (by decide +kernel)
set_option maxRecDepth 20000 in
theorem wc_X3_wordOfPart : Cond.code yX3_wordOfPart cX3_wordOfPart 1 (some (.object "java/lang/String")) ∈ TT := tt_3 189 (by decide +kernel) (by decide +kernel)
set_option maxRecDepth 20000 in
theorem wm_X3_58 : Cond.methodLink RX3 58 yX3_readPart ∈ TT := tt_3 193 (by decide +kernel) (by decide +kernel)
set_option maxRecDepth 20000 in
theorem wi_X3_readPart : Cond.instanceMethod yX3_readPart ∈ TT := tt_3 194 (by decide +kernel) (by decide +kernel)
set_option maxRecDepth 20000 in
theorem wv_X3_readPart : Cond.selects RX3 yX3_readPart yX3_readPart ∈ TT := tt_3 195 (by decide +kernel) (by decide +kernel)
set_option maxRecDepth 20000 in
theorem wc_X3_readPart : Cond.code yX3_readPart cX3_readPart 3 (some .boolean) ∈ TT := tt_3 196 (by decide +kernel) (by decide +kernel)
set_option maxRecDepth 20000 in
theorem wm_X3_90 : Cond.methodLink RX3 90 yX0_mostOf ∈ TT := tt_3 197 (by decide +kernel) (by decide +kernel)
set_option maxRecDepth 20000 in
theorem wm_X3_91 : Cond.methodLink RX3 91 yX0_putPart ∈ TT := tt_3 198 (by decide +kernel) (by decide +kernel)
set_option maxRecDepth 20000 in
theorem wac_byte : Cond.arrayClass .byte ∈ TT := tt_3 199 (by decide +kernel) (by decide +kernel)
set_option maxRecDepth 20000 in
theorem wm_L_146 : Cond.methodLink RL 146 yX4_hold ∈ TT := tt_3 200 (by decide +kernel) (by decide +kernel)
set_option maxRecDepth 20000 in
theorem wi_X4_hold : Cond.instanceMethod yX4_hold ∈ TT := tt_3 201 (by decide +kernel) (by decide +kernel)
set_option maxRecDepth 20000 in
theorem wv_X4_hold : Cond.selects RX4 yX4_hold yX4_hold ∈ TT := tt_3 202 (by decide +kernel) (by decide +kernel)
set_option maxRecDepth 20000 in
theorem wc_X4_hold : Cond.code yX4_hold cX4_hold 3 (some .int) ∈ TT := tt_3 203 (by decide +kernel) (by decide +kernel)
set_option maxRecDepth 20000 in
theorem wm_L_150 : Cond.methodLink RL 150 yX4_as ∈ TT := tt_3 204 (by decide +kernel) (by decide +kernel)
set_option maxRecDepth 20000 in
theorem wi_X4_as : Cond.instanceMethod yX4_as ∈ TT := tt_3 205 (by decide +kernel) (by decide +kernel)
set_option maxRecDepth 20000 in
theorem wv_X4_as : Cond.selects RX4 yX4_as yX4_as ∈ TT := tt_3 206 (by decide +kernel) (by decide +kernel)
set_option maxRecDepth 20000 in
theorem wc_X4_as : Cond.code yX4_as cX4_as 5 (some .int) ∈ TT := tt_3 207 (by decide +kernel) (by decide +kernel)
set_option maxRecDepth 20000 in
theorem wm_X4_228 : Cond.methodLink RX4 228 yX2_isOfOrUnder ∈ TT := tt_3 208 (by decide +kernel) (by decide +kernel)
set_option maxRecDepth 20000 in
theorem wt_X2_isOfOrUnder : Cond.static yX2_isOfOrUnder ∈ TT := tt_3 209 (by decide +kernel) (by decide +kernel)
set_option maxRecDepth 20000 in
theorem wc_X2_isOfOrUnder : Cond.code yX2_isOfOrUnder cX2_isOfOrUnder 4 (some .boolean) ∈ TT := tt_3 210 (by decide +kernel) (by decide +kernel)
set_option maxRecDepth 20000 in
theorem wm_X2_37 : Cond.methodLink RX2 37 yX2_kindAbove ∈ TT := tt_3 211 (by decide +kernel) (by decide +kernel)
set_option maxRecDepth 20000 in
theorem wt_X2_kindAbove : Cond.static yX2_kindAbove ∈ TT := tt_3 212 (by decide +kernel) (by decide +kernel)
set_option maxRecDepth 20000 in
theorem wc_X2_kindAbove : Cond.code yX2_kindAbove cX2_kindAbove 1 (some .int) ∈ TT := tt_3 213 (by decide +kernel) (by decide +kernel)
set_option maxRecDepth 20000 in
theorem wk_X4_231 : Cond.constant RX4 231 (-1000003) ∈ TT := tt_3 214 (by decide +kernel) (by decide +kernel)
set_option maxRecDepth 20000 in
theorem wm_L_154 : Cond.methodLink RL 154 yX4_sheet ∈ TT := tt_3 215 (by decide +kernel) (by decide +kernel)
set_option maxRecDepth 20000 in
theorem wi_X4_sheet : Cond.instanceMethod yX4_sheet ∈ TT := tt_3 216 (by decide +kernel) (by decide +kernel)
set_option maxRecDepth 20000 in
theorem wv_X4_sheet : Cond.selects RX4 yX4_sheet yX4_sheet ∈ TT := tt_3 217 (by decide +kernel) (by decide +kernel)
set_option maxRecDepth 20000 in
theorem wc_X4_sheet : Cond.code yX4_sheet cX4_sheet 5 (some .int) ∈ TT := tt_3 218 (by decide +kernel) (by decide +kernel)
set_option maxRecDepth 20000 in
theorem wm_X4_232 : Cond.methodLink RX4 232 yX1_isWidth ∈ TT := tt_3 219 (by decide +kernel) (by decide +kernel)
set_option maxRecDepth 20000 in
theorem wt_X1_isWidth : Cond.static yX1_isWidth ∈ TT := tt_3 220 (by decide +kernel) (by decide +kernel)
set_option maxRecDepth 20000 in
theorem wc_X1_isWidth : Cond.code yX1_isWidth cX1_isWidth 1 (some .boolean) ∈ TT := tt_3 221 (by decide +kernel) (by decide +kernel)
set_option maxRecDepth 20000 in
theorem wk_X4_235 : Cond.constant RX4 235 (-1000007) ∈ TT := tt_3 222 (by decide +kernel) (by decide +kernel)
set_option maxRecDepth 20000 in
theorem wm_X4_236 : Cond.methodLink RX4 236 yX1_begin ∈ TT := tt_3 223 (by decide +kernel) (by decide +kernel)
set_option maxRecDepth 20000 in
theorem wi_X1_begin : Cond.instanceMethod yX1_begin ∈ TT := tt_3 224 (by decide +kernel) (by decide +kernel)
set_option maxRecDepth 20000 in
theorem wv_X1_begin : Cond.selects RX1 yX1_begin yX1_begin ∈ TT := tt_3 225 (by decide +kernel) (by decide +kernel)
set_option maxRecDepth 20000 in
theorem wc_X1_begin : Cond.code yX1_begin cX1_begin 4 none ∈ TT := tt_3 226 (by decide +kernel) (by decide +kernel)
set_option maxRecDepth 20000 in
theorem wm_L_158 : Cond.methodLink RL 158 yX4_write ∈ TT := tt_3 227 (by decide +kernel) (by decide +kernel)
set_option maxRecDepth 20000 in
theorem wi_X4_write : Cond.instanceMethod yX4_write ∈ TT := tt_3 228 (by decide +kernel) (by decide +kernel)
set_option maxRecDepth 20000 in
theorem wv_X4_write : Cond.selects RX4 yX4_write yX4_write ∈ TT := tt_3 229 (by decide +kernel) (by decide +kernel)
set_option maxRecDepth 20000 in
theorem wc_X4_write : Cond.code yX4_write cX4_write 5 (some .int) ∈ TT := tt_3 230 (by decide +kernel) (by decide +kernel)
set_option maxRecDepth 20000 in
theorem wm_X4_240 : Cond.methodLink RX4 240 yX1_putNumber ∈ TT := tt_3 231 (by decide +kernel) (by decide +kernel)
set_option maxRecDepth 20000 in
theorem wi_X1_putNumber : Cond.instanceMethod yX1_putNumber ∈ TT := tt_3 232 (by decide +kernel) (by decide +kernel)
set_option maxRecDepth 20000 in
theorem wv_X1_putNumber : Cond.selects RX1 yX1_putNumber yX1_putNumber ∈ TT := tt_3 233 (by decide +kernel) (by decide +kernel)
set_option maxRecDepth 20000 in
theorem wc_X1_putNumber : Cond.code yX1_putNumber cX1_putNumber 3 (some .boolean) ∈ TT := tt_3 234 (by decide +kernel) (by decide +kernel)
set_option maxRecDepth 20000 in
theorem wm_L_162 : Cond.methodLink RL 162 yX4_copy ∈ TT := tt_3 235 (by decide +kernel) (by decide +kernel)
set_option maxRecDepth 20000 in
theorem wi_X4_copy : Cond.instanceMethod yX4_copy ∈ TT := tt_3 236 (by decide +kernel) (by decide +kernel)
set_option maxRecDepth 20000 in
theorem wv_X4_copy : Cond.selects RX4 yX4_copy yX4_copy ∈ TT := tt_3 237 (by decide +kernel) (by decide +kernel)
set_option maxRecDepth 20000 in
theorem wc_X4_copy : Cond.code yX4_copy cX4_copy 8 (some .int) ∈ TT := tt_3 238 (by decide +kernel) (by decide +kernel)
set_option maxRecDepth 20000 in
theorem wm_X4_246 : Cond.methodLink RX4 246 yX1_hasRange ∈ TT := tt_3 239 (by decide +kernel) (by decide +kernel)
set_option maxRecDepth 20000 in
theorem wi_X1_hasRange : Cond.instanceMethod yX1_hasRange ∈ TT := tt_4 0 (by decide +kernel) (by decide +kernel)
set_option maxRecDepth 20000 in
theorem wv_X1_hasRange : Cond.selects RX1 yX1_hasRange yX1_hasRange ∈ TT := tt_4 1 (by decide +kernel) (by decide +kernel)
set_option maxRecDepth 20000 in
theorem wc_X1_hasRange : Cond.code yX1_hasRange cX1_hasRange 3 (some .boolean) ∈ TT := tt_4 2 (by decide +kernel) (by decide +kernel)
set_option maxRecDepth 20000 in
theorem wm_X4_252 : Cond.methodLink RX4 252 (⟨"java/lang/System", "arraycopy", "(Ljava/lang/Object;ILjava/lang/Object;II)V"⟩ : MethodName) ∈ TT := tt_4 3 (by decide +kernel) (by decide +kernel)
set_option maxRecDepth 20000 in
theorem wm_L_167 : Cond.methodLink RL 167 yX4_load ∈ TT := tt_4 4 (by decide +kernel) (by decide +kernel)
set_option maxRecDepth 20000 in
theorem wi_X4_load : Cond.instanceMethod yX4_load ∈ TT := tt_4 5 (by decide +kernel) (by decide +kernel)
set_option maxRecDepth 20000 in
theorem wv_X4_load : Cond.selects RX4 yX4_load yX4_load ∈ TT := tt_4 6 (by decide +kernel) (by decide +kernel)
set_option maxRecDepth 20000 in
theorem wc_X4_load : Cond.code yX4_load cX4_load 4 (some .int) ∈ TT := tt_4 7 (by decide +kernel) (by decide +kernel)
set_option maxRecDepth 20000 in
theorem wm_X4_258 : Cond.methodLink RX4 258 yX1_number ∈ TT := tt_4 8 (by decide +kernel) (by decide +kernel)
set_option maxRecDepth 20000 in
theorem wm_L_171 : Cond.methodLink RL 171 yX4_judge ∈ TT := tt_4 9 (by decide +kernel) (by decide +kernel)
set_option maxRecDepth 20000 in
theorem wi_X4_judge : Cond.instanceMethod yX4_judge ∈ TT := tt_4 10 (by decide +kernel) (by decide +kernel)
set_option maxRecDepth 20000 in
theorem wv_X4_judge : Cond.selects RX4 yX4_judge yX4_judge ∈ TT := tt_4 11 (by decide +kernel) (by decide +kernel)
set_option maxRecDepth 20000 in
theorem wc_X4_judge : Cond.code yX4_judge cX4_judge 5 (some .int) ∈ TT := tt_4 12 (by decide +kernel) (by decide +kernel)
set_option maxRecDepth 20000 in
theorem wm_L_175 : Cond.methodLink RL 175 yX4_image ∈ TT := tt_4 13 (by decide +kernel) (by decide +kernel)
set_option maxRecDepth 20000 in
theorem wi_X4_image : Cond.instanceMethod yX4_image ∈ TT := tt_4 14 (by decide +kernel) (by decide +kernel)
set_option maxRecDepth 20000 in
theorem wv_X4_image : Cond.selects RX4 yX4_image yX4_image ∈ TT := tt_4 15 (by decide +kernel) (by decide +kernel)
set_option maxRecDepth 20000 in
theorem wc_X4_image : Cond.code yX4_image cX4_image 1 (some .int) ∈ TT := tt_4 16 (by decide +kernel) (by decide +kernel)
set_option maxRecDepth 20000 in
theorem wm_L_179 : Cond.methodLink RL 179 yX4_undo ∈ TT := tt_4 17 (by decide +kernel) (by decide +kernel)
set_option maxRecDepth 20000 in
theorem wi_X4_undo : Cond.instanceMethod yX4_undo ∈ TT := tt_4 18 (by decide +kernel) (by decide +kernel)
set_option maxRecDepth 20000 in
theorem wv_X4_undo : Cond.selects RX4 yX4_undo yX4_undo ∈ TT := tt_4 19 (by decide +kernel) (by decide +kernel)
set_option maxRecDepth 20000 in
theorem wc_X4_undo : Cond.code yX4_undo cX4_undo 1 (some .int) ∈ TT := tt_4 20 (by decide +kernel) (by decide +kernel)
set_option maxRecDepth 20000 in
theorem wm_L_183 : Cond.methodLink RL 183 yX4_tear ∈ TT := tt_4 21 (by decide +kernel) (by decide +kernel)
set_option maxRecDepth 20000 in
theorem wi_X4_tear : Cond.instanceMethod yX4_tear ∈ TT := tt_4 22 (by decide +kernel) (by decide +kernel)
set_option maxRecDepth 20000 in
theorem wv_X4_tear : Cond.selects RX4 yX4_tear yX4_tear ∈ TT := tt_4 23 (by decide +kernel) (by decide +kernel)
set_option maxRecDepth 20000 in
theorem wc_X4_tear : Cond.code yX4_tear cX4_tear 2 (some .int) ∈ TT := tt_4 24 (by decide +kernel) (by decide +kernel)
set_option maxRecDepth 20000 in
theorem wm_L_187 : Cond.methodLink RL 187 yX4_count ∈ TT := tt_4 25 (by decide +kernel) (by decide +kernel)
set_option maxRecDepth 20000 in
theorem wi_X4_count : Cond.instanceMethod yX4_count ∈ TT := tt_4 26 (by decide +kernel) (by decide +kernel)
set_option maxRecDepth 20000 in
theorem wv_X4_count : Cond.selects RX4 yX4_count yX4_count ∈ TT := tt_4 27 (by decide +kernel) (by decide +kernel)
set_option maxRecDepth 20000 in
theorem wc_X4_count : Cond.code yX4_count cX4_count 2 (some .int) ∈ TT := tt_4 28 (by decide +kernel) (by decide +kernel)
set_option maxRecDepth 20000 in
theorem wm_X4_264 : Cond.methodLink RX4 264 yX0_spotsInUse ∈ TT := tt_4 29 (by decide +kernel) (by decide +kernel)
set_option maxRecDepth 20000 in
theorem wi_X0_spotsInUse : Cond.instanceMethod yX0_spotsInUse ∈ TT := tt_4 30 (by decide +kernel) (by decide +kernel)
set_option maxRecDepth 20000 in
theorem wv_X0_spotsInUse : Cond.selects RX0 yX0_spotsInUse yX0_spotsInUse ∈ TT := tt_4 31 (by decide +kernel) (by decide +kernel)
set_option maxRecDepth 20000 in
theorem wc_X0_spotsInUse : Cond.code yX0_spotsInUse cX0_spotsInUse 3 (some .int) ∈ TT := tt_4 32 (by decide +kernel) (by decide +kernel)
set_option maxRecDepth 20000 in
theorem wm_L_191 : Cond.methodLink RL 191 yX4_status ∈ TT := tt_4 33 (by decide +kernel) (by decide +kernel)
set_option maxRecDepth 20000 in
theorem wi_X4_status : Cond.instanceMethod yX4_status ∈ TT := tt_4 34 (by decide +kernel) (by decide +kernel)
set_option maxRecDepth 20000 in
theorem wv_X4_status : Cond.selects RX4 yX4_status yX4_status ∈ TT := tt_4 35 (by decide +kernel) (by decide +kernel)
set_option maxRecDepth 20000 in
theorem wc_X4_status : Cond.code yX4_status cX4_status 4 (some .int) ∈ TT := tt_4 36 (by decide +kernel) (by decide +kernel)
set_option maxRecDepth 20000 in
theorem wl_L_10 : Cond.classLink RL 10 RX5 ∈ TT := tt_4 37 (by decide +kernel) (by decide +kernel)
set_option maxRecDepth 20000 in
theorem wa_X5 : Cond.instantiable RX5 22 ∈ TT := tt_4 38 (by decide +kernel) (by decide +kernel)
set_option maxRecDepth 20000 in
theorem wm_L_12 : Cond.methodLink RL 12 yX5_init ∈ TT := tt_4 39 (by decide +kernel) (by decide +kernel)
set_option maxRecDepth 20000 in
theorem wi_X5_init : Cond.instanceMethod yX5_init ∈ TT := tt_4 40 (by decide +kernel) (by decide +kernel)
set_option maxRecDepth 20000 in
theorem wc_X5_init : Cond.code yX5_init cX5_init 2 none ∈ TT := tt_4 41 (by decide +kernel) (by decide +kernel)
set_option maxRecDepth 20000 in
theorem wm_X5_1 : Cond.methodLink RX5 1 objectInit ∈ TT := tt_4 42 (by decide +kernel) (by decide +kernel)
set_option maxRecDepth 20000 in
theorem wl_X5_25 : Cond.classLink RX5 25 RJ0 ∈ TT := tt_4 43 (by decide +kernel) (by decide +kernel)
set_option maxRecDepth 20000 in
theorem wf_X5_9 : Cond.fieldLink RX5 9 "BoothFlashModel" "now" "[I" ∈ TT := tt_4 52 (by decide +kernel) (by decide +kernel)
set_option maxRecDepth 20000 in
theorem wf_X5_13 : Cond.fieldLink RX5 13 "BoothFlashModel" "kept" "[I" ∈ TT := tt_4 53 (by decide +kernel) (by decide +kernel)
set_option maxRecDepth 20000 in
theorem wf_X5_16 : Cond.fieldLink RX5 16 "BoothFlashModel" "aside" "[I" ∈ TT := tt_4 54 (by decide +kernel) (by decide +kernel)
set_option maxRecDepth 20000 in
theorem wf_X5_342 : Cond.fieldLink RX5 342 "BoothFlashModel" "isKept" "Z" ∈ TT := tt_4 55 (by decide +kernel) (by decide +kernel)
set_option maxRecDepth 20000 in
theorem wf_X5_19 : Cond.fieldLink RX5 19 "BoothFlashModel" "found" "[I" ∈ TT := tt_4 56 (by decide +kernel) (by decide +kernel)
set_option maxRecDepth 20000 in
theorem wf_X5_213 : Cond.fieldLink RX5 213 "BoothFlashModel" "tallMany" "I" ∈ TT := tt_4 57 (by decide +kernel) (by decide +kernel)
set_option maxRecDepth 20000 in
theorem wf_X5_217 : Cond.fieldLink RX5 217 "BoothFlashModel" "tallLeast" "I" ∈ TT := tt_4 58 (by decide +kernel) (by decide +kernel)
set_option maxRecDepth 20000 in
theorem wf_X5_22 : Cond.fieldLink RX5 22 "BoothFlashModel" "tape" "[I" ∈ TT := tt_4 59 (by decide +kernel) (by decide +kernel)
set_option maxRecDepth 20000 in
theorem wf_X5_238 : Cond.fieldLink RX5 238 "BoothFlashModel" "taped" "I" ∈ TT := tt_4 60 (by decide +kernel) (by decide +kernel)
set_option maxRecDepth 20000 in
theorem wf_X5_244 : Cond.fieldLink RX5 244 "BoothFlashModel" "begins" "I" ∈ TT := tt_4 61 (by decide +kernel) (by decide +kernel)
set_option maxRecDepth 20000 in
theorem wf_X5_241 : Cond.fieldLink RX5 241 "BoothFlashModel" "ends" "I" ∈ TT := tt_4 62 (by decide +kernel) (by decide +kernel)
set_option maxRecDepth 20000 in
theorem wf_X5_253 : Cond.fieldLink RX5 253 "BoothFlashModel" "sort" "I" ∈ TT := tt_4 63 (by decide +kernel) (by decide +kernel)
set_option maxRecDepth 20000 in
theorem wf_X5_250 : Cond.fieldLink RX5 250 "BoothFlashModel" "value" "I" ∈ TT := tt_4 64 (by decide +kernel) (by decide +kernel)
set_option maxRecDepth 20000 in
theorem wf_X5_263 : Cond.fieldLink RX5 263 "BoothFlashModel" "isWrong" "Z" ∈ TT := tt_4 65 (by decide +kernel) (by decide +kernel)
set_option maxRecDepth 20000 in
theorem wf_X5_41 : Cond.fieldLink RX5 41 "BoothFlashModel" "kindNames" "[Ljava/lang/String;" ∈ TT := tt_4 66 (by decide +kernel) (by decide +kernel)
set_option maxRecDepth 20000 in
theorem wf_X5_45 : Cond.fieldLink RX5 45 "BoothFlashModel" "items" "[I" ∈ TT := tt_4 67 (by decide +kernel) (by decide +kernel)
set_option maxRecDepth 20000 in
theorem wf_X5_274 : Cond.fieldLink RX5 274 "BoothFlashModel" "itemMany" "I" ∈ TT := tt_4 68 (by decide +kernel) (by decide +kernel)
set_option maxRecDepth 20000 in
theorem wf_X5_284 : Cond.fieldLink RX5 284 "BoothFlashModel" "sittersThen" "I" ∈ TT := tt_4 69 (by decide +kernel) (by decide +kernel)
set_option maxRecDepth 20000 in
theorem wf_X5_48 : Cond.fieldLink RX5 48 "BoothFlashModel" "widths" "[I" ∈ TT := tt_4 70 (by decide +kernel) (by decide +kernel)
set_option maxRecDepth 20000 in
theorem wf_X5_51 : Cond.fieldLink RX5 51 "BoothFlashModel" "sizes" "[I" ∈ TT := tt_4 71 (by decide +kernel) (by decide +kernel)
set_option maxRecDepth 20000 in
theorem wf_X5_54 : Cond.fieldLink RX5 54 "BoothFlashModel" "numbers" "[I" ∈ TT := tt_4 72 (by decide +kernel) (by decide +kernel)
set_option maxRecDepth 20000 in
theorem wf_X5_57 : Cond.fieldLink RX5 57 "BoothFlashModel" "moved" "[I" ∈ TT := tt_4 73 (by decide +kernel) (by decide +kernel)
set_option maxRecDepth 20000 in
theorem wm_L_17 : Cond.methodLink RL 17 yX5_set ∈ TT := tt_4 119 (by decide +kernel) (by decide +kernel)
set_option maxRecDepth 20000 in
theorem wi_X5_set : Cond.instanceMethod yX5_set ∈ TT := tt_4 120 (by decide +kernel) (by decide +kernel)
set_option maxRecDepth 20000 in
theorem wv_X5_set : Cond.selects RX5 yX5_set yX5_set ∈ TT := tt_4 121 (by decide +kernel) (by decide +kernel)
set_option maxRecDepth 20000 in
theorem wc_X5_set : Cond.code yX5_set cX5_set 3 (some .int) ∈ TT := tt_4 122 (by decide +kernel) (by decide +kernel)
set_option maxRecDepth 20000 in
theorem wm_X5_75 : Cond.methodLink RX5 75 yX5_isSet ∈ TT := tt_4 123 (by decide +kernel) (by decide +kernel)
set_option maxRecDepth 20000 in
theorem wt_X5_isSet : Cond.static yX5_isSet ∈ TT := tt_4 124 (by decide +kernel) (by decide +kernel)
set_option maxRecDepth 20000 in
theorem wc_X5_isSet : Cond.code yX5_isSet cX5_isSet 2 (some .boolean) ∈ TT := tt_4 125 (by decide +kernel) (by decide +kernel)
set_option maxRecDepth 20000 in
theorem wm_X5_70 : Cond.methodLink RX5 70 yX5_within ∈ TT := tt_4 126 (by decide +kernel) (by decide +kernel)
set_option maxRecDepth 20000 in
theorem wt_X5_within : Cond.static yX5_within ∈ TT := tt_4 127 (by decide +kernel) (by decide +kernel)
set_option maxRecDepth 20000 in
theorem wc_X5_within : Cond.code yX5_within cX5_within 3 (some .boolean) ∈ TT := tt_4 128 (by decide +kernel) (by decide +kernel)
set_option maxRecDepth 20000 in
theorem wk_X5_74 : Cond.constant RX5 74 (99999) ∈ TT := tt_4 129 (by decide +kernel) (by decide +kernel)
set_option maxRecDepth 20000 in
theorem wm_X5_79 : Cond.methodLink RX5 79 yX5_become ∈ TT := tt_4 130 (by decide +kernel) (by decide +kernel)
set_option maxRecDepth 20000 in
theorem wi_X5_become : Cond.instanceMethod yX5_become ∈ TT := tt_4 132 (by decide +kernel) (by decide +kernel)
set_option maxRecDepth 20000 in
theorem wc_X5_become : Cond.code yX5_become cX5_become 4 (some .int) ∈ TT := tt_4 133 (by decide +kernel) (by decide +kernel)
set_option maxRecDepth 20000 in
theorem wk_X5_60 : Cond.constant RX5 60 (-1000001) ∈ TT := tt_4 134 (by decide +kernel) (by decide +kernel)
set_option maxRecDepth 20000 in
theorem wm_X5_66 : Cond.methodLink RX5 66 yX5_finding ∈ TT := tt_4 135 (by decide +kernel) (by decide +kernel)
set_option maxRecDepth 20000 in
theorem wi_X5_finding : Cond.instanceMethod yX5_finding ∈ TT := tt_4 137 (by decide +kernel) (by decide +kernel)
set_option maxRecDepth 20000 in
theorem wc_X5_finding : Cond.code yX5_finding cX5_finding 2 (some .int) ∈ TT := tt_4 138 (by decide +kernel) (by decide +kernel)
set_option maxRecDepth 20000 in
theorem wm_L_22 : Cond.methodLink RL 22 yX5_booth ∈ TT := tt_4 139 (by decide +kernel) (by decide +kernel)
set_option maxRecDepth 20000 in
theorem wi_X5_booth : Cond.instanceMethod yX5_booth ∈ TT := tt_4 140 (by decide +kernel) (by decide +kernel)
set_option maxRecDepth 20000 in
theorem wv_X5_booth : Cond.selects RX5 yX5_booth yX5_booth ∈ TT := tt_4 141 (by decide +kernel) (by decide +kernel)
set_option maxRecDepth 20000 in
theorem wc_X5_booth : Cond.code yX5_booth cX5_booth 2 (some .int) ∈ TT := tt_4 142 (by decide +kernel) (by decide +kernel)
set_option maxRecDepth 20000 in
theorem wm_L_26 : Cond.methodLink RL 26 yX5_queue ∈ TT := tt_4 143 (by decide +kernel) (by decide +kernel)
set_option maxRecDepth 20000 in
theorem wi_X5_queue : Cond.instanceMethod yX5_queue ∈ TT := tt_4 144 (by decide +kernel) (by decide +kernel)
set_option maxRecDepth 20000 in
theorem wv_X5_queue : Cond.selects RX5 yX5_queue yX5_queue ∈ TT := tt_4 145 (by decide +kernel) (by decide +kernel)
set_option maxRecDepth 20000 in
theorem wc_X5_queue : Cond.code yX5_queue cX5_queue 3 (some .int) ∈ TT := tt_4 146 (by decide +kernel) (by decide +kernel)
set_option maxRecDepth 20000 in
theorem wm_X5_87 : Cond.methodLink RX5 87 yX5_isPlace ∈ TT := tt_4 147 (by decide +kernel) (by decide +kernel)
set_option maxRecDepth 20000 in
theorem wt_X5_isPlace : Cond.static yX5_isPlace ∈ TT := tt_4 148 (by decide +kernel) (by decide +kernel)
set_option maxRecDepth 20000 in
theorem wc_X5_isPlace : Cond.code yX5_isPlace cX5_isPlace 1 (some .boolean) ∈ TT := tt_4 149 (by decide +kernel) (by decide +kernel)
set_option maxRecDepth 20000 in
theorem wm_X5_90 : Cond.methodLink RX5 90 yX5_isInQueue ∈ TT := tt_4 150 (by decide +kernel) (by decide +kernel)
set_option maxRecDepth 20000 in
theorem wi_X5_isInQueue : Cond.instanceMethod yX5_isInQueue ∈ TT := tt_4 152 (by decide +kernel) (by decide +kernel)
set_option maxRecDepth 20000 in
theorem wc_X5_isInQueue : Cond.code yX5_isInQueue cX5_isInQueue 2 (some .boolean) ∈ TT := tt_4 153 (by decide +kernel) (by decide +kernel)
set_option maxRecDepth 20000 in
theorem wm_X5_83 : Cond.methodLink RX5 83 yX5_isSitter ∈ TT := tt_4 154 (by decide +kernel) (by decide +kernel)
set_option maxRecDepth 20000 in
theorem wi_X5_isSitter : Cond.instanceMethod yX5_isSitter ∈ TT := tt_4 156 (by decide +kernel) (by decide +kernel)
set_option maxRecDepth 20000 in
theorem wc_X5_isSitter : Cond.code yX5_isSitter cX5_isSitter 2 (some .boolean) ∈ TT := tt_4 157 (by decide +kernel) (by decide +kernel)
set_option maxRecDepth 20000 in
theorem wm_L_30 : Cond.methodLink RL 30 yX5_place ∈ TT := tt_4 158 (by decide +kernel) (by decide +kernel)
set_option maxRecDepth 20000 in
theorem wi_X5_place : Cond.instanceMethod yX5_place ∈ TT := tt_4 159 (by decide +kernel) (by decide +kernel)
set_option maxRecDepth 20000 in
theorem wv_X5_place : Cond.selects RX5 yX5_place yX5_place ∈ TT := tt_4 160 (by decide +kernel) (by decide +kernel)
set_option maxRecDepth 20000 in
theorem wc_X5_place : Cond.code yX5_place cX5_place 2 (some .int) ∈ TT := tt_4 161 (by decide +kernel) (by decide +kernel)
set_option maxRecDepth 20000 in
theorem wm_L_34 : Cond.methodLink RL 34 yX5_sitter ∈ TT := tt_4 162 (by decide +kernel) (by decide +kernel)
set_option maxRecDepth 20000 in
theorem wi_X5_sitter : Cond.instanceMethod yX5_sitter ∈ TT := tt_4 163 (by decide +kernel) (by decide +kernel)
set_option maxRecDepth 20000 in
theorem wv_X5_sitter : Cond.selects RX5 yX5_sitter yX5_sitter ∈ TT := tt_4 164 (by decide +kernel) (by decide +kernel)
set_option maxRecDepth 20000 in
theorem wc_X5_sitter : Cond.code yX5_sitter cX5_sitter 3 (some .int) ∈ TT := tt_4 165 (by decide +kernel) (by decide +kernel)
set_option maxRecDepth 20000 in
theorem wm_X5_96 : Cond.methodLink RX5 96 yX5_isKind ∈ TT := tt_4 166 (by decide +kernel) (by decide +kernel)
set_option maxRecDepth 20000 in
theorem wt_X5_isKind : Cond.static yX5_isKind ∈ TT := tt_4 167 (by decide +kernel) (by decide +kernel)
set_option maxRecDepth 20000 in
theorem wc_X5_isKind : Cond.code yX5_isKind cX5_isKind 1 (some .boolean) ∈ TT := tt_4 168 (by decide +kernel) (by decide +kernel)
set_option maxRecDepth 20000 in
theorem wk_X5_99 : Cond.constant RX5 99 (-1000002) ∈ TT := tt_4 169 (by decide +kernel) (by decide +kernel)
set_option maxRecDepth 20000 in
theorem wm_X5_100 : Cond.methodLink RX5 100 yX5_comes ∈ TT := tt_4 170 (by decide +kernel) (by decide +kernel)
set_option maxRecDepth 20000 in
theorem wi_X5_comes : Cond.instanceMethod yX5_comes ∈ TT := tt_4 172 (by decide +kernel) (by decide +kernel)
set_option maxRecDepth 20000 in
theorem wc_X5_comes : Cond.code yX5_comes cX5_comes 7 (some .int) ∈ TT := tt_4 173 (by decide +kernel) (by decide +kernel)
set_option maxRecDepth 20000 in
theorem wm_X5_93 : Cond.methodLink RX5 93 yX5_sitterAt ∈ TT := tt_4 174 (by decide +kernel) (by decide +kernel)
set_option maxRecDepth 20000 in
theorem wt_X5_sitterAt : Cond.static yX5_sitterAt ∈ TT := tt_4 175 (by decide +kernel) (by decide +kernel)
set_option maxRecDepth 20000 in
theorem wc_X5_sitterAt : Cond.code yX5_sitterAt cX5_sitterAt 2 (some .int) ∈ TT := tt_4 176 (by decide +kernel) (by decide +kernel)
set_option maxRecDepth 20000 in
theorem wm_L_38 : Cond.methodLink RL 38 yX5_of ∈ TT := tt_4 177 (by decide +kernel) (by decide +kernel)
set_option maxRecDepth 20000 in
theorem wi_X5_of : Cond.instanceMethod yX5_of ∈ TT := tt_4 178 (by decide +kernel) (by decide +kernel)
set_option maxRecDepth 20000 in
theorem wv_X5_of : Cond.selects RX5 yX5_of yX5_of ∈ TT := tt_4 179 (by decide +kernel) (by decide +kernel)
set_option maxRecDepth 20000 in
theorem wc_X5_of : Cond.code yX5_of cX5_of 3 (some .int) ∈ TT := tt_4 180 (by decide +kernel) (by decide +kernel)
set_option maxRecDepth 20000 in
theorem wm_X5_104 : Cond.methodLink RX5 104 yX5_sitterIs ∈ TT := tt_4 181 (by decide +kernel) (by decide +kernel)
set_option maxRecDepth 20000 in
theorem wi_X5_sitterIs : Cond.instanceMethod yX5_sitterIs ∈ TT := tt_4 183 (by decide +kernel) (by decide +kernel)
set_option maxRecDepth 20000 in
theorem wc_X5_sitterIs : Cond.code yX5_sitterIs cX5_sitterIs 3 (some .int) ∈ TT := tt_4 184 (by decide +kernel) (by decide +kernel)
set_option maxRecDepth 20000 in
theorem wm_X5_112 : Cond.methodLink RX5 112 yX5_off ∈ TT := tt_4 185 (by decide +kernel) (by decide +kernel)
set_option maxRecDepth 20000 in
theorem wi_X5_off : Cond.instanceMethod yX5_off ∈ TT := tt_4 187 (by decide +kernel) (by decide +kernel)
set_option maxRecDepth 20000 in
theorem wc_X5_off : Cond.code yX5_off cX5_off 2 (some .int) ∈ TT := tt_4 188 (by decide +kernel) (by decide +kernel)
set_option maxRecDepth 20000 in
theorem wm_X5_107 : Cond.methodLink RX5 107 yJ9_abs_0f7a4 ∈ TT := tt_4 189 (by decide +kernel) (by decide +kernel)
set_option maxRecDepth 20000 in
theorem wm_X5_115 : Cond.methodLink RX5 115 yX5_may ∈ TT := tt_4 190 (by decide +kernel) (by decide +kernel)
set_option maxRecDepth 20000 in
theorem wi_X5_may : Cond.instanceMethod yX5_may ∈ TT := tt_4 192 (by decide +kernel) (by decide +kernel)
set_option maxRecDepth 20000 in
theorem wc_X5_may : Cond.code yX5_may cX5_may 2 (some .int) ∈ TT := tt_4 193 (by decide +kernel) (by decide +kernel)
set_option maxRecDepth 20000 in
theorem wm_L_43 : Cond.methodLink RL 43 yX5_change ∈ TT := tt_4 194 (by decide +kernel) (by decide +kernel)
set_option maxRecDepth 20000 in
theorem wi_X5_change : Cond.instanceMethod yX5_change ∈ TT := tt_4 195 (by decide +kernel) (by decide +kernel)
set_option maxRecDepth 20000 in
theorem wv_X5_change : Cond.selects RX5 yX5_change yX5_change ∈ TT := tt_4 196 (by decide +kernel) (by decide +kernel)
set_option maxRecDepth 20000 in
theorem wc_X5_change : Cond.code yX5_change cX5_change 4 (some .int) ∈ TT := tt_4 197 (by decide +kernel) (by decide +kernel)
set_option maxRecDepth 20000 in
theorem wm_X5_127 : Cond.methodLink RX5 127 yX5_isField ∈ TT := tt_4 198 (by decide +kernel) (by decide +kernel)
set_option maxRecDepth 20000 in
theorem wt_X5_isField : Cond.static yX5_isField ∈ TT := tt_4 199 (by decide +kernel) (by decide +kernel)
set_option maxRecDepth 20000 in
theorem wc_X5_isField : Cond.code yX5_isField cX5_isField 2 (some .boolean) ∈ TT := tt_4 200 (by decide +kernel) (by decide +kernel)
set_option maxRecDepth 20000 in
theorem wm_L_47 : Cond.methodLink RL 47 yX5_faults ∈ TT := tt_4 201 (by decide +kernel) (by decide +kernel)
set_option maxRecDepth 20000 in
theorem wi_X5_faults : Cond.instanceMethod yX5_faults ∈ TT := tt_4 202 (by decide +kernel) (by decide +kernel)
set_option maxRecDepth 20000 in
theorem wv_X5_faults : Cond.selects RX5 yX5_faults yX5_faults ∈ TT := tt_4 203 (by decide +kernel) (by decide +kernel)
set_option maxRecDepth 20000 in
theorem wc_X5_faults : Cond.code yX5_faults cX5_faults 3 (some .int) ∈ TT := tt_4 204 (by decide +kernel) (by decide +kernel)
set_option maxRecDepth 20000 in
theorem wm_X5_130 : Cond.methodLink RX5 130 yX5_isFlash ∈ TT := tt_4 205 (by decide +kernel) (by decide +kernel)
set_option maxRecDepth 20000 in
theorem wt_X5_isFlash : Cond.static yX5_isFlash ∈ TT := tt_4 206 (by decide +kernel) (by decide +kernel)
set_option maxRecDepth 20000 in
theorem wc_X5_isFlash : Cond.code yX5_isFlash cX5_isFlash 1 (some .boolean) ∈ TT := tt_4 207 (by decide +kernel) (by decide +kernel)
set_option maxRecDepth 20000 in
theorem wm_X5_133 : Cond.methodLink RX5 133 yX5_faultsNow ∈ TT := tt_4 208 (by decide +kernel) (by decide +kernel)
set_option maxRecDepth 20000 in
theorem wi_X5_faultsNow : Cond.instanceMethod yX5_faultsNow ∈ TT := tt_4 210 (by decide +kernel) (by decide +kernel)
set_option maxRecDepth 20000 in
theorem wc_X5_faultsNow : Cond.code yX5_faultsNow cX5_faultsNow 4 (some .int) ∈ TT := tt_4 211 (by decide +kernel) (by decide +kernel)
set_option maxRecDepth 20000 in
theorem wm_X5_118 : Cond.methodLink RX5 118 yX5_isShut ∈ TT := tt_4 212 (by decide +kernel) (by decide +kernel)
set_option maxRecDepth 20000 in
theorem wi_X5_isShut : Cond.instanceMethod yX5_isShut ∈ TT := tt_4 214 (by decide +kernel) (by decide +kernel)
set_option maxRecDepth 20000 in
theorem wc_X5_isShut : Cond.code yX5_isShut cX5_isShut 5 (some .boolean) ∈ TT := tt_4 215 (by decide +kernel) (by decide +kernel)
set_option maxRecDepth 20000 in
theorem wm_X5_121 : Cond.methodLink RX5 121 yX5_isSmiling ∈ TT := tt_4 216 (by decide +kernel) (by decide +kernel)
set_option maxRecDepth 20000 in
theorem wi_X5_isSmiling : Cond.instanceMethod yX5_isSmiling ∈ TT := tt_4 218 (by decide +kernel) (by decide +kernel)
set_option maxRecDepth 20000 in
theorem wc_X5_isSmiling : Cond.code yX5_isSmiling cX5_isSmiling 5 (some .boolean) ∈ TT := tt_4 219 (by decide +kernel) (by decide +kernel)
set_option maxRecDepth 20000 in
theorem wm_X5_124 : Cond.methodLink RX5 124 yX5_isShining ∈ TT := tt_4 220 (by decide +kernel) (by decide +kernel)
set_option maxRecDepth 20000 in
theorem wi_X5_isShining : Cond.instanceMethod yX5_isShining ∈ TT := tt_4 222 (by decide +kernel) (by decide +kernel)
set_option maxRecDepth 20000 in
theorem wc_X5_isShining : Cond.code yX5_isShining cX5_isShining 3 (some .boolean) ∈ TT := tt_4 223 (by decide +kernel) (by decide +kernel)
set_option maxRecDepth 20000 in
theorem wm_L_51 : Cond.methodLink RL 51 yX5_best ∈ TT := tt_4 224 (by decide +kernel) (by decide +kernel)
set_option maxRecDepth 20000 in
theorem wi_X5_best : Cond.instanceMethod yX5_best ∈ TT := tt_4 225 (by decide +kernel) (by decide +kernel)
set_option maxRecDepth 20000 in
theorem wv_X5_best : Cond.selects RX5 yX5_best yX5_best ∈ TT := tt_4 226 (by decide +kernel) (by decide +kernel)
set_option maxRecDepth 20000 in
theorem wc_X5_best : Cond.code yX5_best cX5_best 4 (some .int) ∈ TT := tt_4 227 (by decide +kernel) (by decide +kernel)
set_option maxRecDepth 20000 in
theorem wm_X5_136 : Cond.methodLink RX5 136 yX5_bits ∈ TT := tt_4 228 (by decide +kernel) (by decide +kernel)
set_option maxRecDepth 20000 in
theorem wt_X5_bits : Cond.static yX5_bits ∈ TT := tt_4 229 (by decide +kernel) (by decide +kernel)
set_option maxRecDepth 20000 in
theorem wc_X5_bits : Cond.code yX5_bits cX5_bits 3 (some .int) ∈ TT := tt_4 230 (by decide +kernel) (by decide +kernel)
set_option maxRecDepth 20000 in
theorem wm_L_55 : Cond.methodLink RL 55 yX5_go ∈ TT := tt_4 231 (by decide +kernel) (by decide +kernel)
set_option maxRecDepth 20000 in
theorem wi_X5_go : Cond.instanceMethod yX5_go ∈ TT := tt_4 232 (by decide +kernel) (by decide +kernel)
set_option maxRecDepth 20000 in
theorem wv_X5_go : Cond.selects RX5 yX5_go yX5_go ∈ TT := tt_4 233 (by decide +kernel) (by decide +kernel)
set_option maxRecDepth 20000 in
theorem wc_X5_go : Cond.code yX5_go cX5_go 2 (some .int) ∈ TT := tt_4 234 (by decide +kernel) (by decide +kernel)
set_option maxRecDepth 20000 in
theorem wk_X5_162 : Cond.constant RX5 162 (-1000005) ∈ TT := tt_4 235 (by decide +kernel) (by decide +kernel)
set_option maxRecDepth 20000 in
theorem wm_X5_163 : Cond.methodLink RX5 163 yX5_minutes ∈ TT := tt_4 236 (by decide +kernel) (by decide +kernel)
set_option maxRecDepth 20000 in
theorem wi_X5_minutes : Cond.instanceMethod yX5_minutes ∈ TT := tt_4 238 (by decide +kernel) (by decide +kernel)
set_option maxRecDepth 20000 in
theorem wc_X5_minutes : Cond.code yX5_minutes cX5_minutes 3 none ∈ TT := tt_4 239 (by decide +kernel) (by decide +kernel)
set_option maxRecDepth 20000 in
theorem wm_X5_159 : Cond.methodLink RX5 159 yX5_minute ∈ TT := tt_5 0 (by decide +kernel) (by decide +kernel)
set_option maxRecDepth 20000 in
theorem wi_X5_minute : Cond.instanceMethod yX5_minute ∈ TT := tt_5 2 (by decide +kernel) (by decide +kernel)
set_option maxRecDepth 20000 in
theorem wc_X5_minute : Cond.code yX5_minute cX5_minute 3 none ∈ TT := tt_5 3 (by decide +kernel) (by decide +kernel)
set_option maxRecDepth 20000 in
theorem wm_X5_152 : Cond.methodLink RX5 152 yX5_next ∈ TT := tt_5 4 (by decide +kernel) (by decide +kernel)
set_option maxRecDepth 20000 in
theorem wi_X5_next : Cond.instanceMethod yX5_next ∈ TT := tt_5 6 (by decide +kernel) (by decide +kernel)
set_option maxRecDepth 20000 in
theorem wc_X5_next : Cond.code yX5_next cX5_next 1 (some .int) ∈ TT := tt_5 7 (by decide +kernel) (by decide +kernel)
set_option maxRecDepth 20000 in
theorem wm_X5_156 : Cond.methodLink RX5 156 yX5_sits ∈ TT := tt_5 8 (by decide +kernel) (by decide +kernel)
set_option maxRecDepth 20000 in
theorem wi_X5_sits : Cond.instanceMethod yX5_sits ∈ TT := tt_5 10 (by decide +kernel) (by decide +kernel)
set_option maxRecDepth 20000 in
theorem wc_X5_sits : Cond.code yX5_sits cX5_sits 2 none ∈ TT := tt_5 11 (by decide +kernel) (by decide +kernel)
set_option maxRecDepth 20000 in
theorem wm_X5_139 : Cond.methodLink RX5 139 yJ9_min_7cf53 ∈ TT := tt_5 12 (by decide +kernel) (by decide +kernel)
set_option maxRecDepth 20000 in
theorem wm_X5_145 : Cond.methodLink RX5 145 yX5_turnsStool ∈ TT := tt_5 13 (by decide +kernel) (by decide +kernel)
set_option maxRecDepth 20000 in
theorem wi_X5_turnsStool : Cond.instanceMethod yX5_turnsStool ∈ TT := tt_5 15 (by decide +kernel) (by decide +kernel)
set_option maxRecDepth 20000 in
theorem wc_X5_turnsStool : Cond.code yX5_turnsStool cX5_turnsStool 4 none ∈ TT := tt_5 16 (by decide +kernel) (by decide +kernel)
set_option maxRecDepth 20000 in
theorem wm_X5_142 : Cond.methodLink RX5 142 yJ9_max_7cf53 ∈ TT := tt_5 17 (by decide +kernel) (by decide +kernel)
set_option maxRecDepth 20000 in
theorem wm_X5_149 : Cond.methodLink RX5 149 yX5_isGood ∈ TT := tt_5 18 (by decide +kernel) (by decide +kernel)
set_option maxRecDepth 20000 in
theorem wi_X5_isGood : Cond.instanceMethod yX5_isGood ∈ TT := tt_5 20 (by decide +kernel) (by decide +kernel)
set_option maxRecDepth 20000 in
theorem wc_X5_isGood : Cond.code yX5_isGood cX5_isGood 4 (some .boolean) ∈ TT := tt_5 21 (by decide +kernel) (by decide +kernel)
set_option maxRecDepth 20000 in
theorem wm_X5_166 : Cond.methodLink RX5 166 yX5_sumOf ∈ TT := tt_5 22 (by decide +kernel) (by decide +kernel)
set_option maxRecDepth 20000 in
theorem wi_X5_sumOf : Cond.instanceMethod yX5_sumOf ∈ TT := tt_5 24 (by decide +kernel) (by decide +kernel)
set_option maxRecDepth 20000 in
theorem wc_X5_sumOf : Cond.code yX5_sumOf cX5_sumOf 4 (some .int) ∈ TT := tt_5 25 (by decide +kernel) (by decide +kernel)
set_option maxRecDepth 20000 in
theorem wm_L_59 : Cond.methodLink RL 59 yX5_now ∈ TT := tt_5 26 (by decide +kernel) (by decide +kernel)
set_option maxRecDepth 20000 in
theorem wi_X5_now : Cond.instanceMethod yX5_now ∈ TT := tt_5 27 (by decide +kernel) (by decide +kernel)
set_option maxRecDepth 20000 in
theorem wv_X5_now : Cond.selects RX5 yX5_now yX5_now ∈ TT := tt_5 28 (by decide +kernel) (by decide +kernel)
set_option maxRecDepth 20000 in
theorem wc_X5_now : Cond.code yX5_now cX5_now 2 (some .int) ∈ TT := tt_5 29 (by decide +kernel) (by decide +kernel)
set_option maxRecDepth 20000 in
theorem wm_X5_169 : Cond.methodLink RX5 169 yX5_goodOnes ∈ TT := tt_5 30 (by decide +kernel) (by decide +kernel)
set_option maxRecDepth 20000 in
theorem wi_X5_goodOnes : Cond.instanceMethod yX5_goodOnes ∈ TT := tt_5 32 (by decide +kernel) (by decide +kernel)
set_option maxRecDepth 20000 in
theorem wc_X5_goodOnes : Cond.code yX5_goodOnes cX5_goodOnes 3 (some .int) ∈ TT := tt_5 33 (by decide +kernel) (by decide +kernel)
set_option maxRecDepth 20000 in
theorem wm_X5_172 : Cond.methodLink RX5 172 yX5_commonFaults ∈ TT := tt_5 34 (by decide +kernel) (by decide +kernel)
set_option maxRecDepth 20000 in
theorem wi_X5_commonFaults : Cond.instanceMethod yX5_commonFaults ∈ TT := tt_5 36 (by decide +kernel) (by decide +kernel)
set_option maxRecDepth 20000 in
theorem wc_X5_commonFaults : Cond.code yX5_commonFaults cX5_commonFaults 4 (some .int) ∈ TT := tt_5 37 (by decide +kernel) (by decide +kernel)
set_option maxRecDepth 20000 in
theorem wm_L_63 : Cond.methodLink RL 63 yX5_ahead ∈ TT := tt_5 38 (by decide +kernel) (by decide +kernel)
set_option maxRecDepth 20000 in
theorem wi_X5_ahead : Cond.instanceMethod yX5_ahead ∈ TT := tt_5 39 (by decide +kernel) (by decide +kernel)
set_option maxRecDepth 20000 in
theorem wv_X5_ahead : Cond.selects RX5 yX5_ahead yX5_ahead ∈ TT := tt_5 40 (by decide +kernel) (by decide +kernel)
set_option maxRecDepth 20000 in
theorem wc_X5_ahead : Cond.code yX5_ahead cX5_ahead 4 (some .int) ∈ TT := tt_5 41 (by decide +kernel) (by decide +kernel)
set_option maxRecDepth 20000 in
theorem wm_X5_178 : Cond.methodLink RX5 178 yX5_behind ∈ TT := tt_5 42 (by decide +kernel) (by decide +kernel)
set_option maxRecDepth 20000 in
theorem wi_X5_behind : Cond.instanceMethod yX5_behind ∈ TT := tt_5 44 (by decide +kernel) (by decide +kernel)
set_option maxRecDepth 20000 in
theorem wc_X5_behind : Cond.code yX5_behind cX5_behind 3 (some .int) ∈ TT := tt_5 45 (by decide +kernel) (by decide +kernel)
set_option maxRecDepth 20000 in
theorem wm_X5_61 : Cond.methodLink RX5 61 yX5_copyRow ∈ TT := tt_5 46 (by decide +kernel) (by decide +kernel)
set_option maxRecDepth 20000 in
theorem wt_X5_copyRow : Cond.static yX5_copyRow ∈ TT := tt_5 47 (by decide +kernel) (by decide +kernel)
set_option maxRecDepth 20000 in
theorem wc_X5_copyRow : Cond.code yX5_copyRow cX5_copyRow 3 none ∈ TT := tt_5 48 (by decide +kernel) (by decide +kernel)
set_option maxRecDepth 20000 in
theorem wm_X5_175 : Cond.methodLink RX5 175 yX5_putBack ∈ TT := tt_5 49 (by decide +kernel) (by decide +kernel)
set_option maxRecDepth 20000 in
theorem wi_X5_putBack : Cond.instanceMethod yX5_putBack ∈ TT := tt_5 51 (by decide +kernel) (by decide +kernel)
set_option maxRecDepth 20000 in
theorem wc_X5_putBack : Cond.code yX5_putBack cX5_putBack 2 (some .int) ∈ TT := tt_5 52 (by decide +kernel) (by decide +kernel)
set_option maxRecDepth 20000 in
theorem wm_L_67 : Cond.methodLink RL 67 yX5_later ∈ TT := tt_5 53 (by decide +kernel) (by decide +kernel)
set_option maxRecDepth 20000 in
theorem wi_X5_later : Cond.instanceMethod yX5_later ∈ TT := tt_5 54 (by decide +kernel) (by decide +kernel)
set_option maxRecDepth 20000 in
theorem wv_X5_later : Cond.selects RX5 yX5_later yX5_later ∈ TT := tt_5 55 (by decide +kernel) (by decide +kernel)
set_option maxRecDepth 20000 in
theorem wc_X5_later : Cond.code yX5_later cX5_later 3 (some .int) ∈ TT := tt_5 56 (by decide +kernel) (by decide +kernel)
set_option maxRecDepth 20000 in
theorem wm_L_71 : Cond.methodLink RL 71 yX5_when ∈ TT := tt_5 57 (by decide +kernel) (by decide +kernel)
set_option maxRecDepth 20000 in
theorem wi_X5_when : Cond.instanceMethod yX5_when ∈ TT := tt_5 58 (by decide +kernel) (by decide +kernel)
set_option maxRecDepth 20000 in
theorem wv_X5_when : Cond.selects RX5 yX5_when yX5_when ∈ TT := tt_5 59 (by decide +kernel) (by decide +kernel)
set_option maxRecDepth 20000 in
theorem wc_X5_when : Cond.code yX5_when cX5_when 4 (some .int) ∈ TT := tt_5 60 (by decide +kernel) (by decide +kernel)
set_option maxRecDepth 20000 in
theorem wm_X5_181 : Cond.methodLink RX5 181 yX5_orNone ∈ TT := tt_5 61 (by decide +kernel) (by decide +kernel)
set_option maxRecDepth 20000 in
theorem wi_X5_orNone : Cond.instanceMethod yX5_orNone ∈ TT := tt_5 63 (by decide +kernel) (by decide +kernel)
set_option maxRecDepth 20000 in
theorem wc_X5_orNone : Cond.code yX5_orNone cX5_orNone 2 (some .int) ∈ TT := tt_5 64 (by decide +kernel) (by decide +kernel)
set_option maxRecDepth 20000 in
theorem wk_X5_65 : Cond.constant RX5 65 (-1000004) ∈ TT := tt_5 65 (by decide +kernel) (by decide +kernel)
set_option maxRecDepth 20000 in
theorem wm_L_75 : Cond.methodLink RL 75 yX5_broke ∈ TT := tt_5 66 (by decide +kernel) (by decide +kernel)
set_option maxRecDepth 20000 in
theorem wi_X5_broke : Cond.instanceMethod yX5_broke ∈ TT := tt_5 67 (by decide +kernel) (by decide +kernel)
set_option maxRecDepth 20000 in
theorem wv_X5_broke : Cond.selects RX5 yX5_broke yX5_broke ∈ TT := tt_5 68 (by decide +kernel) (by decide +kernel)
set_option maxRecDepth 20000 in
theorem wc_X5_broke : Cond.code yX5_broke cX5_broke 3 (some .int) ∈ TT := tt_5 69 (by decide +kernel) (by decide +kernel)
set_option maxRecDepth 20000 in
theorem wm_L_80 : Cond.methodLink RL 80 yX5_all ∈ TT := tt_5 70 (by decide +kernel) (by decide +kernel)
set_option maxRecDepth 20000 in
theorem wi_X5_all : Cond.instanceMethod yX5_all ∈ TT := tt_5 71 (by decide +kernel) (by decide +kernel)
set_option maxRecDepth 20000 in
theorem wv_X5_all : Cond.selects RX5 yX5_all yX5_all ∈ TT := tt_5 72 (by decide +kernel) (by decide +kernel)
set_option maxRecDepth 20000 in
theorem wc_X5_all : Cond.code yX5_all cX5_all 2 (some .int) ∈ TT := tt_5 73 (by decide +kernel) (by decide +kernel)
set_option maxRecDepth 20000 in
theorem wm_X5_184 : Cond.methodLink RX5 184 yX5_areAllTaken ∈ TT := tt_5 74 (by decide +kernel) (by decide +kernel)
set_option maxRecDepth 20000 in
theorem wi_X5_areAllTaken : Cond.instanceMethod yX5_areAllTaken ∈ TT := tt_5 76 (by decide +kernel) (by decide +kernel)
set_option maxRecDepth 20000 in
theorem wc_X5_areAllTaken : Cond.code yX5_areAllTaken cX5_areAllTaken 3 (some .boolean) ∈ TT := tt_5 77 (by decide +kernel) (by decide +kernel)
set_option maxRecDepth 20000 in
theorem wm_L_84 : Cond.methodLink RL 84 yX5_stoolFor ∈ TT := tt_5 78 (by decide +kernel) (by decide +kernel)
set_option maxRecDepth 20000 in
theorem wi_X5_stoolFor : Cond.instanceMethod yX5_stoolFor ∈ TT := tt_5 79 (by decide +kernel) (by decide +kernel)
set_option maxRecDepth 20000 in
theorem wv_X5_stoolFor : Cond.selects RX5 yX5_stoolFor yX5_stoolFor ∈ TT := tt_5 80 (by decide +kernel) (by decide +kernel)
set_option maxRecDepth 20000 in
theorem wc_X5_stoolFor : Cond.code yX5_stoolFor cX5_stoolFor 7 (some .int) ∈ TT := tt_5 81 (by decide +kernel) (by decide +kernel)
set_option maxRecDepth 20000 in
theorem wm_X5_188 : Cond.methodLink RX5 188 yX5_faultsTogether ∈ TT := tt_5 82 (by decide +kernel) (by decide +kernel)
set_option maxRecDepth 20000 in
theorem wi_X5_faultsTogether : Cond.instanceMethod yX5_faultsTogether ∈ TT := tt_5 84 (by decide +kernel) (by decide +kernel)
set_option maxRecDepth 20000 in
theorem wc_X5_faultsTogether : Cond.code yX5_faultsTogether cX5_faultsTogether 4 (some .int) ∈ TT := tt_5 85 (by decide +kernel) (by decide +kernel)
set_option maxRecDepth 20000 in
theorem wm_L_88 : Cond.methodLink RL 88 yX5_lightFor ∈ TT := tt_5 86 (by decide +kernel) (by decide +kernel)
set_option maxRecDepth 20000 in
theorem wi_X5_lightFor : Cond.instanceMethod yX5_lightFor ∈ TT := tt_5 87 (by decide +kernel) (by decide +kernel)
set_option maxRecDepth 20000 in
theorem wv_X5_lightFor : Cond.selects RX5 yX5_lightFor yX5_lightFor ∈ TT := tt_5 88 (by decide +kernel) (by decide +kernel)
set_option maxRecDepth 20000 in
theorem wc_X5_lightFor : Cond.code yX5_lightFor cX5_lightFor 5 (some .int) ∈ TT := tt_5 89 (by decide +kernel) (by decide +kernel)
set_option maxRecDepth 20000 in
theorem wm_X5_191 : Cond.methodLink RX5 191 yX5_isThought ∈ TT := tt_5 90 (by decide +kernel) (by decide +kernel)
set_option maxRecDepth 20000 in
theorem wt_X5_isThought : Cond.static yX5_isThought ∈ TT := tt_5 91 (by decide +kernel) (by decide +kernel)
set_option maxRecDepth 20000 in
theorem wc_X5_isThought : Cond.code yX5_isThought cX5_isThought 1 (some .boolean) ∈ TT := tt_5 92 (by decide +kernel) (by decide +kernel)
set_option maxRecDepth 20000 in
theorem wm_X5_194 : Cond.methodLink RX5 194 yX5_isTakenWith ∈ TT := tt_5 93 (by decide +kernel) (by decide +kernel)
set_option maxRecDepth 20000 in
theorem wi_X5_isTakenWith : Cond.instanceMethod yX5_isTakenWith ∈ TT := tt_5 95 (by decide +kernel) (by decide +kernel)
set_option maxRecDepth 20000 in
theorem wc_X5_isTakenWith : Cond.code yX5_isTakenWith cX5_isTakenWith 7 (some .boolean) ∈ TT := tt_5 96 (by decide +kernel) (by decide +kernel)
set_option maxRecDepth 20000 in
theorem wm_L_100 : Cond.methodLink RL 100 yX5_merryFor ∈ TT := tt_5 97 (by decide +kernel) (by decide +kernel)
set_option maxRecDepth 20000 in
theorem wi_X5_merryFor : Cond.instanceMethod yX5_merryFor ∈ TT := tt_5 98 (by decide +kernel) (by decide +kernel)
set_option maxRecDepth 20000 in
theorem wv_X5_merryFor : Cond.selects RX5 yX5_merryFor yX5_merryFor ∈ TT := tt_5 99 (by decide +kernel) (by decide +kernel)
set_option maxRecDepth 20000 in
theorem wc_X5_merryFor : Cond.code yX5_merryFor cX5_merryFor 5 (some .int) ∈ TT := tt_5 100 (by decide +kernel) (by decide +kernel)
set_option maxRecDepth 20000 in
theorem wm_L_92 : Cond.methodLink RL 92 yX5_turnFor ∈ TT := tt_5 101 (by decide +kernel) (by decide +kernel)
set_option maxRecDepth 20000 in
theorem wi_X5_turnFor : Cond.instanceMethod yX5_turnFor ∈ TT := tt_5 102 (by decide +kernel) (by decide +kernel)
set_option maxRecDepth 20000 in
theorem wv_X5_turnFor : Cond.selects RX5 yX5_turnFor yX5_turnFor ∈ TT := tt_5 103 (by decide +kernel) (by decide +kernel)
set_option maxRecDepth 20000 in
theorem wc_X5_turnFor : Cond.code yX5_turnFor cX5_turnFor 7 (some .int) ∈ TT := tt_5 104 (by decide +kernel) (by decide +kernel)
set_option maxRecDepth 20000 in
theorem wm_X5_198 : Cond.methodLink RX5 198 yX5_takenWith ∈ TT := tt_5 105 (by decide +kernel) (by decide +kernel)
set_option maxRecDepth 20000 in
theorem wi_X5_takenWith : Cond.instanceMethod yX5_takenWith ∈ TT := tt_5 107 (by decide +kernel) (by decide +kernel)
set_option maxRecDepth 20000 in
theorem wc_X5_takenWith : Cond.code yX5_takenWith cX5_takenWith 7 (some .int) ∈ TT := tt_5 108 (by decide +kernel) (by decide +kernel)
set_option maxRecDepth 20000 in
theorem wm_L_96 : Cond.methodLink RL 96 yX5_kindFor ∈ TT := tt_5 109 (by decide +kernel) (by decide +kernel)
set_option maxRecDepth 20000 in
theorem wi_X5_kindFor : Cond.instanceMethod yX5_kindFor ∈ TT := tt_5 110 (by decide +kernel) (by decide +kernel)
set_option maxRecDepth 20000 in
theorem wv_X5_kindFor : Cond.selects RX5 yX5_kindFor yX5_kindFor ∈ TT := tt_5 111 (by decide +kernel) (by decide +kernel)
set_option maxRecDepth 20000 in
theorem wc_X5_kindFor : Cond.code yX5_kindFor cX5_kindFor 7 (some .int) ∈ TT := tt_5 112 (by decide +kernel) (by decide +kernel)
set_option maxRecDepth 20000 in
theorem wm_L_104 : Cond.methodLink RL 104 yX5_priceFor ∈ TT := tt_5 113 (by decide +kernel) (by decide +kernel)
set_option maxRecDepth 20000 in
theorem wi_X5_priceFor : Cond.instanceMethod yX5_priceFor ∈ TT := tt_5 114 (by decide +kernel) (by decide +kernel)
set_option maxRecDepth 20000 in
theorem wv_X5_priceFor : Cond.selects RX5 yX5_priceFor yX5_priceFor ∈ TT := tt_5 115 (by decide +kernel) (by decide +kernel)
set_option maxRecDepth 20000 in
theorem wc_X5_priceFor : Cond.code yX5_priceFor cX5_priceFor 7 (some .int) ∈ TT := tt_5 116 (by decide +kernel) (by decide +kernel)
set_option maxRecDepth 20000 in
theorem wm_L_108 : Cond.methodLink RL 108 yX5_away ∈ TT := tt_5 117 (by decide +kernel) (by decide +kernel)
set_option maxRecDepth 20000 in
theorem wi_X5_away : Cond.instanceMethod yX5_away ∈ TT := tt_5 118 (by decide +kernel) (by decide +kernel)
set_option maxRecDepth 20000 in
theorem wv_X5_away : Cond.selects RX5 yX5_away yX5_away ∈ TT := tt_5 119 (by decide +kernel) (by decide +kernel)
set_option maxRecDepth 20000 in
theorem wc_X5_away : Cond.code yX5_away cX5_away 7 (some .int) ∈ TT := tt_5 120 (by decide +kernel) (by decide +kernel)
set_option maxRecDepth 20000 in
theorem wm_X5_202 : Cond.methodLink RX5 202 yX5_hasBit ∈ TT := tt_5 121 (by decide +kernel) (by decide +kernel)
set_option maxRecDepth 20000 in
theorem wt_X5_hasBit : Cond.static yX5_hasBit ∈ TT := tt_5 122 (by decide +kernel) (by decide +kernel)
set_option maxRecDepth 20000 in
theorem wc_X5_hasBit : Cond.code yX5_hasBit cX5_hasBit 2 (some .boolean) ∈ TT := tt_5 123 (by decide +kernel) (by decide +kernel)
set_option maxRecDepth 20000 in
theorem wm_X5_205 : Cond.methodLink RX5 205 yX5_takenWithout ∈ TT := tt_5 124 (by decide +kernel) (by decide +kernel)
set_option maxRecDepth 20000 in
theorem wi_X5_takenWithout : Cond.instanceMethod yX5_takenWithout ∈ TT := tt_5 126 (by decide +kernel) (by decide +kernel)
set_option maxRecDepth 20000 in
theorem wc_X5_takenWithout : Cond.code yX5_takenWithout cX5_takenWithout 6 (some .int) ∈ TT := tt_5 127 (by decide +kernel) (by decide +kernel)
set_option maxRecDepth 20000 in
theorem wm_L_112 : Cond.methodLink RL 112 yX5_fits ∈ TT := tt_5 128 (by decide +kernel) (by decide +kernel)
set_option maxRecDepth 20000 in
theorem wi_X5_fits : Cond.instanceMethod yX5_fits ∈ TT := tt_5 129 (by decide +kernel) (by decide +kernel)
set_option maxRecDepth 20000 in
theorem wv_X5_fits : Cond.selects RX5 yX5_fits yX5_fits ∈ TT := tt_5 130 (by decide +kernel) (by decide +kernel)
set_option maxRecDepth 20000 in
theorem wc_X5_fits : Cond.code yX5_fits cX5_fits 4 (some .int) ∈ TT := tt_5 131 (by decide +kernel) (by decide +kernel)
set_option maxRecDepth 20000 in
theorem wm_X5_223 : Cond.methodLink RX5 223 yX5_lacks ∈ TT := tt_5 132 (by decide +kernel) (by decide +kernel)
set_option maxRecDepth 20000 in
theorem wi_X5_lacks : Cond.instanceMethod yX5_lacks ∈ TT := tt_5 134 (by decide +kernel) (by decide +kernel)
set_option maxRecDepth 20000 in
theorem wc_X5_lacks : Cond.code yX5_lacks cX5_lacks 3 (some .int) ∈ TT := tt_5 135 (by decide +kernel) (by decide +kernel)
set_option maxRecDepth 20000 in
theorem wm_X5_209 : Cond.methodLink RX5 209 yX5_isSheet ∈ TT := tt_5 136 (by decide +kernel) (by decide +kernel)
set_option maxRecDepth 20000 in
theorem wt_X5_isSheet : Cond.static yX5_isSheet ∈ TT := tt_5 137 (by decide +kernel) (by decide +kernel)
set_option maxRecDepth 20000 in
theorem wc_X5_isSheet : Cond.code yX5_isSheet cX5_isSheet 1 (some .boolean) ∈ TT := tt_5 138 (by decide +kernel) (by decide +kernel)
set_option maxRecDepth 20000 in
theorem wk_X5_212 : Cond.constant RX5 212 (-1000006) ∈ TT := tt_5 139 (by decide +kernel) (by decide +kernel)
set_option maxRecDepth 20000 in
theorem wm_X5_227 : Cond.methodLink RX5 227 yX5_fitTall ∈ TT := tt_5 140 (by decide +kernel) (by decide +kernel)
set_option maxRecDepth 20000 in
theorem wi_X5_fitTall : Cond.instanceMethod yX5_fitTall ∈ TT := tt_5 142 (by decide +kernel) (by decide +kernel)
set_option maxRecDepth 20000 in
theorem wc_X5_fitTall : Cond.code yX5_fitTall cX5_fitTall 7 none ∈ TT := tt_5 143 (by decide +kernel) (by decide +kernel)
set_option maxRecDepth 20000 in
theorem wm_X5_220 : Cond.methodLink RX5 220 yX5_areFaultsSo ∈ TT := tt_5 144 (by decide +kernel) (by decide +kernel)
set_option maxRecDepth 20000 in
theorem wi_X5_areFaultsSo : Cond.instanceMethod yX5_areFaultsSo ∈ TT := tt_5 146 (by decide +kernel) (by decide +kernel)
set_option maxRecDepth 20000 in
theorem wc_X5_areFaultsSo : Cond.code yX5_areFaultsSo cX5_areFaultsSo 6 (some .boolean) ∈ TT := tt_5 147 (by decide +kernel) (by decide +kernel)
set_option maxRecDepth 20000 in
theorem wm_L_116 : Cond.methodLink RL 116 yX5_tall ∈ TT := tt_5 148 (by decide +kernel) (by decide +kernel)
set_option maxRecDepth 20000 in
theorem wi_X5_tall : Cond.instanceMethod yX5_tall ∈ TT := tt_5 149 (by decide +kernel) (by decide +kernel)
set_option maxRecDepth 20000 in
theorem wv_X5_tall : Cond.selects RX5 yX5_tall yX5_tall ∈ TT := tt_5 150 (by decide +kernel) (by decide +kernel)
set_option maxRecDepth 20000 in
theorem wc_X5_tall : Cond.code yX5_tall cX5_tall 4 (some .int) ∈ TT := tt_5 151 (by decide +kernel) (by decide +kernel)
set_option maxRecDepth 20000 in
theorem wm_L_120 : Cond.methodLink RL 120 yX5_kinds ∈ TT := tt_5 152 (by decide +kernel) (by decide +kernel)
set_option maxRecDepth 20000 in
theorem wi_X5_kinds : Cond.instanceMethod yX5_kinds ∈ TT := tt_5 153 (by decide +kernel) (by decide +kernel)
set_option maxRecDepth 20000 in
theorem wv_X5_kinds : Cond.selects RX5 yX5_kinds yX5_kinds ∈ TT := tt_5 154 (by decide +kernel) (by decide +kernel)
set_option maxRecDepth 20000 in
theorem wc_X5_kinds : Cond.code yX5_kinds cX5_kinds 8 (some .int) ∈ TT := tt_5 155 (by decide +kernel) (by decide +kernel)
set_option maxRecDepth 20000 in
theorem wm_X5_231 : Cond.methodLink RX5 231 yX5_wasTakenSo ∈ TT := tt_5 156 (by decide +kernel) (by decide +kernel)
set_option maxRecDepth 20000 in
theorem wi_X5_wasTakenSo : Cond.instanceMethod yX5_wasTakenSo ∈ TT := tt_5 158 (by decide +kernel) (by decide +kernel)
set_option maxRecDepth 20000 in
theorem wc_X5_wasTakenSo : Cond.code yX5_wasTakenSo cX5_wasTakenSo 6 (some .boolean) ∈ TT := tt_5 159 (by decide +kernel) (by decide +kernel)
set_option maxRecDepth 20000 in
theorem wm_L_124 : Cond.methodLink RL 124 yX5_lamps ∈ TT := tt_5 160 (by decide +kernel) (by decide +kernel)
set_option maxRecDepth 20000 in
theorem wi_X5_lamps : Cond.instanceMethod yX5_lamps ∈ TT := tt_5 161 (by decide +kernel) (by decide +kernel)
set_option maxRecDepth 20000 in
theorem wv_X5_lamps : Cond.selects RX5 yX5_lamps yX5_lamps ∈ TT := tt_5 162 (by decide +kernel) (by decide +kernel)
set_option maxRecDepth 20000 in
theorem wc_X5_lamps : Cond.code yX5_lamps cX5_lamps 5 (some .int) ∈ TT := tt_5 163 (by decide +kernel) (by decide +kernel)
set_option maxRecDepth 20000 in
theorem wm_X5_235 : Cond.methodLink RX5 235 yX5_drawn ∈ TT := tt_5 164 (by decide +kernel) (by decide +kernel)
set_option maxRecDepth 20000 in
theorem wi_X5_drawn : Cond.instanceMethod yX5_drawn ∈ TT := tt_5 166 (by decide +kernel) (by decide +kernel)
set_option maxRecDepth 20000 in
theorem wc_X5_drawn : Cond.code yX5_drawn cX5_drawn 1 (some .int) ∈ TT := tt_5 167 (by decide +kernel) (by decide +kernel)
set_option maxRecDepth 20000 in
theorem wk_X5_234 : Cond.constant RX5 234 (1103515245) ∈ TT := tt_5 168 (by decide +kernel) (by decide +kernel)
set_option maxRecDepth 20000 in
theorem wm_L_129 : Cond.methodLink RL 129 yX5_odds ∈ TT := tt_5 169 (by decide +kernel) (by decide +kernel)
set_option maxRecDepth 20000 in
theorem wi_X5_odds : Cond.instanceMethod yX5_odds ∈ TT := tt_5 170 (by decide +kernel) (by decide +kernel)
set_option maxRecDepth 20000 in
theorem wv_X5_odds : Cond.selects RX5 yX5_odds yX5_odds ∈ TT := tt_5 171 (by decide +kernel) (by decide +kernel)
set_option maxRecDepth 20000 in
theorem wc_X5_odds : Cond.code yX5_odds cX5_odds 12 (some .long) ∈ TT := tt_5 172 (by decide +kernel) (by decide +kernel)
set_option maxRecDepth 20000 in
theorem wm_L_133 : Cond.methodLink RL 133 yX5_seed ∈ TT := tt_5 173 (by decide +kernel) (by decide +kernel)
set_option maxRecDepth 20000 in
theorem wi_X5_seed : Cond.instanceMethod yX5_seed ∈ TT := tt_5 174 (by decide +kernel) (by decide +kernel)
set_option maxRecDepth 20000 in
theorem wv_X5_seed : Cond.selects RX5 yX5_seed yX5_seed ∈ TT := tt_5 175 (by decide +kernel) (by decide +kernel)
set_option maxRecDepth 20000 in
theorem wc_X5_seed : Cond.code yX5_seed cX5_seed 2 (some .int) ∈ TT := tt_5 176 (by decide +kernel) (by decide +kernel)
set_option maxRecDepth 20000 in
theorem wm_L_137 : Cond.methodLink RL 137 yX5_feed ∈ TT := tt_5 177 (by decide +kernel) (by decide +kernel)
set_option maxRecDepth 20000 in
theorem wi_X5_feed : Cond.instanceMethod yX5_feed ∈ TT := tt_5 178 (by decide +kernel) (by decide +kernel)
set_option maxRecDepth 20000 in
theorem wv_X5_feed : Cond.selects RX5 yX5_feed yX5_feed ∈ TT := tt_5 179 (by decide +kernel) (by decide +kernel)
set_option maxRecDepth 20000 in
theorem wc_X5_feed : Cond.code yX5_feed cX5_feed 4 (some .int) ∈ TT := tt_5 180 (by decide +kernel) (by decide +kernel)
set_option maxRecDepth 20000 in
theorem wm_L_141 : Cond.methodLink RL 141 yX5_wipe ∈ TT := tt_5 181 (by decide +kernel) (by decide +kernel)
set_option maxRecDepth 20000 in
theorem wi_X5_wipe : Cond.instanceMethod yX5_wipe ∈ TT := tt_5 182 (by decide +kernel) (by decide +kernel)
set_option maxRecDepth 20000 in
theorem wv_X5_wipe : Cond.selects RX5 yX5_wipe yX5_wipe ∈ TT := tt_5 183 (by decide +kernel) (by decide +kernel)
set_option maxRecDepth 20000 in
theorem wc_X5_wipe : Cond.code yX5_wipe cX5_wipe 2 (some .int) ∈ TT := tt_5 184 (by decide +kernel) (by decide +kernel)
set_option maxRecDepth 20000 in
theorem wm_L_145 : Cond.methodLink RL 145 yX5_text ∈ TT := tt_5 185 (by decide +kernel) (by decide +kernel)
set_option maxRecDepth 20000 in
theorem wi_X5_text : Cond.instanceMethod yX5_text ∈ TT := tt_5 186 (by decide +kernel) (by decide +kernel)
set_option maxRecDepth 20000 in
theorem wv_X5_text : Cond.selects RX5 yX5_text yX5_text ∈ TT := tt_5 187 (by decide +kernel) (by decide +kernel)
set_option maxRecDepth 20000 in
theorem wc_X5_text : Cond.code yX5_text cX5_text 2 (some .int) ∈ TT := tt_5 188 (by decide +kernel) (by decide +kernel)
set_option maxRecDepth 20000 in
theorem wm_X5_267 : Cond.methodLink RX5 267 yX5_token ∈ TT := tt_5 189 (by decide +kernel) (by decide +kernel)
set_option maxRecDepth 20000 in
theorem wi_X5_token : Cond.instanceMethod yX5_token ∈ TT := tt_5 191 (by decide +kernel) (by decide +kernel)
set_option maxRecDepth 20000 in
theorem wc_X5_token : Cond.code yX5_token cX5_token 2 none ∈ TT := tt_5 192 (by decide +kernel) (by decide +kernel)
set_option maxRecDepth 20000 in
theorem wm_X5_247 : Cond.methodLink RX5 247 yX5_byteAt ∈ TT := tt_5 193 (by decide +kernel) (by decide +kernel)
set_option maxRecDepth 20000 in
theorem wi_X5_byteAt : Cond.instanceMethod yX5_byteAt ∈ TT := tt_5 195 (by decide +kernel) (by decide +kernel)
set_option maxRecDepth 20000 in
theorem wc_X5_byteAt : Cond.code yX5_byteAt cX5_byteAt 2 (some .int) ∈ TT := tt_5 196 (by decide +kernel) (by decide +kernel)
set_option maxRecDepth 20000 in
theorem wm_X5_322 : Cond.methodLink RX5 322 yX5_readItem ∈ TT := tt_5 197 (by decide +kernel) (by decide +kernel)
set_option maxRecDepth 20000 in
theorem wi_X5_readItem : Cond.instanceMethod yX5_readItem ∈ TT := tt_5 199 (by decide +kernel) (by decide +kernel)
set_option maxRecDepth 20000 in
theorem wc_X5_readItem : Cond.code yX5_readItem cX5_readItem 2 none ∈ TT := tt_5 200 (by decide +kernel) (by decide +kernel)
set_option maxRecDepth 20000 in
theorem wm_X5_302 : Cond.methodLink RX5 302 yX5_kindTold ∈ TT := tt_5 201 (by decide +kernel) (by decide +kernel)
set_option maxRecDepth 20000 in
theorem wi_X5_kindTold : Cond.instanceMethod yX5_kindTold ∈ TT := tt_5 203 (by decide +kernel) (by decide +kernel)
set_option maxRecDepth 20000 in
theorem wc_X5_kindTold : Cond.code yX5_kindTold cX5_kindTold 3 (some .int) ∈ TT := tt_5 204 (by decide +kernel) (by decide +kernel)
set_option maxRecDepth 20000 in
theorem wm_X5_277 : Cond.methodLink RX5 277 yX5_isWord ∈ TT := tt_5 205 (by decide +kernel) (by decide +kernel)
set_option maxRecDepth 20000 in
theorem wi_X5_isWord : Cond.instanceMethod yX5_isWord ∈ TT := tt_5 207 (by decide +kernel) (by decide +kernel)
set_option maxRecDepth 20000 in
theorem wc_X5_isWord : Cond.code yX5_isWord cX5_isWord 4 (some .boolean) ∈ TT := tt_5 208 (by decide +kernel) (by decide +kernel)
set_option maxRecDepth 20000 in
theorem wm_X5_256 : Cond.methodLink RX5 256 yJ0_length_8abf5 ∈ TT := tt_5 209 (by decide +kernel) (by decide +kernel)
set_option maxRecDepth 20000 in
theorem wm_X5_259 : Cond.methodLink RX5 259 yJ0_charAt_5068e ∈ TT := tt_5 210 (by decide +kernel) (by decide +kernel)
set_option maxRecDepth 20000 in
theorem wm_X5_305 : Cond.methodLink RX5 305 yX5_readSitter ∈ TT := tt_5 211 (by decide +kernel) (by decide +kernel)
set_option maxRecDepth 20000 in
theorem wi_X5_readSitter : Cond.instanceMethod yX5_readSitter ∈ TT := tt_5 213 (by decide +kernel) (by decide +kernel)
set_option maxRecDepth 20000 in
theorem wc_X5_readSitter : Cond.code yX5_readSitter cX5_readSitter 3 none ∈ TT := tt_5 214 (by decide +kernel) (by decide +kernel)
set_option maxRecDepth 20000 in
theorem wm_X5_270 : Cond.methodLink RX5 270 yX5_must ∈ TT := tt_5 215 (by decide +kernel) (by decide +kernel)
set_option maxRecDepth 20000 in
theorem wi_X5_must : Cond.instanceMethod yX5_must ∈ TT := tt_5 217 (by decide +kernel) (by decide +kernel)
set_option maxRecDepth 20000 in
theorem wc_X5_must : Cond.code yX5_must cX5_must 2 none ∈ TT := tt_5 218 (by decide +kernel) (by decide +kernel)
set_option maxRecDepth 20000 in
theorem wm_X5_289 : Cond.methodLink RX5 289 yX5_perhaps ∈ TT := tt_5 220 (by decide +kernel) (by decide +kernel)
set_option maxRecDepth 20000 in
theorem wi_X5_perhaps : Cond.instanceMethod yX5_perhaps ∈ TT := tt_5 222 (by decide +kernel) (by decide +kernel)
set_option maxRecDepth 20000 in
theorem wc_X5_perhaps : Cond.code yX5_perhaps cX5_perhaps 4 (some .int) ∈ TT := tt_5 223 (by decide +kernel) (by decide +kernel)
set_option maxRecDepth 20000 in
theorem wm_X5_281 : Cond.methodLink RX5 281 yX5_number ∈ TT := tt_5 224 (by decide +kernel) (by decide +kernel)
set_option maxRecDepth 20000 in
theorem wi_X5_number : Cond.instanceMethod yX5_number ∈ TT := tt_5 226 (by decide +kernel) (by decide +kernel)
set_option maxRecDepth 20000 in
theorem wc_X5_number : Cond.code yX5_number cX5_number 4 (some .int) ∈ TT := tt_5 227 (by decide +kernel) (by decide +kernel)
set_option maxRecDepth 20000 in
theorem wm_X5_293 : Cond.methodLink RX5 293 yX5_addItem ∈ TT := tt_5 228 (by decide +kernel) (by decide +kernel)
set_option maxRecDepth 20000 in
theorem wi_X5_addItem : Cond.instanceMethod yX5_addItem ∈ TT := tt_5 230 (by decide +kernel) (by decide +kernel)
set_option maxRecDepth 20000 in
theorem wc_X5_addItem : Cond.code yX5_addItem cX5_addItem 4 none ∈ TT := tt_5 231 (by decide +kernel) (by decide +kernel)
set_option maxRecDepth 20000 in
theorem wm_X5_310 : Cond.methodLink RX5 310 yX5_readQueue ∈ TT := tt_5 236 (by decide +kernel) (by decide +kernel)
set_option maxRecDepth 20000 in
theorem wi_X5_readQueue : Cond.instanceMethod yX5_readQueue ∈ TT := tt_5 238 (by decide +kernel) (by decide +kernel)
set_option maxRecDepth 20000 in
theorem wc_X5_readQueue : Cond.code yX5_readQueue cX5_readQueue 4 none ∈ TT := tt_5 239 (by decide +kernel) (by decide +kernel)
set_option maxRecDepth 20000 in
theorem wm_X5_315 : Cond.methodLink RX5 315 yX5_readNumber ∈ TT := tt_6 1 (by decide +kernel) (by decide +kernel)
set_option maxRecDepth 20000 in
theorem wi_X5_readNumber : Cond.instanceMethod yX5_readNumber ∈ TT := tt_6 3 (by decide +kernel) (by decide +kernel)
set_option maxRecDepth 20000 in
theorem wc_X5_readNumber : Cond.code yX5_readNumber cX5_readNumber 3 none ∈ TT := tt_6 4 (by decide +kernel) (by decide +kernel)
set_option maxRecDepth 20000 in
theorem wm_X5_325 : Cond.methodLink RX5 325 yX5_isToldSo ∈ TT := tt_6 7 (by decide +kernel) (by decide +kernel)
set_option maxRecDepth 20000 in
theorem wi_X5_isToldSo : Cond.instanceMethod yX5_isToldSo ∈ TT := tt_6 9 (by decide +kernel) (by decide +kernel)
set_option maxRecDepth 20000 in
theorem wc_X5_isToldSo : Cond.code yX5_isToldSo cX5_isToldSo 4 none ∈ TT := tt_6 10 (by decide +kernel) (by decide +kernel)
set_option maxRecDepth 20000 in
theorem wm_L_149 : Cond.methodLink RL 149 yX5_hold ∈ TT := tt_6 11 (by decide +kernel) (by decide +kernel)
set_option maxRecDepth 20000 in
theorem wi_X5_hold : Cond.instanceMethod yX5_hold ∈ TT := tt_6 12 (by decide +kernel) (by decide +kernel)
set_option maxRecDepth 20000 in
theorem wv_X5_hold : Cond.selects RX5 yX5_hold yX5_hold ∈ TT := tt_6 13 (by decide +kernel) (by decide +kernel)
set_option maxRecDepth 20000 in
theorem wc_X5_hold : Cond.code yX5_hold cX5_hold 3 (some .int) ∈ TT := tt_6 14 (by decide +kernel) (by decide +kernel)
set_option maxRecDepth 20000 in
theorem wm_X5_328 : Cond.methodLink RX5 328 yX5_isSpot ∈ TT := tt_6 15 (by decide +kernel) (by decide +kernel)
set_option maxRecDepth 20000 in
theorem wt_X5_isSpot : Cond.static yX5_isSpot ∈ TT := tt_6 16 (by decide +kernel) (by decide +kernel)
set_option maxRecDepth 20000 in
theorem wc_X5_isSpot : Cond.code yX5_isSpot cX5_isSpot 1 (some .boolean) ∈ TT := tt_6 17 (by decide +kernel) (by decide +kernel)
set_option maxRecDepth 20000 in
theorem wm_L_153 : Cond.methodLink RL 153 yX5_as ∈ TT := tt_6 18 (by decide +kernel) (by decide +kernel)
set_option maxRecDepth 20000 in
theorem wi_X5_as : Cond.instanceMethod yX5_as ∈ TT := tt_6 19 (by decide +kernel) (by decide +kernel)
set_option maxRecDepth 20000 in
theorem wv_X5_as : Cond.selects RX5 yX5_as yX5_as ∈ TT := tt_6 20 (by decide +kernel) (by decide +kernel)
set_option maxRecDepth 20000 in
theorem wc_X5_as : Cond.code yX5_as cX5_as 4 (some .int) ∈ TT := tt_6 21 (by decide +kernel) (by decide +kernel)
set_option maxRecDepth 20000 in
theorem wm_X5_331 : Cond.methodLink RX5 331 yX5_isUnder ∈ TT := tt_6 22 (by decide +kernel) (by decide +kernel)
set_option maxRecDepth 20000 in
theorem wt_X5_isUnder : Cond.static yX5_isUnder ∈ TT := tt_6 23 (by decide +kernel) (by decide +kernel)
set_option maxRecDepth 20000 in
theorem wc_X5_isUnder : Cond.code yX5_isUnder cX5_isUnder 3 (some .boolean) ∈ TT := tt_6 24 (by decide +kernel) (by decide +kernel)
set_option maxRecDepth 20000 in
theorem wm_X5_339 : Cond.methodLink RX5 339 yX5_above ∈ TT := tt_6 25 (by decide +kernel) (by decide +kernel)
set_option maxRecDepth 20000 in
theorem wt_X5_above : Cond.static yX5_above ∈ TT := tt_6 26 (by decide +kernel) (by decide +kernel)
set_option maxRecDepth 20000 in
theorem wc_X5_above : Cond.code yX5_above cX5_above 1 (some .int) ∈ TT := tt_6 27 (by decide +kernel) (by decide +kernel)
set_option maxRecDepth 20000 in
theorem wk_X5_334 : Cond.constant RX5 334 (-1000003) ∈ TT := tt_6 28 (by decide +kernel) (by decide +kernel)
set_option maxRecDepth 20000 in
theorem wm_L_157 : Cond.methodLink RL 157 yX5_sheet ∈ TT := tt_6 29 (by decide +kernel) (by decide +kernel)
set_option maxRecDepth 20000 in
theorem wi_X5_sheet : Cond.instanceMethod yX5_sheet ∈ TT := tt_6 30 (by decide +kernel) (by decide +kernel)
set_option maxRecDepth 20000 in
theorem wv_X5_sheet : Cond.selects RX5 yX5_sheet yX5_sheet ∈ TT := tt_6 31 (by decide +kernel) (by decide +kernel)
set_option maxRecDepth 20000 in
theorem wc_X5_sheet : Cond.code yX5_sheet cX5_sheet 5 (some .int) ∈ TT := tt_6 32 (by decide +kernel) (by decide +kernel)
set_option maxRecDepth 20000 in
theorem wk_X5_335 : Cond.constant RX5 335 (-1000007) ∈ TT := tt_6 33 (by decide +kernel) (by decide +kernel)
set_option maxRecDepth 20000 in
theorem wm_L_161 : Cond.methodLink RL 161 yX5_write ∈ TT := tt_6 34 (by decide +kernel) (by decide +kernel)
set_option maxRecDepth 20000 in
theorem wi_X5_write : Cond.instanceMethod yX5_write ∈ TT := tt_6 35 (by decide +kernel) (by decide +kernel)
set_option maxRecDepth 20000 in
theorem wv_X5_write : Cond.selects RX5 yX5_write yX5_write ∈ TT := tt_6 36 (by decide +kernel) (by decide +kernel)
set_option maxRecDepth 20000 in
theorem wc_X5_write : Cond.code yX5_write cX5_write 4 (some .int) ∈ TT := tt_6 37 (by decide +kernel) (by decide +kernel)
set_option maxRecDepth 20000 in
theorem wm_X5_336 : Cond.methodLink RX5 336 yX5_cutTo ∈ TT := tt_6 38 (by decide +kernel) (by decide +kernel)
set_option maxRecDepth 20000 in
theorem wt_X5_cutTo : Cond.static yX5_cutTo ∈ TT := tt_6 39 (by decide +kernel) (by decide +kernel)
set_option maxRecDepth 20000 in
theorem wc_X5_cutTo : Cond.code yX5_cutTo cX5_cutTo 2 (some .int) ∈ TT := tt_6 40 (by decide +kernel) (by decide +kernel)
set_option maxRecDepth 20000 in
theorem wm_L_166 : Cond.methodLink RL 166 yX5_copy ∈ TT := tt_6 41 (by decide +kernel) (by decide +kernel)
set_option maxRecDepth 20000 in
theorem wi_X5_copy : Cond.instanceMethod yX5_copy ∈ TT := tt_6 42 (by decide +kernel) (by decide +kernel)
set_option maxRecDepth 20000 in
theorem wv_X5_copy : Cond.selects RX5 yX5_copy yX5_copy ∈ TT := tt_6 43 (by decide +kernel) (by decide +kernel)
set_option maxRecDepth 20000 in
theorem wc_X5_copy : Cond.code yX5_copy cX5_copy 7 (some .int) ∈ TT := tt_6 44 (by decide +kernel) (by decide +kernel)
set_option maxRecDepth 20000 in
theorem wm_L_170 : Cond.methodLink RL 170 yX5_load ∈ TT := tt_6 45 (by decide +kernel) (by decide +kernel)
set_option maxRecDepth 20000 in
theorem wi_X5_load : Cond.instanceMethod yX5_load ∈ TT := tt_6 46 (by decide +kernel) (by decide +kernel)
set_option maxRecDepth 20000 in
theorem wv_X5_load : Cond.selects RX5 yX5_load yX5_load ∈ TT := tt_6 47 (by decide +kernel) (by decide +kernel)
set_option maxRecDepth 20000 in
theorem wc_X5_load : Cond.code yX5_load cX5_load 3 (some .int) ∈ TT := tt_6 48 (by decide +kernel) (by decide +kernel)
set_option maxRecDepth 20000 in
theorem wm_L_174 : Cond.methodLink RL 174 yX5_judge ∈ TT := tt_6 49 (by decide +kernel) (by decide +kernel)
set_option maxRecDepth 20000 in
theorem wi_X5_judge : Cond.instanceMethod yX5_judge ∈ TT := tt_6 50 (by decide +kernel) (by decide +kernel)
set_option maxRecDepth 20000 in
theorem wv_X5_judge : Cond.selects RX5 yX5_judge yX5_judge ∈ TT := tt_6 51 (by decide +kernel) (by decide +kernel)
set_option maxRecDepth 20000 in
theorem wc_X5_judge : Cond.code yX5_judge cX5_judge 3 (some .int) ∈ TT := tt_6 52 (by decide +kernel) (by decide +kernel)
set_option maxRecDepth 20000 in
theorem wm_L_178 : Cond.methodLink RL 178 yX5_image ∈ TT := tt_6 53 (by decide +kernel) (by decide +kernel)
set_option maxRecDepth 20000 in
theorem wi_X5_image : Cond.instanceMethod yX5_image ∈ TT := tt_6 54 (by decide +kernel) (by decide +kernel)
set_option maxRecDepth 20000 in
theorem wv_X5_image : Cond.selects RX5 yX5_image yX5_image ∈ TT := tt_6 55 (by decide +kernel) (by decide +kernel)
set_option maxRecDepth 20000 in
theorem wc_X5_image : Cond.code yX5_image cX5_image 1 (some .int) ∈ TT := tt_6 56 (by decide +kernel) (by decide +kernel)
set_option maxRecDepth 20000 in
theorem wm_L_182 : Cond.methodLink RL 182 yX5_undo ∈ TT := tt_6 57 (by decide +kernel) (by decide +kernel)
set_option maxRecDepth 20000 in
theorem wi_X5_undo : Cond.instanceMethod yX5_undo ∈ TT := tt_6 58 (by decide +kernel) (by decide +kernel)
set_option maxRecDepth 20000 in
theorem wv_X5_undo : Cond.selects RX5 yX5_undo yX5_undo ∈ TT := tt_6 59 (by decide +kernel) (by decide +kernel)
set_option maxRecDepth 20000 in
theorem wc_X5_undo : Cond.code yX5_undo cX5_undo 1 (some .int) ∈ TT := tt_6 60 (by decide +kernel) (by decide +kernel)
set_option maxRecDepth 20000 in
theorem wm_L_186 : Cond.methodLink RL 186 yX5_tear ∈ TT := tt_6 61 (by decide +kernel) (by decide +kernel)
set_option maxRecDepth 20000 in
theorem wi_X5_tear : Cond.instanceMethod yX5_tear ∈ TT := tt_6 62 (by decide +kernel) (by decide +kernel)
set_option maxRecDepth 20000 in
theorem wv_X5_tear : Cond.selects RX5 yX5_tear yX5_tear ∈ TT := tt_6 63 (by decide +kernel) (by decide +kernel)
set_option maxRecDepth 20000 in
theorem wc_X5_tear : Cond.code yX5_tear cX5_tear 2 (some .int) ∈ TT := tt_6 64 (by decide +kernel) (by decide +kernel)
set_option maxRecDepth 20000 in
theorem wm_L_190 : Cond.methodLink RL 190 yX5_count ∈ TT := tt_6 65 (by decide +kernel) (by decide +kernel)
set_option maxRecDepth 20000 in
theorem wi_X5_count : Cond.instanceMethod yX5_count ∈ TT := tt_6 66 (by decide +kernel) (by decide +kernel)
set_option maxRecDepth 20000 in
theorem wv_X5_count : Cond.selects RX5 yX5_count yX5_count ∈ TT := tt_6 67 (by decide +kernel) (by decide +kernel)
set_option maxRecDepth 20000 in
theorem wc_X5_count : Cond.code yX5_count cX5_count 4 (some .int) ∈ TT := tt_6 68 (by decide +kernel) (by decide +kernel)
set_option maxRecDepth 20000 in
theorem wm_L_194 : Cond.methodLink RL 194 yX5_status ∈ TT := tt_6 69 (by decide +kernel) (by decide +kernel)
set_option maxRecDepth 20000 in
theorem wi_X5_status : Cond.instanceMethod yX5_status ∈ TT := tt_6 70 (by decide +kernel) (by decide +kernel)
set_option maxRecDepth 20000 in
theorem wv_X5_status : Cond.selects RX5 yX5_status yX5_status ∈ TT := tt_6 71 (by decide +kernel) (by decide +kernel)
set_option maxRecDepth 20000 in
theorem wc_X5_status : Cond.code yX5_status cX5_status 2 (some .int) ∈ TT := tt_6 72 (by decide +kernel) (by decide +kernel)
set_option maxRecDepth 20000 in
theorem wf_J0_9 : Cond.fieldLink RJ0 9 "java/lang/String" "value" "[B" ∈ TT := tt_6 73 (by decide +kernel) (by decide +kernel)
set_option maxRecDepth 20000 in
theorem wf_J0_15 : Cond.fieldLink RJ0 15 "java/lang/String" "coder" "B" ∈ TT := tt_6 74 (by decide +kernel) (by decide +kernel)
end
