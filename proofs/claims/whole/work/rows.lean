section
-- ===== PART A: goes FIRST, ahead of the names: the tables' words, and 'selects' of the private methods out of them =====
/-- a private method of a class that the tables say can be made, by its rows of tables_1 -/
def lw_okq (q : MethodName × Nat) : Prop := (q.1.cls ≠ "java/lang/invoke/MethodHandle" ∧ q.1.cls ≠ "java/lang/invoke/VarHandle") ∧ Cond.instantiable q.1.cls q.2 ∈ tables_1 ∧ Cond.privateMethod q.1 ∈ tables_1 ∧ Cond.instanceMethod q.1 ∈ tables_1
theorem lw_p0 : lw_okq (⟨"CarpetRealms", "found", "(I)I"⟩, 9) := ⟨⟨by decide +kernel, by decide +kernel⟩, List.mem_of_getElem? (i := 23) (by decide +kernel), List.mem_of_getElem? (i := 281) (by decide +kernel), List.mem_of_getElem? (i := 282) (by decide +kernel)⟩
theorem lw_p1 : lw_okq (⟨"CarpetRealms$World", "addLayer", "(I)V"⟩, 8) := ⟨⟨by decide +kernel, by decide +kernel⟩, List.mem_of_getElem? (i := 107) (by decide +kernel), List.mem_of_getElem? (i := 360) (by decide +kernel), List.mem_of_getElem? (i := 361) (by decide +kernel)⟩
theorem lw_p2 : lw_okq (⟨"CarpetRealms", "isRug", "(I)Z"⟩, 9) := ⟨⟨by decide +kernel, by decide +kernel⟩, List.mem_of_getElem? (i := 23) (by decide +kernel), List.mem_of_getElem? (i := 423) (by decide +kernel), List.mem_of_getElem? (i := 424) (by decide +kernel)⟩
theorem lw_p3 : lw_okq (⟨"CarpetRealms", "passProbe", "(I)V"⟩, 9) := ⟨⟨by decide +kernel, by decide +kernel⟩, List.mem_of_getElem? (i := 23) (by decide +kernel), List.mem_of_getElem? (i := 573) (by decide +kernel), List.mem_of_getElem? (i := 574) (by decide +kernel)⟩
theorem lw_p4 : lw_okq (⟨"CarpetRealms", "daysProbeLies", "()I"⟩, 9) := ⟨⟨by decide +kernel, by decide +kernel⟩, List.mem_of_getElem? (i := 23) (by decide +kernel), List.mem_of_getElem? (i := 594) (by decide +kernel), List.mem_of_getElem? (i := 595) (by decide +kernel)⟩
theorem lw_p5 : lw_okq (⟨"CarpetRealms", "bestYardInTrial", "(LCarpetRealms$Rug;)I"⟩, 9) := ⟨⟨by decide +kernel, by decide +kernel⟩, List.mem_of_getElem? (i := 23) (by decide +kernel), List.mem_of_getElem? (i := 611) (by decide +kernel), List.mem_of_getElem? (i := 612) (by decide +kernel)⟩
theorem lw_p6 : lw_okq (⟨"CarpetRealms", "isSheet", "(I)Z"⟩, 9) := ⟨⟨by decide +kernel, by decide +kernel⟩, List.mem_of_getElem? (i := 23) (by decide +kernel), List.mem_of_getElem? (i := 767) (by decide +kernel), List.mem_of_getElem? (i := 768) (by decide +kernel)⟩
theorem lw_p7 : lw_okq (⟨"CarpetRealms", "sheetFinding", "(I)I"⟩, 9) := ⟨⟨by decide +kernel, by decide +kernel⟩, List.mem_of_getElem? (i := 23) (by decide +kernel), List.mem_of_getElem? (i := 802) (by decide +kernel), List.mem_of_getElem? (i := 803) (by decide +kernel)⟩
theorem lw_p8 : lw_okq (⟨"CarpetRealms", "sheetAndRugFinding", "(II)I"⟩, 9) := ⟨⟨by decide +kernel, by decide +kernel⟩, List.mem_of_getElem? (i := 23) (by decide +kernel), List.mem_of_getElem? (i := 811) (by decide +kernel), List.mem_of_getElem? (i := 812) (by decide +kernel)⟩
theorem lw_p9 : lw_okq (⟨"CarpetRealms", "probeWearsAs", "(LCarpetRealms$Sheet;)Z"⟩, 9) := ⟨⟨by decide +kernel, by decide +kernel⟩, List.mem_of_getElem? (i := 23) (by decide +kernel), List.mem_of_getElem? (i := 819) (by decide +kernel), List.mem_of_getElem? (i := 820) (by decide +kernel)⟩
theorem lw_p10 : lw_okq (⟨"CarpetRealmsModel", "no", "(I)I"⟩, 18) := ⟨⟨by decide +kernel, by decide +kernel⟩, List.mem_of_getElem? (i := 847) (by decide +kernel), List.mem_of_getElem? (i := 916) (by decide +kernel), List.mem_of_getElem? (i := 917) (by decide +kernel)⟩
theorem lw_p11 : lw_okq (⟨"CarpetRealmsModel", "liesOn", "(II)Z"⟩, 18) := ⟨⟨by decide +kernel, by decide +kernel⟩, List.mem_of_getElem? (i := 847) (by decide +kernel), List.mem_of_getElem? (i := 928) (by decide +kernel), List.mem_of_getElem? (i := 929) (by decide +kernel)⟩
theorem lw_p12 : lw_okq (⟨"CarpetRealmsModel", "get", "(II)I"⟩, 18) := ⟨⟨by decide +kernel, by decide +kernel⟩, List.mem_of_getElem? (i := 847) (by decide +kernel), List.mem_of_getElem? (i := 932) (by decide +kernel), List.mem_of_getElem? (i := 933) (by decide +kernel)⟩
theorem lw_p13 : lw_okq (⟨"CarpetRealmsModel", "reachOf", "(I)I"⟩, 18) := ⟨⟨by decide +kernel, by decide +kernel⟩, List.mem_of_getElem? (i := 847) (by decide +kernel), List.mem_of_getElem? (i := 936) (by decide +kernel), List.mem_of_getElem? (i := 937) (by decide +kernel)⟩
theorem lw_p14 : lw_okq (⟨"CarpetRealmsModel", "whoseIs", "(I)I"⟩, 18) := ⟨⟨by decide +kernel, by decide +kernel⟩, List.mem_of_getElem? (i := 847) (by decide +kernel), List.mem_of_getElem? (i := 940) (by decide +kernel), List.mem_of_getElem? (i := 941) (by decide +kernel)⟩
theorem lw_p15 : lw_okq (⟨"CarpetRealmsModel", "topOf", "(I)I"⟩, 18) := ⟨⟨by decide +kernel, by decide +kernel⟩, List.mem_of_getElem? (i := 847) (by decide +kernel), List.mem_of_getElem? (i := 944) (by decide +kernel), List.mem_of_getElem? (i := 945) (by decide +kernel)⟩
def lw_privs_1 : List (MethodName × Nat) := [(⟨"CarpetRealms", "found", "(I)I"⟩, 9), (⟨"CarpetRealms$World", "addLayer", "(I)V"⟩, 8), (⟨"CarpetRealms", "isRug", "(I)Z"⟩, 9), (⟨"CarpetRealms", "passProbe", "(I)V"⟩, 9), (⟨"CarpetRealms", "daysProbeLies", "()I"⟩, 9), (⟨"CarpetRealms", "bestYardInTrial", "(LCarpetRealms$Rug;)I"⟩, 9), (⟨"CarpetRealms", "isSheet", "(I)Z"⟩, 9), (⟨"CarpetRealms", "sheetFinding", "(I)I"⟩, 9), (⟨"CarpetRealms", "sheetAndRugFinding", "(II)I"⟩, 9), (⟨"CarpetRealms", "probeWearsAs", "(LCarpetRealms$Sheet;)Z"⟩, 9), (⟨"CarpetRealmsModel", "no", "(I)I"⟩, 18), (⟨"CarpetRealmsModel", "liesOn", "(II)Z"⟩, 18), (⟨"CarpetRealmsModel", "get", "(II)I"⟩, 18), (⟨"CarpetRealmsModel", "reachOf", "(I)I"⟩, 18), (⟨"CarpetRealmsModel", "whoseIs", "(I)I"⟩, 18), (⟨"CarpetRealmsModel", "topOf", "(I)I"⟩, 18)]
theorem lw_r1 : ∀ q ∈ lw_privs_1, lw_okq q := List.forall_mem_cons.mpr ⟨lw_p0, List.forall_mem_cons.mpr ⟨lw_p1, List.forall_mem_cons.mpr ⟨lw_p2, List.forall_mem_cons.mpr ⟨lw_p3, List.forall_mem_cons.mpr ⟨lw_p4, List.forall_mem_cons.mpr ⟨lw_p5, List.forall_mem_cons.mpr ⟨lw_p6, List.forall_mem_cons.mpr ⟨lw_p7, List.forall_mem_cons.mpr ⟨lw_p8, List.forall_mem_cons.mpr ⟨lw_p9, List.forall_mem_cons.mpr ⟨lw_p10, List.forall_mem_cons.mpr ⟨lw_p11, List.forall_mem_cons.mpr ⟨lw_p12, List.forall_mem_cons.mpr ⟨lw_p13, List.forall_mem_cons.mpr ⟨lw_p14, List.forall_mem_cons.mpr ⟨lw_p15, fun _ h => absurd h List.not_mem_nil⟩⟩⟩⟩⟩⟩⟩⟩⟩⟩⟩⟩⟩⟩⟩⟩
theorem lw_p16 : lw_okq (⟨"CarpetRealmsModel", "yardsOf", "(I)I"⟩, 18) := ⟨⟨by decide +kernel, by decide +kernel⟩, List.mem_of_getElem? (i := 847) (by decide +kernel), List.mem_of_getElem? (i := 952) (by decide +kernel), List.mem_of_getElem? (i := 953) (by decide +kernel)⟩
theorem lw_p17 : lw_okq (⟨"CarpetRealmsModel", "rains", "()Z"⟩, 18) := ⟨⟨by decide +kernel, by decide +kernel⟩, List.mem_of_getElem? (i := 847) (by decide +kernel), List.mem_of_getElem? (i := 968) (by decide +kernel), List.mem_of_getElem? (i := 969) (by decide +kernel)⟩
theorem lw_p18 : lw_okq (⟨"CarpetRealmsModel", "rolledOut", "()I"⟩, 18) := ⟨⟨by decide +kernel, by decide +kernel⟩, List.mem_of_getElem? (i := 847) (by decide +kernel), List.mem_of_getElem? (i := 972) (by decide +kernel), List.mem_of_getElem? (i := 973) (by decide +kernel)⟩
theorem lw_p19 : lw_okq (⟨"CarpetRealmsModel", "sumOf", "(I)I"⟩, 18) := ⟨⟨by decide +kernel, by decide +kernel⟩, List.mem_of_getElem? (i := 847) (by decide +kernel), List.mem_of_getElem? (i := 976) (by decide +kernel), List.mem_of_getElem? (i := 977) (by decide +kernel)⟩
theorem lw_p20 : lw_okq (⟨"CarpetRealmsModel", "addsCarpet", "(II)V"⟩, 18) := ⟨⟨by decide +kernel, by decide +kernel⟩, List.mem_of_getElem? (i := 847) (by decide +kernel), List.mem_of_getElem? (i := 984) (by decide +kernel), List.mem_of_getElem? (i := 985) (by decide +kernel)⟩
theorem lw_p21 : lw_okq (⟨"CarpetRealmsModel", "puts", "(III)V"⟩, 18) := ⟨⟨by decide +kernel, by decide +kernel⟩, List.mem_of_getElem? (i := 847) (by decide +kernel), List.mem_of_getElem? (i := 988) (by decide +kernel), List.mem_of_getElem? (i := 989) (by decide +kernel)⟩
theorem lw_p22 : lw_okq (⟨"CarpetRealmsModel", "isCarpet", "(I)Z"⟩, 18) := ⟨⟨by decide +kernel, by decide +kernel⟩, List.mem_of_getElem? (i := 847) (by decide +kernel), List.mem_of_getElem? (i := 996) (by decide +kernel), List.mem_of_getElem? (i := 997) (by decide +kernel)⟩
theorem lw_p23 : lw_okq (⟨"CarpetRealmsModel", "wearsOf", "(I)I"⟩, 18) := ⟨⟨by decide +kernel, by decide +kernel⟩, List.mem_of_getElem? (i := 847) (by decide +kernel), List.mem_of_getElem? (i := 1000) (by decide +kernel), List.mem_of_getElem? (i := 1001) (by decide +kernel)⟩
theorem lw_p24 : lw_okq (⟨"CarpetRealmsModel", "breedsOf", "(I)I"⟩, 18) := ⟨⟨by decide +kernel, by decide +kernel⟩, List.mem_of_getElem? (i := 847) (by decide +kernel), List.mem_of_getElem? (i := 1004) (by decide +kernel), List.mem_of_getElem? (i := 1005) (by decide +kernel)⟩
theorem lw_p25 : lw_okq (⟨"CarpetRealmsModel", "beatenOf", "(I)I"⟩, 18) := ⟨⟨by decide +kernel, by decide +kernel⟩, List.mem_of_getElem? (i := 847) (by decide +kernel), List.mem_of_getElem? (i := 1008) (by decide +kernel), List.mem_of_getElem? (i := 1009) (by decide +kernel)⟩
theorem lw_p26 : lw_okq (⟨"CarpetRealmsModel", "rollsOut", "(II)V"⟩, 18) := ⟨⟨by decide +kernel, by decide +kernel⟩, List.mem_of_getElem? (i := 847) (by decide +kernel), List.mem_of_getElem? (i := 1028) (by decide +kernel), List.mem_of_getElem? (i := 1029) (by decide +kernel)⟩
theorem lw_p27 : lw_okq (⟨"CarpetRealmsModel", "goes", "(I)V"⟩, 18) := ⟨⟨by decide +kernel, by decide +kernel⟩, List.mem_of_getElem? (i := 847) (by decide +kernel), List.mem_of_getElem? (i := 1048) (by decide +kernel), List.mem_of_getElem? (i := 1049) (by decide +kernel)⟩
theorem lw_p28 : lw_okq (⟨"CarpetRealmsModel", "ages", "(I)V"⟩, 18) := ⟨⟨by decide +kernel, by decide +kernel⟩, List.mem_of_getElem? (i := 847) (by decide +kernel), List.mem_of_getElem? (i := 1052) (by decide +kernel), List.mem_of_getElem? (i := 1053) (by decide +kernel)⟩
theorem lw_p29 : lw_okq (⟨"CarpetRealmsModel", "setsAside", "()V"⟩, 18) := ⟨⟨by decide +kernel, by decide +kernel⟩, List.mem_of_getElem? (i := 847) (by decide +kernel), List.mem_of_getElem? (i := 1060) (by decide +kernel), List.mem_of_getElem? (i := 1061) (by decide +kernel)⟩
theorem lw_p30 : lw_okq (⟨"CarpetRealmsModel", "laysBack", "()V"⟩, 18) := ⟨⟨by decide +kernel, by decide +kernel⟩, List.mem_of_getElem? (i := 847) (by decide +kernel), List.mem_of_getElem? (i := 1064) (by decide +kernel), List.mem_of_getElem? (i := 1065) (by decide +kernel)⟩
theorem lw_p31 : lw_okq (⟨"CarpetRealmsModel", "hasThen", "(II)I"⟩, 18) := ⟨⟨by decide +kernel, by decide +kernel⟩, List.mem_of_getElem? (i := 847) (by decide +kernel), List.mem_of_getElem? (i := 1072) (by decide +kernel), List.mem_of_getElem? (i := 1073) (by decide +kernel)⟩
def lw_privs_2 : List (MethodName × Nat) := [(⟨"CarpetRealmsModel", "yardsOf", "(I)I"⟩, 18), (⟨"CarpetRealmsModel", "rains", "()Z"⟩, 18), (⟨"CarpetRealmsModel", "rolledOut", "()I"⟩, 18), (⟨"CarpetRealmsModel", "sumOf", "(I)I"⟩, 18), (⟨"CarpetRealmsModel", "addsCarpet", "(II)V"⟩, 18), (⟨"CarpetRealmsModel", "puts", "(III)V"⟩, 18), (⟨"CarpetRealmsModel", "isCarpet", "(I)Z"⟩, 18), (⟨"CarpetRealmsModel", "wearsOf", "(I)I"⟩, 18), (⟨"CarpetRealmsModel", "breedsOf", "(I)I"⟩, 18), (⟨"CarpetRealmsModel", "beatenOf", "(I)I"⟩, 18), (⟨"CarpetRealmsModel", "rollsOut", "(II)V"⟩, 18), (⟨"CarpetRealmsModel", "goes", "(I)V"⟩, 18), (⟨"CarpetRealmsModel", "ages", "(I)V"⟩, 18), (⟨"CarpetRealmsModel", "setsAside", "()V"⟩, 18), (⟨"CarpetRealmsModel", "laysBack", "()V"⟩, 18), (⟨"CarpetRealmsModel", "hasThen", "(II)I"⟩, 18)]
theorem lw_r2 : ∀ q ∈ lw_privs_2, lw_okq q := List.forall_mem_cons.mpr ⟨lw_p16, List.forall_mem_cons.mpr ⟨lw_p17, List.forall_mem_cons.mpr ⟨lw_p18, List.forall_mem_cons.mpr ⟨lw_p19, List.forall_mem_cons.mpr ⟨lw_p20, List.forall_mem_cons.mpr ⟨lw_p21, List.forall_mem_cons.mpr ⟨lw_p22, List.forall_mem_cons.mpr ⟨lw_p23, List.forall_mem_cons.mpr ⟨lw_p24, List.forall_mem_cons.mpr ⟨lw_p25, List.forall_mem_cons.mpr ⟨lw_p26, List.forall_mem_cons.mpr ⟨lw_p27, List.forall_mem_cons.mpr ⟨lw_p28, List.forall_mem_cons.mpr ⟨lw_p29, List.forall_mem_cons.mpr ⟨lw_p30, List.forall_mem_cons.mpr ⟨lw_p31, fun _ h => absurd h List.not_mem_nil⟩⟩⟩⟩⟩⟩⟩⟩⟩⟩⟩⟩⟩⟩⟩⟩
theorem lw_p32 : lw_okq (⟨"CarpetRealmsModel", "firstBy", "(III)I"⟩, 18) := ⟨⟨by decide +kernel, by decide +kernel⟩, List.mem_of_getElem? (i := 847) (by decide +kernel), List.mem_of_getElem? (i := 1080) (by decide +kernel), List.mem_of_getElem? (i := 1081) (by decide +kernel)⟩
theorem lw_p33 : lw_okq (⟨"CarpetRealmsModel", "orNone", "(I)I"⟩, 18) := ⟨⟨by decide +kernel, by decide +kernel⟩, List.mem_of_getElem? (i := 847) (by decide +kernel), List.mem_of_getElem? (i := 1084) (by decide +kernel), List.mem_of_getElem? (i := 1085) (by decide +kernel)⟩
theorem lw_p34 : lw_okq (⟨"CarpetRealmsModel", "hasWithout", "(II)I"⟩, 18) := ⟨⟨by decide +kernel, by decide +kernel⟩, List.mem_of_getElem? (i := 847) (by decide +kernel), List.mem_of_getElem? (i := 1123) (by decide +kernel), List.mem_of_getElem? (i := 1124) (by decide +kernel)⟩
theorem lw_p35 : lw_okq (⟨"CarpetRealmsModel", "nextToken", "()V"⟩, 18) := ⟨⟨by decide +kernel, by decide +kernel⟩, List.mem_of_getElem? (i := 847) (by decide +kernel), List.mem_of_getElem? (i := 1139) (by decide +kernel), List.mem_of_getElem? (i := 1140) (by decide +kernel)⟩
theorem lw_p36 : lw_okq (⟨"CarpetRealmsModel", "readsItem", "()Z"⟩, 18) := ⟨⟨by decide +kernel, by decide +kernel⟩, List.mem_of_getElem? (i := 847) (by decide +kernel), List.mem_of_getElem? (i := 1155) (by decide +kernel), List.mem_of_getElem? (i := 1156) (by decide +kernel)⟩
theorem lw_p37 : lw_okq (⟨"CarpetRealmsModel", "wordOf", "([C)I"⟩, 18) := ⟨⟨by decide +kernel, by decide +kernel⟩, List.mem_of_getElem? (i := 847) (by decide +kernel), List.mem_of_getElem? (i := 1159) (by decide +kernel), List.mem_of_getElem? (i := 1160) (by decide +kernel)⟩
theorem lw_p38 : lw_okq (⟨"CarpetRealmsModel", "readsCarpet", "(I)Z"⟩, 18) := ⟨⟨by decide +kernel, by decide +kernel⟩, List.mem_of_getElem? (i := 847) (by decide +kernel), List.mem_of_getElem? (i := 1163) (by decide +kernel), List.mem_of_getElem? (i := 1164) (by decide +kernel)⟩
theorem lw_p39 : lw_okq (⟨"CarpetRealmsModel", "takesNumber", "(II)I"⟩, 18) := ⟨⟨by decide +kernel, by decide +kernel⟩, List.mem_of_getElem? (i := 847) (by decide +kernel), List.mem_of_getElem? (i := 1167) (by decide +kernel), List.mem_of_getElem? (i := 1168) (by decide +kernel)⟩
theorem lw_p40 : lw_okq (⟨"CarpetRealmsModel", "isUpTold", "()Z"⟩, 18) := ⟨⟨by decide +kernel, by decide +kernel⟩, List.mem_of_getElem? (i := 847) (by decide +kernel), List.mem_of_getElem? (i := 1171) (by decide +kernel), List.mem_of_getElem? (i := 1172) (by decide +kernel)⟩
theorem lw_p41 : lw_okq (⟨"CarpetRealmsModel", "readsUp", "()Z"⟩, 18) := ⟨⟨by decide +kernel, by decide +kernel⟩, List.mem_of_getElem? (i := 847) (by decide +kernel), List.mem_of_getElem? (i := 1175) (by decide +kernel), List.mem_of_getElem? (i := 1176) (by decide +kernel)⟩
theorem lw_p42 : lw_okq (⟨"CarpetRealmsModel", "wrongSheet", "(I)I"⟩, 18) := ⟨⟨by decide +kernel, by decide +kernel⟩, List.mem_of_getElem? (i := 847) (by decide +kernel), List.mem_of_getElem? (i := 1190) (by decide +kernel), List.mem_of_getElem? (i := 1191) (by decide +kernel)⟩
theorem lw_p43 : lw_okq (⟨"CarpetRealmsModel", "told", "(II)J"⟩, 18) := ⟨⟨by decide +kernel, by decide +kernel⟩, List.mem_of_getElem? (i := 847) (by decide +kernel), List.mem_of_getElem? (i := 1194) (by decide +kernel), List.mem_of_getElem? (i := 1195) (by decide +kernel)⟩
theorem lw_p44 : lw_okq (⟨"CarpetRealmsModel", "tells", "(IIJ)V"⟩, 18) := ⟨⟨by decide +kernel, by decide +kernel⟩, List.mem_of_getElem? (i := 847) (by decide +kernel), List.mem_of_getElem? (i := 1198) (by decide +kernel), List.mem_of_getElem? (i := 1199) (by decide +kernel)⟩
theorem lw_p45 : lw_okq (⟨"CarpetRealmsModel", "wrongWith", "(II)I"⟩, 18) := ⟨⟨by decide +kernel, by decide +kernel⟩, List.mem_of_getElem? (i := 847) (by decide +kernel), List.mem_of_getElem? (i := 1215) (by decide +kernel), List.mem_of_getElem? (i := 1216) (by decide +kernel)⟩
theorem lw_p46 : lw_okq (⟨"CarpetRealmsModel", "isSo", "(II)Z"⟩, 18) := ⟨⟨by decide +kernel, by decide +kernel⟩, List.mem_of_getElem? (i := 847) (by decide +kernel), List.mem_of_getElem? (i := 1223) (by decide +kernel), List.mem_of_getElem? (i := 1224) (by decide +kernel)⟩
def lw_privs_3 : List (MethodName × Nat) := [(⟨"CarpetRealmsModel", "firstBy", "(III)I"⟩, 18), (⟨"CarpetRealmsModel", "orNone", "(I)I"⟩, 18), (⟨"CarpetRealmsModel", "hasWithout", "(II)I"⟩, 18), (⟨"CarpetRealmsModel", "nextToken", "()V"⟩, 18), (⟨"CarpetRealmsModel", "readsItem", "()Z"⟩, 18), (⟨"CarpetRealmsModel", "wordOf", "([C)I"⟩, 18), (⟨"CarpetRealmsModel", "readsCarpet", "(I)Z"⟩, 18), (⟨"CarpetRealmsModel", "takesNumber", "(II)I"⟩, 18), (⟨"CarpetRealmsModel", "isUpTold", "()Z"⟩, 18), (⟨"CarpetRealmsModel", "readsUp", "()Z"⟩, 18), (⟨"CarpetRealmsModel", "wrongSheet", "(I)I"⟩, 18), (⟨"CarpetRealmsModel", "told", "(II)J"⟩, 18), (⟨"CarpetRealmsModel", "tells", "(IIJ)V"⟩, 18), (⟨"CarpetRealmsModel", "wrongWith", "(II)I"⟩, 18), (⟨"CarpetRealmsModel", "isSo", "(II)Z"⟩, 18)]
theorem lw_r3 : ∀ q ∈ lw_privs_3, lw_okq q := List.forall_mem_cons.mpr ⟨lw_p32, List.forall_mem_cons.mpr ⟨lw_p33, List.forall_mem_cons.mpr ⟨lw_p34, List.forall_mem_cons.mpr ⟨lw_p35, List.forall_mem_cons.mpr ⟨lw_p36, List.forall_mem_cons.mpr ⟨lw_p37, List.forall_mem_cons.mpr ⟨lw_p38, List.forall_mem_cons.mpr ⟨lw_p39, List.forall_mem_cons.mpr ⟨lw_p40, List.forall_mem_cons.mpr ⟨lw_p41, List.forall_mem_cons.mpr ⟨lw_p42, List.forall_mem_cons.mpr ⟨lw_p43, List.forall_mem_cons.mpr ⟨lw_p44, List.forall_mem_cons.mpr ⟨lw_p45, List.forall_mem_cons.mpr ⟨lw_p46, fun _ h => absurd h List.not_mem_nil⟩⟩⟩⟩⟩⟩⟩⟩⟩⟩⟩⟩⟩⟩⟩
def lw_privs : List (MethodName × Nat) := lw_privs_1 ++ (lw_privs_2 ++ (lw_privs_3))
def lw_tbl : List Cond := k2_sels lw_privs ++ tables_1
theorem lw_privs_ok : ∀ q ∈ lw_privs, lw_okq q := by
  show ∀ q ∈ lw_privs_1 ++ (lw_privs_2 ++ (lw_privs_3)), lw_okq q
  exact List.forall_mem_append.mpr ⟨lw_r1, List.forall_mem_append.mpr ⟨lw_r2, lw_r3⟩⟩
end
section
/-- the words that hold on: what every method of ours takes as given -/
def TB : List Cond := lw_tbl.filter goodWord
theorem tbm {w : Cond} (h : w ∈ lw_tbl) (hg : goodWord w = true) : w ∈ TB := List.mem_filter.mpr ⟨h, hg⟩
theorem tbGood {w : Cond} (h : w ∈ TB) : (w.onTables && w.keeps) = true ∨ ∃ ty, w = .arrayClass ty := good_of_word (List.mem_filter.mp h).2
theorem tbAll {w : Cond} (h : w ∈ TB) : w ∈ lw_tbl := (List.mem_filter.mp h).1
theorem tbp (i : Nat) {w : Cond} (h : ((k2_sels lw_privs)[i]? == some w && goodWord w) = true) : w ∈ TB := by
  rw [Bool.and_eq_true] at h
  exact tbm (List.mem_append_left _ (List.mem_of_getElem? (eq_of_beq h.1))) h.2
theorem tb1 (i : Nat) {w : Cond} (h : tables_1_1[i]? = some w) (hg : goodWord w = true) : w ∈ TB := tbm (List.mem_append_right _ (List.mem_append_left _ (List.mem_of_getElem? h))) hg
theorem tb2 (i : Nat) {w : Cond} (h : tables_1_2[i]? = some w) (hg : goodWord w = true) : w ∈ TB := tbm (List.mem_append_right _ (List.mem_append_right _ (List.mem_append_left _ (List.mem_of_getElem? h)))) hg
theorem tb3 (i : Nat) {w : Cond} (h : tables_1_3[i]? = some w) (hg : goodWord w = true) : w ∈ TB := tbm (List.mem_append_right _ (List.mem_append_right _ (List.mem_append_right _ (List.mem_append_left _ (List.mem_of_getElem? h))))) hg
theorem tb4 (i : Nat) {w : Cond} (h : tables_1_4[i]? = some w) (hg : goodWord w = true) : w ∈ TB := tbm (List.mem_append_right _ (List.mem_append_right _ (List.mem_append_right _ (List.mem_append_right _ (List.mem_append_left _ (List.mem_of_getElem? h)))))) hg
theorem tb5 (i : Nat) {w : Cond} (h : tables_1_5[i]? = some w) (hg : goodWord w = true) : w ∈ TB := tbm (List.mem_append_right _ (List.mem_append_right _ (List.mem_append_right _ (List.mem_append_right _ (List.mem_append_right _ (List.mem_append_left _ (List.mem_of_getElem? h))))))) hg
theorem tb6 (i : Nat) {w : Cond} (h : tables_1_6[i]? = some w) (hg : goodWord w = true) : w ∈ TB := tbm (List.mem_append_right _ (List.mem_append_right _ (List.mem_append_right _ (List.mem_append_right _ (List.mem_append_right _ (List.mem_append_right _ (List.mem_of_getElem? h))))))) hg
def R_Kind : String := "CarpetRealms$Kind"
def R_Mat : String := "CarpetRealms$Mat"
def R_PalaceReader : String := "CarpetRealms$PalaceReader"
def R_Rug : String := "CarpetRealms$Rug"
def R_Runner : String := "CarpetRealms$Runner"
def R_Shag : String := "CarpetRealms$Shag"
def R_Sheet : String := "CarpetRealms$Sheet"
def R_Stair : String := "CarpetRealms$Stair"
def R_Tape : String := "CarpetRealms$Tape"
def R_Velvet : String := "CarpetRealms$Velvet"
def R_World : String := "CarpetRealms$World"
def R_X : String := "CarpetRealms"
def R_M : String := "CarpetRealmsModel"
def R_Integer : String := "java/lang/Integer"
def R_Long : String := "java/lang/Long"
def R_Math : String := "java/lang/Math"
def R_String : String := "java/lang/String"
def R_StringLatin1 : String := "java/lang/StringLatin1"
def R_StringUTF16 : String := "java/lang/StringUTF16"
def R_System : String := "java/lang/System"
def R_Preconditions : String := "jdk/internal/util/Preconditions"
def T_Kind : u_T := fun k => match k with
  | 0 => ("CarpetRealms$Kind", "number", "I", true)
  | 1 => ("CarpetRealms$Kind", "name", "Ljava/lang/String;", true)
  | _ => ("CarpetRealms$Kind", "above", "LCarpetRealms$Kind;", true)
def ty_Kind : Nat → FieldType := fun k => match k with
  | 0 => .int
  | 1 => .object "java/lang/String"
  | _ => .object "CarpetRealms$Kind"
theorem nm_Kind : ∀ a, a < 3 → ∀ b, b < 3 → a ≠ b → (T_Kind a).2.1 ≠ (T_Kind b).2.1 := by decide +kernel
theorem tyok_Kind : ∀ k, k < 3 → parseFieldDescriptor (T_Kind k).2.2.1 = some (ty_Kind k) := by decide +kernel
theorem in_Kind : ∀ w ∈ u_ws R_Kind T_Kind 3, w ∈ TB := by
  intro w h
  obtain ⟨i, hi⟩ := List.getElem?_of_mem h
  match i, hi with
  | 0, hi => exact (Option.some.inj hi) ▸ (tb1 42 (by decide +kernel) (by decide +kernel))
  | 1, hi => exact (Option.some.inj hi) ▸ (tb1 44 (by decide +kernel) (by decide +kernel))
  | 2, hi => exact (Option.some.inj hi) ▸ (tb1 46 (by decide +kernel) (by decide +kernel))
  | i + 3, hi => exact absurd hi (by simp [u_ws])
def T_Mat : u_T := fun k => match k with
  | 0 => ("CarpetRealms$Kind", "number", "I", true)
  | 1 => ("CarpetRealms$Kind", "name", "Ljava/lang/String;", true)
  | _ => ("CarpetRealms$Kind", "above", "LCarpetRealms$Kind;", true)
def ty_Mat : Nat → FieldType := fun k => match k with
  | 0 => .int
  | 1 => .object "java/lang/String"
  | _ => .object "CarpetRealms$Kind"
theorem nm_Mat : ∀ a, a < 3 → ∀ b, b < 3 → a ≠ b → (T_Mat a).2.1 ≠ (T_Mat b).2.1 := by decide +kernel
theorem tyok_Mat : ∀ k, k < 3 → parseFieldDescriptor (T_Mat k).2.2.1 = some (ty_Mat k) := by decide +kernel
theorem in_Mat : ∀ w ∈ u_ws R_Mat T_Mat 3, w ∈ TB := by
  intro w h
  obtain ⟨i, hi⟩ := List.getElem?_of_mem h
  match i, hi with
  | 0, hi => exact (Option.some.inj hi) ▸ (tb1 79 (by decide +kernel) (by decide +kernel))
  | 1, hi => exact (Option.some.inj hi) ▸ (tb1 80 (by decide +kernel) (by decide +kernel))
  | 2, hi => exact (Option.some.inj hi) ▸ (tb1 81 (by decide +kernel) (by decide +kernel))
  | i + 3, hi => exact absurd hi (by simp [u_ws])
def T_Rug : u_T := fun k => match k with
  | 0 => ("CarpetRealms$Rug", "kind", "LCarpetRealms$Kind;", false)
  | 1 => ("CarpetRealms$Rug", "realm", "I", false)
  | 2 => ("CarpetRealms$Rug", "yardsLong", "I", false)
  | 3 => ("CarpetRealms$Rug", "pile", "I", false)
  | 4 => ("CarpetRealms$Rug", "moths", "I", false)
  | 5 => ("CarpetRealms$Rug", "from", "I", false)
  | _ => ("CarpetRealms$Rug", "rolledAt", "I", false)
def ty_Rug : Nat → FieldType := fun k => match k with
  | 0 => .object "CarpetRealms$Kind"
  | 1 => .int
  | 2 => .int
  | 3 => .int
  | 4 => .int
  | 5 => .int
  | _ => .int
theorem nm_Rug : ∀ a, a < 7 → ∀ b, b < 7 → a ≠ b → (T_Rug a).2.1 ≠ (T_Rug b).2.1 := by decide +kernel
theorem tyok_Rug : ∀ k, k < 7 → parseFieldDescriptor (T_Rug k).2.2.1 = some (ty_Rug k) := by decide +kernel
theorem in_Rug : ∀ w ∈ u_ws R_Rug T_Rug 7, w ∈ TB := by
  intro w h
  obtain ⟨i, hi⟩ := List.getElem?_of_mem h
  match i, hi with
  | 0, hi => exact (Option.some.inj hi) ▸ (tb1 144 (by decide +kernel) (by decide +kernel))
  | 1, hi => exact (Option.some.inj hi) ▸ (tb1 146 (by decide +kernel) (by decide +kernel))
  | 2, hi => exact (Option.some.inj hi) ▸ (tb1 148 (by decide +kernel) (by decide +kernel))
  | 3, hi => exact (Option.some.inj hi) ▸ (tb1 150 (by decide +kernel) (by decide +kernel))
  | 4, hi => exact (Option.some.inj hi) ▸ (tb1 152 (by decide +kernel) (by decide +kernel))
  | 5, hi => exact (Option.some.inj hi) ▸ (tb1 154 (by decide +kernel) (by decide +kernel))
  | 6, hi => exact (Option.some.inj hi) ▸ (tb1 156 (by decide +kernel) (by decide +kernel))
  | i + 7, hi => exact absurd hi (by simp [u_ws])
def T_Runner : u_T := fun k => match k with
  | 0 => ("CarpetRealms$Kind", "number", "I", true)
  | 1 => ("CarpetRealms$Kind", "name", "Ljava/lang/String;", true)
  | _ => ("CarpetRealms$Kind", "above", "LCarpetRealms$Kind;", true)
def ty_Runner : Nat → FieldType := fun k => match k with
  | 0 => .int
  | 1 => .object "java/lang/String"
  | _ => .object "CarpetRealms$Kind"
theorem nm_Runner : ∀ a, a < 3 → ∀ b, b < 3 → a ≠ b → (T_Runner a).2.1 ≠ (T_Runner b).2.1 := by decide +kernel
theorem tyok_Runner : ∀ k, k < 3 → parseFieldDescriptor (T_Runner k).2.2.1 = some (ty_Runner k) := by decide +kernel
theorem in_Runner : ∀ w ∈ u_ws R_Runner T_Runner 3, w ∈ TB := by
  intro w h
  obtain ⟨i, hi⟩ := List.getElem?_of_mem h
  match i, hi with
  | 0, hi => exact (Option.some.inj hi) ▸ (tb1 57 (by decide +kernel) (by decide +kernel))
  | 1, hi => exact (Option.some.inj hi) ▸ (tb1 58 (by decide +kernel) (by decide +kernel))
  | 2, hi => exact (Option.some.inj hi) ▸ (tb1 59 (by decide +kernel) (by decide +kernel))
  | i + 3, hi => exact absurd hi (by simp [u_ws])
def T_Shag : u_T := fun k => match k with
  | 0 => ("CarpetRealms$Kind", "number", "I", true)
  | 1 => ("CarpetRealms$Kind", "name", "Ljava/lang/String;", true)
  | _ => ("CarpetRealms$Kind", "above", "LCarpetRealms$Kind;", true)
def ty_Shag : Nat → FieldType := fun k => match k with
  | 0 => .int
  | 1 => .object "java/lang/String"
  | _ => .object "CarpetRealms$Kind"
theorem nm_Shag : ∀ a, a < 3 → ∀ b, b < 3 → a ≠ b → (T_Shag a).2.1 ≠ (T_Shag b).2.1 := by decide +kernel
theorem tyok_Shag : ∀ k, k < 3 → parseFieldDescriptor (T_Shag k).2.2.1 = some (ty_Shag k) := by decide +kernel
theorem in_Shag : ∀ w ∈ u_ws R_Shag T_Shag 3, w ∈ TB := by
  intro w h
  obtain ⟨i, hi⟩ := List.getElem?_of_mem h
  match i, hi with
  | 0, hi => exact (Option.some.inj hi) ▸ (tb1 101 (by decide +kernel) (by decide +kernel))
  | 1, hi => exact (Option.some.inj hi) ▸ (tb1 102 (by decide +kernel) (by decide +kernel))
  | 2, hi => exact (Option.some.inj hi) ▸ (tb1 103 (by decide +kernel) (by decide +kernel))
  | i + 3, hi => exact absurd hi (by simp [u_ws])
def T_Sheet : u_T := fun k => match k with
  | 0 => ("CarpetRealms$Sheet", "numbers", "[J", true)
  | 1 => ("CarpetRealms$Sheet", "bits", "I", false)
  | _ => ("CarpetRealms$Sheet", "length", "I", false)
def ty_Sheet : Nat → FieldType := fun k => match k with
  | 0 => .array (.long)
  | 1 => .int
  | _ => .int
theorem nm_Sheet : ∀ a, a < 3 → ∀ b, b < 3 → a ≠ b → (T_Sheet a).2.1 ≠ (T_Sheet b).2.1 := by decide +kernel
theorem tyok_Sheet : ∀ k, k < 3 → parseFieldDescriptor (T_Sheet k).2.2.1 = some (ty_Sheet k) := by decide +kernel
theorem in_Sheet : ∀ w ∈ u_ws R_Sheet T_Sheet 3, w ∈ TB := by
  intro w h
  obtain ⟨i, hi⟩ := List.getElem?_of_mem h
  match i, hi with
  | 0, hi => exact (Option.some.inj hi) ▸ (tb1 237 (by decide +kernel) (by decide +kernel))
  | 1, hi => exact (Option.some.inj hi) ▸ (tb1 239 (by decide +kernel) (by decide +kernel))
  | 2, hi => exact (Option.some.inj hi) ▸ (tb2 1 (by decide +kernel) (by decide +kernel))
  | i + 3, hi => exact absurd hi (by simp [u_ws])
def T_Stair : u_T := fun k => match k with
  | 0 => ("CarpetRealms$Kind", "number", "I", true)
  | 1 => ("CarpetRealms$Kind", "name", "Ljava/lang/String;", true)
  | _ => ("CarpetRealms$Kind", "above", "LCarpetRealms$Kind;", true)
def ty_Stair : Nat → FieldType := fun k => match k with
  | 0 => .int
  | 1 => .object "java/lang/String"
  | _ => .object "CarpetRealms$Kind"
theorem nm_Stair : ∀ a, a < 3 → ∀ b, b < 3 → a ≠ b → (T_Stair a).2.1 ≠ (T_Stair b).2.1 := by decide +kernel
theorem tyok_Stair : ∀ k, k < 3 → parseFieldDescriptor (T_Stair k).2.2.1 = some (ty_Stair k) := by decide +kernel
theorem in_Stair : ∀ w ∈ u_ws R_Stair T_Stair 3, w ∈ TB := by
  intro w h
  obtain ⟨i, hi⟩ := List.getElem?_of_mem h
  match i, hi with
  | 0, hi => exact (Option.some.inj hi) ▸ (tb1 90 (by decide +kernel) (by decide +kernel))
  | 1, hi => exact (Option.some.inj hi) ▸ (tb1 91 (by decide +kernel) (by decide +kernel))
  | 2, hi => exact (Option.some.inj hi) ▸ (tb1 92 (by decide +kernel) (by decide +kernel))
  | i + 3, hi => exact absurd hi (by simp [u_ws])
def T_Tape : u_T := fun k => match k with
  | 0 => ("CarpetRealms$Tape", "bytes", "[I", true)
  | 1 => ("CarpetRealms$Tape", "length", "I", false)
  | 2 => ("CarpetRealms$Tape", "token", "I", false)
  | 3 => ("CarpetRealms$Tape", "start", "I", false)
  | 4 => ("CarpetRealms$Tape", "end", "I", false)
  | _ => ("CarpetRealms$Tape", "value", "I", false)
def ty_Tape : Nat → FieldType := fun k => match k with
  | 0 => .array (.int)
  | 1 => .int
  | 2 => .int
  | 3 => .int
  | 4 => .int
  | _ => .int
theorem nm_Tape : ∀ a, a < 6 → ∀ b, b < 6 → a ≠ b → (T_Tape a).2.1 ≠ (T_Tape b).2.1 := by decide +kernel
theorem tyok_Tape : ∀ k, k < 6 → parseFieldDescriptor (T_Tape k).2.2.1 = some (ty_Tape k) := by decide +kernel
theorem in_Tape : ∀ w ∈ u_ws R_Tape T_Tape 6, w ∈ TB := by
  intro w h
  obtain ⟨i, hi⟩ := List.getElem?_of_mem h
  match i, hi with
  | 0, hi => exact (Option.some.inj hi) ▸ (tb1 211 (by decide +kernel) (by decide +kernel))
  | 1, hi => exact (Option.some.inj hi) ▸ (tb1 213 (by decide +kernel) (by decide +kernel))
  | 2, hi => exact (Option.some.inj hi) ▸ (tb1 215 (by decide +kernel) (by decide +kernel))
  | 3, hi => exact (Option.some.inj hi) ▸ (tb1 217 (by decide +kernel) (by decide +kernel))
  | 4, hi => exact (Option.some.inj hi) ▸ (tb1 219 (by decide +kernel) (by decide +kernel))
  | 5, hi => exact (Option.some.inj hi) ▸ (tb1 221 (by decide +kernel) (by decide +kernel))
  | i + 6, hi => exact absurd hi (by simp [u_ws])
def T_Velvet : u_T := fun k => match k with
  | 0 => ("CarpetRealms$Kind", "number", "I", true)
  | 1 => ("CarpetRealms$Kind", "name", "Ljava/lang/String;", true)
  | _ => ("CarpetRealms$Kind", "above", "LCarpetRealms$Kind;", true)
def ty_Velvet : Nat → FieldType := fun k => match k with
  | 0 => .int
  | 1 => .object "java/lang/String"
  | _ => .object "CarpetRealms$Kind"
theorem nm_Velvet : ∀ a, a < 3 → ∀ b, b < 3 → a ≠ b → (T_Velvet a).2.1 ≠ (T_Velvet b).2.1 := by decide +kernel
theorem tyok_Velvet : ∀ k, k < 3 → parseFieldDescriptor (T_Velvet k).2.2.1 = some (ty_Velvet k) := by decide +kernel
theorem in_Velvet : ∀ w ∈ u_ws R_Velvet T_Velvet 3, w ∈ TB := by
  intro w h
  obtain ⟨i, hi⟩ := List.getElem?_of_mem h
  match i, hi with
  | 0, hi => exact (Option.some.inj hi) ▸ (tb1 68 (by decide +kernel) (by decide +kernel))
  | 1, hi => exact (Option.some.inj hi) ▸ (tb1 69 (by decide +kernel) (by decide +kernel))
  | 2, hi => exact (Option.some.inj hi) ▸ (tb1 70 (by decide +kernel) (by decide +kernel))
  | i + 3, hi => exact absurd hi (by simp [u_ws])
def T_World : u_T := fun k => match k with
  | 0 => ("CarpetRealms$World", "rugs", "[LCarpetRealms$Rug;", true)
  | 1 => ("CarpetRealms$World", "rain", "[I", true)
  | 2 => ("CarpetRealms$World", "count", "I", false)
  | 3 => ("CarpetRealms$World", "day", "I", false)
  | 4 => ("CarpetRealms$World", "rolls", "I", false)
  | 5 => ("CarpetRealms$World", "layers", "[I", true)
  | 6 => ("CarpetRealms$World", "spans", "[J", true)
  | _ => ("CarpetRealms$World", "layerCount", "I", false)
def ty_World : Nat → FieldType := fun k => match k with
  | 0 => .array (.object "CarpetRealms$Rug")
  | 1 => .array (.int)
  | 2 => .int
  | 3 => .int
  | 4 => .int
  | 5 => .array (.int)
  | 6 => .array (.long)
  | _ => .int
theorem nm_World : ∀ a, a < 8 → ∀ b, b < 8 → a ≠ b → (T_World a).2.1 ≠ (T_World b).2.1 := by decide +kernel
theorem tyok_World : ∀ k, k < 8 → parseFieldDescriptor (T_World k).2.2.1 = some (ty_World k) := by decide +kernel
theorem in_World : ∀ w ∈ u_ws R_World T_World 8, w ∈ TB := by
  intro w h
  obtain ⟨i, hi⟩ := List.getElem?_of_mem h
  match i, hi with
  | 0, hi => exact (Option.some.inj hi) ▸ (tb1 175 (by decide +kernel) (by decide +kernel))
  | 1, hi => exact (Option.some.inj hi) ▸ (tb1 177 (by decide +kernel) (by decide +kernel))
  | 2, hi => exact (Option.some.inj hi) ▸ (tb1 179 (by decide +kernel) (by decide +kernel))
  | 3, hi => exact (Option.some.inj hi) ▸ (tb1 181 (by decide +kernel) (by decide +kernel))
  | 4, hi => exact (Option.some.inj hi) ▸ (tb1 183 (by decide +kernel) (by decide +kernel))
  | 5, hi => exact (Option.some.inj hi) ▸ (tb1 185 (by decide +kernel) (by decide +kernel))
  | 6, hi => exact (Option.some.inj hi) ▸ (tb1 187 (by decide +kernel) (by decide +kernel))
  | 7, hi => exact (Option.some.inj hi) ▸ (tb1 189 (by decide +kernel) (by decide +kernel))
  | i + 8, hi => exact absurd hi (by simp [u_ws])
def T_X : u_T := fun k => match k with
  | 0 => ("CarpetRealms", "kinds", "[LCarpetRealms$Kind;", true)
  | 1 => ("CarpetRealms", "world", "LCarpetRealms$World;", true)
  | 2 => ("CarpetRealms", "kept", "LCarpetRealms$World;", true)
  | 3 => ("CarpetRealms", "trial", "LCarpetRealms$World;", true)
  | 4 => ("CarpetRealms", "probe", "LCarpetRealms$Rug;", true)
  | 5 => ("CarpetRealms", "tape", "LCarpetRealms$Tape;", true)
  | 6 => ("CarpetRealms", "sheets", "[LCarpetRealms$Sheet;", true)
  | 7 => ("CarpetRealms", "tallies", "[I", true)
  | _ => ("CarpetRealms", "hasImage", "Z", false)
def ty_X : Nat → FieldType := fun k => match k with
  | 0 => .array (.object "CarpetRealms$Kind")
  | 1 => .object "CarpetRealms$World"
  | 2 => .object "CarpetRealms$World"
  | 3 => .object "CarpetRealms$World"
  | 4 => .object "CarpetRealms$Rug"
  | 5 => .object "CarpetRealms$Tape"
  | 6 => .array (.object "CarpetRealms$Sheet")
  | 7 => .array (.int)
  | _ => .boolean
theorem nm_X : ∀ a, a < 9 → ∀ b, b < 9 → a ≠ b → (T_X a).2.1 ≠ (T_X b).2.1 := by decide +kernel
theorem tyok_X : ∀ k, k < 9 → parseFieldDescriptor (T_X k).2.2.1 = some (ty_X k) := by decide +kernel
theorem in_X : ∀ w ∈ u_ws R_X T_X 9, w ∈ TB := by
  intro w h
  obtain ⟨i, hi⟩ := List.getElem?_of_mem h
  match i, hi with
  | 0, hi => exact (Option.some.inj hi) ▸ (tb2 13 (by decide +kernel) (by decide +kernel))
  | 1, hi => exact (Option.some.inj hi) ▸ (tb2 15 (by decide +kernel) (by decide +kernel))
  | 2, hi => exact (Option.some.inj hi) ▸ (tb2 17 (by decide +kernel) (by decide +kernel))
  | 3, hi => exact (Option.some.inj hi) ▸ (tb2 19 (by decide +kernel) (by decide +kernel))
  | 4, hi => exact (Option.some.inj hi) ▸ (tb2 21 (by decide +kernel) (by decide +kernel))
  | 5, hi => exact (Option.some.inj hi) ▸ (tb2 23 (by decide +kernel) (by decide +kernel))
  | 6, hi => exact (Option.some.inj hi) ▸ (tb2 25 (by decide +kernel) (by decide +kernel))
  | 7, hi => exact (Option.some.inj hi) ▸ (tb2 27 (by decide +kernel) (by decide +kernel))
  | 8, hi => exact (Option.some.inj hi) ▸ (tb2 29 (by decide +kernel) (by decide +kernel))
  | i + 9, hi => exact absurd hi (by simp [u_ws])
def T_M : u_T := fun k => match k with
  | 0 => ("CarpetRealmsModel", "s", "[I", true)
  | 1 => ("CarpetRealmsModel", "kept", "[I", true)
  | 2 => ("CarpetRealmsModel", "aside", "[I", true)
  | 3 => ("CarpetRealmsModel", "isKept", "Z", false)
  | 4 => ("CarpetRealmsModel", "found", "[I", true)
  | 5 => ("CarpetRealmsModel", "tape", "[I", true)
  | 6 => ("CarpetRealmsModel", "taped", "I", false)
  | 7 => ("CarpetRealmsModel", "token", "I", false)
  | 8 => ("CarpetRealmsModel", "begun", "I", false)
  | 9 => ("CarpetRealmsModel", "ended", "I", false)
  | 10 => ("CarpetRealmsModel", "value", "J", false)
  | 11 => ("CarpetRealmsModel", "letters", "[C", true)
  | 12 => ("CarpetRealmsModel", "more", "[C", true)
  | 13 => ("CarpetRealmsModel", "others", "[C", true)
  | 14 => ("CarpetRealmsModel", "widths", "[I", true)
  | 15 => ("CarpetRealmsModel", "sizes", "[I", true)
  | 16 => ("CarpetRealmsModel", "cells", "[J", true)
  | _ => ("CarpetRealmsModel", "carried", "[J", true)
def ty_M : Nat → FieldType := fun k => match k with
  | 0 => .array (.int)
  | 1 => .array (.int)
  | 2 => .array (.int)
  | 3 => .boolean
  | 4 => .array (.int)
  | 5 => .array (.int)
  | 6 => .int
  | 7 => .int
  | 8 => .int
  | 9 => .int
  | 10 => .long
  | 11 => .array (.char)
  | 12 => .array (.char)
  | 13 => .array (.char)
  | 14 => .array (.int)
  | 15 => .array (.int)
  | 16 => .array (.long)
  | _ => .array (.long)
theorem nm_M : ∀ a, a < 18 → ∀ b, b < 18 → a ≠ b → (T_M a).2.1 ≠ (T_M b).2.1 := by decide +kernel
theorem tyok_M : ∀ k, k < 18 → parseFieldDescriptor (T_M k).2.2.1 = some (ty_M k) := by decide +kernel
theorem in_M : ∀ w ∈ u_ws R_M T_M 18, w ∈ TB := by
  intro w h
  obtain ⟨i, hi⟩ := List.getElem?_of_mem h
  match i, hi with
  | 0, hi => exact (Option.some.inj hi) ▸ (tb4 150 (by decide +kernel) (by decide +kernel))
  | 1, hi => exact (Option.some.inj hi) ▸ (tb4 152 (by decide +kernel) (by decide +kernel))
  | 2, hi => exact (Option.some.inj hi) ▸ (tb4 154 (by decide +kernel) (by decide +kernel))
  | 3, hi => exact (Option.some.inj hi) ▸ (tb4 156 (by decide +kernel) (by decide +kernel))
  | 4, hi => exact (Option.some.inj hi) ▸ (tb4 158 (by decide +kernel) (by decide +kernel))
  | 5, hi => exact (Option.some.inj hi) ▸ (tb4 160 (by decide +kernel) (by decide +kernel))
  | 6, hi => exact (Option.some.inj hi) ▸ (tb4 162 (by decide +kernel) (by decide +kernel))
  | 7, hi => exact (Option.some.inj hi) ▸ (tb4 164 (by decide +kernel) (by decide +kernel))
  | 8, hi => exact (Option.some.inj hi) ▸ (tb4 166 (by decide +kernel) (by decide +kernel))
  | 9, hi => exact (Option.some.inj hi) ▸ (tb4 168 (by decide +kernel) (by decide +kernel))
  | 10, hi => exact (Option.some.inj hi) ▸ (tb4 170 (by decide +kernel) (by decide +kernel))
  | 11, hi => exact (Option.some.inj hi) ▸ (tb4 172 (by decide +kernel) (by decide +kernel))
  | 12, hi => exact (Option.some.inj hi) ▸ (tb4 174 (by decide +kernel) (by decide +kernel))
  | 13, hi => exact (Option.some.inj hi) ▸ (tb4 176 (by decide +kernel) (by decide +kernel))
  | 14, hi => exact (Option.some.inj hi) ▸ (tb4 178 (by decide +kernel) (by decide +kernel))
  | 15, hi => exact (Option.some.inj hi) ▸ (tb4 180 (by decide +kernel) (by decide +kernel))
  | 16, hi => exact (Option.some.inj hi) ▸ (tb4 182 (by decide +kernel) (by decide +kernel))
  | 17, hi => exact (Option.some.inj hi) ▸ (tb4 184 (by decide +kernel) (by decide +kernel))
  | i + 18, hi => exact absurd hi (by simp [u_ws])
abbrev classes : List vw_C := [(R_Kind, T_Kind, 3), (R_Mat, T_Mat, 3), (R_Rug, T_Rug, 7), (R_Runner, T_Runner, 3), (R_Shag, T_Shag, 3), (R_Sheet, T_Sheet, 3), (R_Stair, T_Stair, 3), (R_Tape, T_Tape, 6), (R_Velvet, T_Velvet, 3), (R_World, T_World, 8), (R_X, T_X, 9), (R_M, T_M, 18)]
def y_Kind_init : MethodName := ⟨R_Kind, "<init>", "(ILjava/lang/String;LCarpetRealms$Kind;)V"⟩
abbrev c_Kind_init : ByteArray := prog_2_method_1_code
theorem k_Kind_init : Cond.code y_Kind_init c_Kind_init 4 none ∈ TB := tb1 35 rfl rfl
def y_Kind_isOrIsUnder : MethodName := ⟨R_Kind, "isOrIsUnder", "(I)Z"⟩
abbrev c_Kind_isOrIsUnder : ByteArray := prog_2_method_2_code
theorem k_Kind_isOrIsUnder : Cond.code y_Kind_isOrIsUnder c_Kind_isOrIsUnder 3 (some .boolean) ∈ TB := tb3 42 rfl rfl
def y_Kind_reaches : MethodName := ⟨R_Kind, "reaches", "(LCarpetRealms$Rug;)I"⟩
abbrev c_Kind_reaches : ByteArray := prog_2_method_3_code
theorem k_Kind_reaches : Cond.code y_Kind_reaches c_Kind_reaches 2 (some .int) ∈ TB := tb2 93 rfl rfl
def y_Kind_wears : MethodName := ⟨R_Kind, "wears", "(LCarpetRealms$Rug;I)I"⟩
abbrev c_Kind_wears : ByteArray := prog_2_method_4_code
theorem k_Kind_wears : Cond.code y_Kind_wears c_Kind_wears 3 (some .int) ∈ TB := tb2 214 rfl rfl
def y_Kind_breeds : MethodName := ⟨R_Kind, "breeds", "(I)I"⟩
abbrev c_Kind_breeds : ByteArray := prog_2_method_5_code
theorem k_Kind_breeds : Cond.code y_Kind_breeds c_Kind_breeds 2 (some .int) ∈ TB := tb2 232 rfl rfl
def y_Kind_gains : MethodName := ⟨R_Kind, "gains", "(LCarpetRealms$Rug;)I"⟩
abbrev c_Kind_gains : ByteArray := prog_2_method_6_code
theorem k_Kind_gains : Cond.code y_Kind_gains c_Kind_gains 2 (some .int) ∈ TB := tb3 13 rfl rfl
def y_Mat_init : MethodName := ⟨R_Mat, "<init>", "(ILjava/lang/String;LCarpetRealms$Kind;)V"⟩
abbrev c_Mat_init : ByteArray := prog_3_method_1_code
theorem k_Mat_init : Cond.code y_Mat_init c_Mat_init 4 none ∈ TB := tb1 77 rfl rfl
def y_Mat_reaches : MethodName := ⟨R_Mat, "reaches", "(LCarpetRealms$Rug;)I"⟩
abbrev c_Mat_reaches : ByteArray := prog_3_method_2_code
theorem k_Mat_reaches : Cond.code y_Mat_reaches c_Mat_reaches 2 (some .int) ∈ TB := tb2 74 rfl rfl
def y_Mat_wears : MethodName := ⟨R_Mat, "wears", "(LCarpetRealms$Rug;I)I"⟩
abbrev c_Mat_wears : ByteArray := prog_3_method_3_code
theorem k_Mat_wears : Cond.code y_Mat_wears c_Mat_wears 3 (some .int) ∈ TB := tb2 197 rfl rfl
def y_Mat_breeds : MethodName := ⟨R_Mat, "breeds", "(I)I"⟩
abbrev c_Mat_breeds : ByteArray := prog_3_method_4_code
theorem k_Mat_breeds : Cond.code y_Mat_breeds c_Mat_breeds 2 (some .int) ∈ TB := tb2 221 rfl rfl
def y_Mat_gains : MethodName := ⟨R_Mat, "gains", "(LCarpetRealms$Rug;)I"⟩
abbrev c_Mat_gains : ByteArray := prog_3_method_5_code
theorem k_Mat_gains : Cond.code y_Mat_gains c_Mat_gains 2 (some .int) ∈ TB := tb2 239 rfl rfl
def y_PalaceReader_tell : MethodName := ⟨R_PalaceReader, "tell", "(LCarpetRealms$Tape;LCarpetRealms$World;[LCarpetRealms$Kind;)I"⟩
abbrev c_PalaceReader_tell : ByteArray := prog_4_method_2_code
theorem k_PalaceReader_tell : Cond.code y_PalaceReader_tell c_PalaceReader_tell 4 (some .int) ∈ TB := tb3 180 rfl rfl
def y_PalaceReader_readItem : MethodName := ⟨R_PalaceReader, "readItem", "(LCarpetRealms$Tape;LCarpetRealms$World;[LCarpetRealms$Kind;)Z"⟩
abbrev c_PalaceReader_readItem : ByteArray := prog_4_method_3_code
theorem k_PalaceReader_readItem : Cond.code y_PalaceReader_readItem c_PalaceReader_readItem 4 (some .boolean) ∈ TB := tb3 195 rfl rfl
def y_PalaceReader_readUp : MethodName := ⟨R_PalaceReader, "readUp", "(LCarpetRealms$Tape;LCarpetRealms$World;)Z"⟩
abbrev c_PalaceReader_readUp : ByteArray := prog_4_method_4_code
theorem k_PalaceReader_readUp : Cond.code y_PalaceReader_readUp c_PalaceReader_readUp 3 (some .boolean) ∈ TB := tb4 15 rfl rfl
def y_PalaceReader_readPlace : MethodName := ⟨R_PalaceReader, "readPlace", "(LCarpetRealms$Tape;LCarpetRealms$World;I)Z"⟩
abbrev c_PalaceReader_readPlace : ByteArray := prog_4_method_5_code
theorem k_PalaceReader_readPlace : Cond.code y_PalaceReader_readPlace c_PalaceReader_readPlace 4 (some .boolean) ∈ TB := tb4 26 rfl rfl
def y_PalaceReader_readRug : MethodName := ⟨R_PalaceReader, "readRug", "(LCarpetRealms$Tape;LCarpetRealms$World;LCarpetRealms$Kind;)Z"⟩
abbrev c_PalaceReader_readRug : ByteArray := prog_4_method_6_code
theorem k_PalaceReader_readRug : Cond.code y_PalaceReader_readRug c_PalaceReader_readRug 6 (some .boolean) ∈ TB := tb4 36 rfl rfl
def y_Rug_init : MethodName := ⟨R_Rug, "<init>", "(LCarpetRealms$Kind;)V"⟩
abbrev c_Rug_init : ByteArray := prog_5_method_1_code
theorem k_Rug_init : Cond.code y_Rug_init c_Rug_init 2 none ∈ TB := tb1 117 rfl rfl
def y_Rug_begin : MethodName := ⟨R_Rug, "begin", "(LCarpetRealms$Kind;I)V"⟩
abbrev c_Rug_begin : ByteArray := prog_5_method_2_code
theorem k_Rug_begin : Cond.code y_Rug_begin c_Rug_begin 3 none ∈ TB := tb2 172 rfl rfl
def y_Rug_become : MethodName := ⟨R_Rug, "become", "(LCarpetRealms$Rug;)V"⟩
abbrev c_Rug_become : ByteArray := prog_5_method_3_code
theorem k_Rug_become : Cond.code y_Rug_become c_Rug_become 2 none ∈ TB := tb3 91 rfl rfl
def y_Rug_valueOf : MethodName := ⟨R_Rug, "valueOf", "(I)I"⟩
abbrev c_Rug_valueOf : ByteArray := prog_5_method_4_code
theorem k_Rug_valueOf : Cond.code y_Rug_valueOf c_Rug_valueOf 2 (some .int) ∈ TB := tb2 189 rfl rfl
def y_Rug_putValue : MethodName := ⟨R_Rug, "putValue", "(II)V"⟩
abbrev c_Rug_putValue : ByteArray := prog_5_method_5_code
theorem k_Rug_putValue : Cond.code y_Rug_putValue c_Rug_putValue 3 none ∈ TB := tb3 24 rfl rfl
def y_Rug_isOut : MethodName := ⟨R_Rug, "isOut", "()Z"⟩
abbrev c_Rug_isOut : ByteArray := prog_5_method_6_code
theorem k_Rug_isOut : Cond.code y_Rug_isOut c_Rug_isOut 1 (some .boolean) ∈ TB := tb2 63 rfl rfl
def y_Rug_putAway : MethodName := ⟨R_Rug, "putAway", "()V"⟩
abbrev c_Rug_putAway : ByteArray := prog_5_method_7_code
theorem k_Rug_putAway : Cond.code y_Rug_putAway c_Rug_putAway 1 none ∈ TB := tb2 176 rfl rfl
def y_Rug_yardsCovered : MethodName := ⟨R_Rug, "yardsCovered", "()I"⟩
abbrev c_Rug_yardsCovered : ByteArray := prog_5_method_8_code
theorem k_Rug_yardsCovered : Cond.code y_Rug_yardsCovered c_Rug_yardsCovered 1 (some .int) ∈ TB := tb2 67 rfl rfl
def y_Rug_covers : MethodName := ⟨R_Rug, "covers", "(I)Z"⟩
abbrev c_Rug_covers : ByteArray := prog_5_method_9_code
theorem k_Rug_covers : Cond.code y_Rug_covers c_Rug_covers 2 (some .boolean) ∈ TB := tb2 59 rfl rfl
def y_Rug_span : MethodName := ⟨R_Rug, "span", "()J"⟩
abbrev c_Rug_span : ByteArray := prog_5_method_10_code
theorem k_Rug_span : Cond.code y_Rug_span c_Rug_span 1 (some .long) ∈ TB := tb2 118 rfl rfl
def y_Rug_passDay : MethodName := ⟨R_Rug, "passDay", "(I)V"⟩
abbrev c_Rug_passDay : ByteArray := prog_5_method_11_code
theorem k_Rug_passDay : Cond.code y_Rug_passDay c_Rug_passDay 2 none ∈ TB := tb3 80 rfl rfl
def y_Runner_init : MethodName := ⟨R_Runner, "<init>", "(ILjava/lang/String;LCarpetRealms$Kind;)V"⟩
abbrev c_Runner_init : ByteArray := prog_6_method_1_code
theorem k_Runner_init : Cond.code y_Runner_init c_Runner_init 4 none ∈ TB := tb1 55 rfl rfl
def y_Runner_reaches : MethodName := ⟨R_Runner, "reaches", "(LCarpetRealms$Rug;)I"⟩
abbrev c_Runner_reaches : ByteArray := prog_6_method_2_code
theorem k_Runner_reaches : Cond.code y_Runner_reaches c_Runner_reaches 2 (some .int) ∈ TB := tb2 77 rfl rfl
def y_Runner_wears : MethodName := ⟨R_Runner, "wears", "(LCarpetRealms$Rug;I)I"⟩
abbrev c_Runner_wears : ByteArray := prog_6_method_3_code
theorem k_Runner_wears : Cond.code y_Runner_wears c_Runner_wears 3 (some .int) ∈ TB := tb2 200 rfl rfl
def y_Runner_gains : MethodName := ⟨R_Runner, "gains", "(LCarpetRealms$Rug;)I"⟩
abbrev c_Runner_gains : ByteArray := prog_6_method_4_code
theorem k_Runner_gains : Cond.code y_Runner_gains c_Runner_gains 2 (some .int) ∈ TB := tb3 2 rfl rfl
def y_Shag_init : MethodName := ⟨R_Shag, "<init>", "(ILjava/lang/String;LCarpetRealms$Kind;)V"⟩
abbrev c_Shag_init : ByteArray := prog_7_method_1_code
theorem k_Shag_init : Cond.code y_Shag_init c_Shag_init 4 none ∈ TB := tb1 99 rfl rfl
def y_Shag_reaches : MethodName := ⟨R_Shag, "reaches", "(LCarpetRealms$Rug;)I"⟩
abbrev c_Shag_reaches : ByteArray := prog_7_method_2_code
theorem k_Shag_reaches : Cond.code y_Shag_reaches c_Shag_reaches 3 (some .int) ∈ TB := tb2 80 rfl rfl
def y_Shag_wears : MethodName := ⟨R_Shag, "wears", "(LCarpetRealms$Rug;I)I"⟩
abbrev c_Shag_wears : ByteArray := prog_7_method_3_code
theorem k_Shag_wears : Cond.code y_Shag_wears c_Shag_wears 3 (some .int) ∈ TB := tb2 204 rfl rfl
def y_Shag_breeds : MethodName := ⟨R_Shag, "breeds", "(I)I"⟩
abbrev c_Shag_breeds : ByteArray := prog_7_method_4_code
theorem k_Shag_breeds : Cond.code y_Shag_breeds c_Shag_breeds 2 (some .int) ∈ TB := tb2 225 rfl rfl
def y_Shag_gains : MethodName := ⟨R_Shag, "gains", "(LCarpetRealms$Rug;)I"⟩
abbrev c_Shag_gains : ByteArray := prog_7_method_5_code
theorem k_Shag_gains : Cond.code y_Shag_gains c_Shag_gains 2 (some .int) ∈ TB := tb3 6 rfl rfl
def y_Sheet_init : MethodName := ⟨R_Sheet, "<init>", "()V"⟩
abbrev c_Sheet_init : ByteArray := prog_8_method_1_code
theorem k_Sheet_init : Cond.code y_Sheet_init c_Sheet_init 1 none ∈ TB := tb1 229 rfl rfl
def y_Sheet_begin : MethodName := ⟨R_Sheet, "begin", "(II)V"⟩
abbrev c_Sheet_begin : ByteArray := prog_8_method_2_code
theorem k_Sheet_begin : Cond.code y_Sheet_begin c_Sheet_begin 4 none ∈ TB := tb4 54 rfl rfl
def y_Sheet_isMissing : MethodName := ⟨R_Sheet, "isMissing", "()Z"⟩
abbrev c_Sheet_isMissing : ByteArray := prog_8_method_3_code
theorem k_Sheet_isMissing : Cond.code y_Sheet_isMissing c_Sheet_isMissing 1 (some .boolean) ∈ TB := tb4 62 rfl rfl
def y_Sheet_hasRow : MethodName := ⟨R_Sheet, "hasRow", "(II)Z"⟩
abbrev c_Sheet_hasRow : ByteArray := prog_8_method_4_code
theorem k_Sheet_hasRow : Cond.code y_Sheet_hasRow c_Sheet_hasRow 3 (some .boolean) ∈ TB := tb4 75 rfl rfl
def y_Sheet_putNumber : MethodName := ⟨R_Sheet, "putNumber", "(IJ)V"⟩
abbrev c_Sheet_putNumber : ByteArray := prog_8_method_5_code
theorem k_Sheet_putNumber : Cond.code y_Sheet_putNumber c_Sheet_putNumber 4 none ∈ TB := tb4 67 rfl rfl
def y_Stair_init : MethodName := ⟨R_Stair, "<init>", "(ILjava/lang/String;LCarpetRealms$Kind;)V"⟩
abbrev c_Stair_init : ByteArray := prog_9_method_1_code
theorem k_Stair_init : Cond.code y_Stair_init c_Stair_init 4 none ∈ TB := tb1 88 rfl rfl
def y_Stair_reaches : MethodName := ⟨R_Stair, "reaches", "(LCarpetRealms$Rug;)I"⟩
abbrev c_Stair_reaches : ByteArray := prog_9_method_2_code
theorem k_Stair_reaches : Cond.code y_Stair_reaches c_Stair_reaches 2 (some .int) ∈ TB := tb2 89 rfl rfl
def y_Stair_wears : MethodName := ⟨R_Stair, "wears", "(LCarpetRealms$Rug;I)I"⟩
abbrev c_Stair_wears : ByteArray := prog_9_method_3_code
theorem k_Stair_wears : Cond.code y_Stair_wears c_Stair_wears 3 (some .int) ∈ TB := tb2 211 rfl rfl
def y_Tape_init : MethodName := ⟨R_Tape, "<init>", "()V"⟩
abbrev c_Tape_init : ByteArray := prog_10_method_1_code
theorem k_Tape_init : Cond.code y_Tape_init c_Tape_init 1 none ∈ TB := tb1 200 rfl rfl
def y_Tape_addByte : MethodName := ⟨R_Tape, "addByte", "(I)V"⟩
abbrev c_Tape_addByte : ByteArray := prog_10_method_2_code
theorem k_Tape_addByte : Cond.code y_Tape_addByte c_Tape_addByte 2 none ∈ TB := tb3 169 rfl rfl
def y_Tape_toFirstToken : MethodName := ⟨R_Tape, "toFirstToken", "()V"⟩
abbrev c_Tape_toFirstToken : ByteArray := prog_10_method_3_code
theorem k_Tape_toFirstToken : Cond.code y_Tape_toFirstToken c_Tape_toFirstToken 1 none ∈ TB := tb3 184 rfl rfl
def y_Tape_toNextToken : MethodName := ⟨R_Tape, "toNextToken", "()V"⟩
abbrev c_Tape_toNextToken : ByteArray := prog_10_method_4_code
theorem k_Tape_toNextToken : Cond.code y_Tape_toNextToken c_Tape_toNextToken 2 none ∈ TB := tb3 188 rfl rfl
def y_Tape_tokenBegunBy : MethodName := ⟨R_Tape, "tokenBegunBy", "(I)I"⟩
abbrev c_Tape_tokenBegunBy : ByteArray := prog_10_method_5_code
theorem k_Tape_tokenBegunBy : Cond.code y_Tape_tokenBegunBy c_Tape_tokenBegunBy 1 (some .int) ∈ TB := tb3 191 rfl rfl
def y_Tape_isWord : MethodName := ⟨R_Tape, "isWord", "(Ljava/lang/String;)Z"⟩
abbrev c_Tape_isWord : ByteArray := prog_10_method_6_code
theorem k_Tape_isWord : Cond.code y_Tape_isWord c_Tape_isWord 3 (some .boolean) ∈ TB := tb3 204 rfl rfl
def y_Tape_passesWord : MethodName := ⟨R_Tape, "passesWord", "(Ljava/lang/String;)Z"⟩
abbrev c_Tape_passesWord : ByteArray := prog_10_method_7_code
theorem k_Tape_passesWord : Cond.code y_Tape_passesWord c_Tape_passesWord 2 (some .boolean) ∈ TB := tb3 200 rfl rfl
def y_Tape_numberHere : MethodName := ⟨R_Tape, "numberHere", "(II)I"⟩
abbrev c_Tape_numberHere : ByteArray := prog_10_method_8_code
theorem k_Tape_numberHere : Cond.code y_Tape_numberHere c_Tape_numberHere 3 (some .int) ∈ TB := tb4 19 rfl rfl
def y_Tape_passNumber : MethodName := ⟨R_Tape, "passNumber", "(II)I"⟩
abbrev c_Tape_passNumber : ByteArray := prog_10_method_9_code
theorem k_Tape_passNumber : Cond.code y_Tape_passNumber c_Tape_passNumber 4 (some .int) ∈ TB := tb4 30 rfl rfl
def y_Velvet_init : MethodName := ⟨R_Velvet, "<init>", "(ILjava/lang/String;LCarpetRealms$Kind;)V"⟩
abbrev c_Velvet_init : ByteArray := prog_11_method_1_code
theorem k_Velvet_init : Cond.code y_Velvet_init c_Velvet_init 4 none ∈ TB := tb1 66 rfl rfl
def y_Velvet_wears : MethodName := ⟨R_Velvet, "wears", "(LCarpetRealms$Rug;I)I"⟩
abbrev c_Velvet_wears : ByteArray := prog_11_method_2_code
theorem k_Velvet_wears : Cond.code y_Velvet_wears c_Velvet_wears 3 (some .int) ∈ TB := tb2 207 rfl rfl
def y_Velvet_breeds : MethodName := ⟨R_Velvet, "breeds", "(I)I"⟩
abbrev c_Velvet_breeds : ByteArray := prog_11_method_3_code
theorem k_Velvet_breeds : Cond.code y_Velvet_breeds c_Velvet_breeds 2 (some .int) ∈ TB := tb2 228 rfl rfl
def y_Velvet_gains : MethodName := ⟨R_Velvet, "gains", "(LCarpetRealms$Rug;)I"⟩
abbrev c_Velvet_gains : ByteArray := prog_11_method_4_code
theorem k_Velvet_gains : Cond.code y_Velvet_gains c_Velvet_gains 2 (some .int) ∈ TB := tb3 9 rfl rfl
def y_World_init : MethodName := ⟨R_World, "<init>", "(LCarpetRealms$Kind;)V"⟩
abbrev c_World_init : ByteArray := prog_12_method_1_code
theorem k_World_init : Cond.code y_World_init c_World_init 3 none ∈ TB := tb1 110 rfl rfl
def y_World_become : MethodName := ⟨R_World, "become", "(LCarpetRealms$World;)V"⟩
abbrev c_World_become : ByteArray := prog_12_method_2_code
theorem k_World_become : Cond.code y_World_become c_World_become 3 none ∈ TB := tb3 104 rfl rfl
def y_World_addRug : MethodName := ⟨R_World, "addRug", "(LCarpetRealms$Kind;I)I"⟩
abbrev c_World_addRug : ByteArray := prog_12_method_3_code
theorem k_World_addRug : Cond.code y_World_addRug c_World_addRug 3 (some .int) ∈ TB := tb2 168 rfl rfl
def y_World_layOut : MethodName := ⟨R_World, "layOut", "(LCarpetRealms$Rug;I)V"⟩
abbrev c_World_layOut : ByteArray := prog_12_method_4_code
theorem k_World_layOut : Cond.code y_World_layOut c_World_layOut 3 none ∈ TB := tb3 52 rfl rfl
def y_World_wetAhead : MethodName := ⟨R_World, "wetAhead", "(I)I"⟩
abbrev c_World_wetAhead : ByteArray := prog_12_method_5_code
theorem k_World_wetAhead : Cond.code y_World_wetAhead c_World_wetAhead 2 (some .int) ∈ TB := tb2 149 rfl rfl
def y_World_passDays : MethodName := ⟨R_World, "passDays", "(I)V"⟩
abbrev c_World_passDays : ByteArray := prog_12_method_6_code
theorem k_World_passDays : Cond.code y_World_passDays c_World_passDays 5 none ∈ TB := tb3 75 rfl rfl
def y_World_topAt : MethodName := ⟨R_World, "topAt", "(I)I"⟩
abbrev c_World_topAt : ByteArray := prog_12_method_7_code
theorem k_World_topAt : Cond.code y_World_topAt c_World_topAt 4 (some .int) ∈ TB := tb2 55 rfl rfl
def y_World_ownerAt : MethodName := ⟨R_World, "ownerAt", "(I)I"⟩
abbrev c_World_ownerAt : ByteArray := prog_12_method_8_code
theorem k_World_ownerAt : Cond.code y_World_ownerAt c_World_ownerAt 3 (some .int) ∈ TB := tb2 51 rfl rfl
def y_World_setAt : MethodName := ⟨R_World, "setAt", "(I)I"⟩
abbrev c_World_setAt : ByteArray := prog_12_method_9_code
theorem k_World_setAt : Cond.code y_World_setAt c_World_setAt 4 (some .int) ∈ TB := tb2 101 rfl rfl
def y_World_setOut : MethodName := ⟨R_World, "setOut", "()I"⟩
abbrev c_World_setOut : ByteArray := prog_12_method_10_code
theorem k_World_setOut : Cond.code y_World_setOut c_World_setOut 3 (some .int) ∈ TB := tb2 156 rfl rfl
def y_World_allPiles : MethodName := ⟨R_World, "allPiles", "()I"⟩
abbrev c_World_allPiles : ByteArray := prog_12_method_11_code
theorem k_World_allPiles : Cond.code y_World_allPiles c_World_allPiles 3 (some .int) ∈ TB := tb2 160 rfl rfl
def y_World_allMoths : MethodName := ⟨R_World, "allMoths", "()I"⟩
abbrev c_World_allMoths : ByteArray := prog_12_method_12_code
theorem k_World_allMoths : Cond.code y_World_allMoths c_World_allMoths 3 (some .int) ∈ TB := tb4 121 rfl rfl
def y_World_yardsOf : MethodName := ⟨R_World, "yardsOf", "(I)I"⟩
abbrev c_World_yardsOf : ByteArray := prog_12_method_13_code
theorem k_World_yardsOf : Cond.code y_World_yardsOf c_World_yardsOf 2 (some .int) ∈ TB := tb2 109 rfl rfl
def y_World_survey : MethodName := ⟨R_World, "survey", "()V"⟩
abbrev c_World_survey : ByteArray := prog_12_method_14_code
theorem k_World_survey : Cond.code y_World_survey c_World_survey 2 none ∈ TB := tb2 113 rfl rfl
def y_World_addLayer : MethodName := ⟨R_World, "addLayer", "(I)V"⟩
abbrev c_World_addLayer : ByteArray := prog_12_method_15_code
theorem k_World_addLayer : Cond.code y_World_addLayer c_World_addLayer 3 none ∈ TB := tb2 122 rfl rfl
def y_World_yardsWithout : MethodName := ⟨R_World, "yardsWithout", "(II)I"⟩
abbrev c_World_yardsWithout : ByteArray := prog_12_method_16_code
theorem k_World_yardsWithout : Cond.code y_World_yardsWithout c_World_yardsWithout 11 (some .int) ∈ TB := tb2 126 rfl rfl
def y_X_init : MethodName := ⟨R_X, "<init>", "()V"⟩
abbrev c_X_init : ByteArray := prog_1_method_1_code
theorem k_X_init : Cond.code y_X_init c_X_init 8 none ∈ TB := tb1 26 rfl rfl
def y_X_rain : MethodName := ⟨R_X, "rain", "(II)I"⟩
abbrev c_X_rain : ByteArray := prog_1_method_2_code
theorem k_X_rain : Cond.code y_X_rain c_X_rain 4 (some .int) ∈ TB := tb2 35 rfl rfl
def y_X_yard : MethodName := ⟨R_X, "yard", "(II)I"⟩
abbrev c_X_yard : ByteArray := prog_1_method_3_code
theorem k_X_yard : Cond.code y_X_yard c_X_yard 3 (some .int) ∈ TB := tb2 47 rfl rfl
def y_X_owns : MethodName := ⟨R_X, "owns", "(I)I"⟩
abbrev c_X_owns : ByteArray := prog_1_method_4_code
theorem k_X_owns : Cond.code y_X_owns c_X_owns 2 (some .int) ∈ TB := tb2 105 rfl rfl
def y_X_borders : MethodName := ⟨R_X, "borders", "()I"⟩
abbrev c_X_borders : ByteArray := prog_1_method_5_code
theorem k_X_borders : Cond.code y_X_borders c_X_borders 3 (some .int) ∈ TB := tb2 137 rfl rfl
def y_X_walk : MethodName := ⟨R_X, "walk", "(I)I"⟩
abbrev c_X_walk : ByteArray := prog_1_method_6_code
theorem k_X_walk : Cond.code y_X_walk c_X_walk 5 (some .int) ∈ TB := tb2 141 rfl rfl
def y_X_now : MethodName := ⟨R_X, "now", "(I)I"⟩
abbrev c_X_now : ByteArray := prog_1_method_7_code
theorem k_X_now : Cond.code y_X_now c_X_now 2 (some .int) ∈ TB := tb2 145 rfl rfl
def y_X_carpet : MethodName := ⟨R_X, "carpet", "(II)I"⟩
abbrev c_X_carpet : ByteArray := prog_1_method_8_code
theorem k_X_carpet : Cond.code y_X_carpet c_X_carpet 4 (some .int) ∈ TB := tb2 164 rfl rfl
def y_X_of : MethodName := ⟨R_X, "of", "(II)I"⟩
abbrev c_X_of : ByteArray := prog_1_method_9_code
theorem k_X_of : Cond.code y_X_of c_X_of 4 (some .int) ∈ TB := tb2 181 rfl rfl
def y_X_set : MethodName := ⟨R_X, "set", "(III)I"⟩
abbrev c_X_set : ByteArray := prog_1_method_10_code
theorem k_X_set : Cond.code y_X_set c_X_set 6 (some .int) ∈ TB := tb3 17 rfl rfl
def y_X_turn : MethodName := ⟨R_X, "turn", "(II)I"⟩
abbrev c_X_turn : ByteArray := prog_1_method_11_code
theorem k_X_turn : Cond.code y_X_turn c_X_turn 5 (some .int) ∈ TB := tb3 28 rfl rfl
def y_X_as : MethodName := ⟨R_X, "as", "(II)I"⟩
abbrev c_X_as : ByteArray := prog_1_method_12_code
theorem k_X_as : Cond.code y_X_as c_X_as 4 (some .int) ∈ TB := tb3 32 rfl rfl
def y_X_roll : MethodName := ⟨R_X, "roll", "(II)I"⟩
abbrev c_X_roll : ByteArray := prog_1_method_13_code
theorem k_X_roll : Cond.code y_X_roll c_X_roll 4 (some .int) ∈ TB := tb3 47 rfl rfl
def y_X_up : MethodName := ⟨R_X, "up", "(I)I"⟩
abbrev c_X_up : ByteArray := prog_1_method_14_code
theorem k_X_up : Cond.code y_X_up c_X_up 4 (some .int) ∈ TB := tb3 59 rfl rfl
def y_X_beat : MethodName := ⟨R_X, "beat", "(I)I"⟩
abbrev c_X_beat : ByteArray := prog_1_method_15_code
theorem k_X_beat : Cond.code y_X_beat c_X_beat 3 (some .int) ∈ TB := tb3 65 rfl rfl
def y_X_days : MethodName := ⟨R_X, "days", "(I)I"⟩
abbrev c_X_days : ByteArray := prog_1_method_16_code
theorem k_X_days : Cond.code y_X_days c_X_days 2 (some .int) ∈ TB := tb3 71 rfl rfl
def y_X_on : MethodName := ⟨R_X, "on", "(III)I"⟩
abbrev c_X_on : ByteArray := prog_1_method_17_code
theorem k_X_on : Cond.code y_X_on c_X_on 4 (some .int) ∈ TB := tb3 87 rfl rfl
def y_X_ownsOn : MethodName := ⟨R_X, "ownsOn", "(II)I"⟩
abbrev c_X_ownsOn : ByteArray := prog_1_method_18_code
theorem k_X_ownsOn : Cond.code y_X_ownsOn c_X_ownsOn 3 (some .int) ∈ TB := tb3 100 rfl rfl
def y_X_ends : MethodName := ⟨R_X, "ends", "(I)I"⟩
abbrev c_X_ends : ByteArray := prog_1_method_19_code
theorem k_X_ends : Cond.code y_X_ends c_X_ends 3 (some .int) ∈ TB := tb3 112 rfl rfl
def y_X_bare : MethodName := ⟨R_X, "bare", "(I)I"⟩
abbrev c_X_bare : ByteArray := prog_1_method_20_code
theorem k_X_bare : Cond.code y_X_bare c_X_bare 3 (some .int) ∈ TB := tb3 121 rfl rfl
def y_X_changes : MethodName := ⟨R_X, "changes", "(I)I"⟩
abbrev c_X_changes : ByteArray := prog_1_method_21_code
theorem k_X_changes : Cond.code y_X_changes c_X_changes 4 (some .int) ∈ TB := tb3 125 rfl rfl
def y_X_best : MethodName := ⟨R_X, "best", "(II)I"⟩
abbrev c_X_best : ByteArray := prog_1_method_22_code
theorem k_X_best : Cond.code y_X_best c_X_best 4 (some .int) ∈ TB := tb3 129 rfl rfl
def y_X_take : MethodName := ⟨R_X, "take", "(II)I"⟩
abbrev c_X_take : ByteArray := prog_1_method_23_code
theorem k_X_take : Cond.code y_X_take c_X_take 7 (some .int) ∈ TB := tb3 139 rfl rfl
def y_X_kind : MethodName := ⟨R_X, "kind", "(I)I"⟩
abbrev c_X_kind : ByteArray := prog_1_method_24_code
theorem k_X_kind : Cond.code y_X_kind c_X_kind 6 (some .int) ∈ TB := tb3 143 rfl rfl
def y_X_enough : MethodName := ⟨R_X, "enough", "(II)I"⟩
abbrev c_X_enough : ByteArray := prog_1_method_25_code
theorem k_X_enough : Cond.code y_X_enough c_X_enough 4 (some .int) ∈ TB := tb3 147 rfl rfl
def y_X_weather : MethodName := ⟨R_X, "weather", "(I)I"⟩
abbrev c_X_weather : ByteArray := prog_1_method_26_code
theorem k_X_weather : Cond.code y_X_weather c_X_weather 6 (some .int) ∈ TB := tb3 151 rfl rfl
def y_X_fewest : MethodName := ⟨R_X, "fewest", "(II)I"⟩
abbrev c_X_fewest : ByteArray := prog_1_method_27_code
theorem k_X_fewest : Cond.code y_X_fewest c_X_fewest 8 (some .int) ∈ TB := tb3 155 rfl rfl
def y_X_feed : MethodName := ⟨R_X, "feed", "(II)I"⟩
abbrev c_X_feed : ByteArray := prog_1_method_28_code
theorem k_X_feed : Cond.code y_X_feed c_X_feed 4 (some .int) ∈ TB := tb3 165 rfl rfl
def y_X_wipe : MethodName := ⟨R_X, "wipe", "()I"⟩
abbrev c_X_wipe : ByteArray := prog_1_method_29_code
theorem k_X_wipe : Cond.code y_X_wipe c_X_wipe 2 (some .int) ∈ TB := tb3 173 rfl rfl
def y_X_palace : MethodName := ⟨R_X, "palace", "()I"⟩
abbrev c_X_palace : ByteArray := prog_1_method_30_code
theorem k_X_palace : Cond.code y_X_palace c_X_palace 2 (some .int) ∈ TB := tb3 177 rfl rfl
def y_X_sheet : MethodName := ⟨R_X, "sheet", "(III)I"⟩
abbrev c_X_sheet : ByteArray := prog_1_method_31_code
theorem k_X_sheet : Cond.code y_X_sheet c_X_sheet 4 (some .int) ∈ TB := tb4 45 rfl rfl
def y_X_write : MethodName := ⟨R_X, "write", "(IIJ)J"⟩
abbrev c_X_write : ByteArray := prog_1_method_32_code
theorem k_X_write : Cond.code y_X_write c_X_write 8 (some .long) ∈ TB := tb4 58 rfl rfl
def y_X_copy : MethodName := ⟨R_X, "copy", "(IIIII)I"⟩
abbrev c_X_copy : ByteArray := prog_1_method_33_code
theorem k_X_copy : Cond.code y_X_copy c_X_copy 8 (some .int) ∈ TB := tb4 71 rfl rfl
def y_X_lays : MethodName := ⟨R_X, "lays", "(I)I"⟩
abbrev c_X_lays : ByteArray := prog_1_method_34_code
theorem k_X_lays : Cond.code y_X_lays c_X_lays 8 (some .int) ∈ TB := tb4 80 rfl rfl
def y_X_book : MethodName := ⟨R_X, "book", "(II)I"⟩
abbrev c_X_book : ByteArray := prog_1_method_35_code
theorem k_X_book : Cond.code y_X_book c_X_book 6 (some .int) ∈ TB := tb4 89 rfl rfl
def y_X_read : MethodName := ⟨R_X, "read", "(II)I"⟩
abbrev c_X_read : ByteArray := prog_1_method_36_code
theorem k_X_read : Cond.code y_X_read c_X_read 7 (some .int) ∈ TB := tb4 97 rfl rfl
def y_X_image : MethodName := ⟨R_X, "image", "()I"⟩
abbrev c_X_image : ByteArray := prog_1_method_37_code
theorem k_X_image : Cond.code y_X_image c_X_image 1 (some .int) ∈ TB := tb4 105 rfl rfl
def y_X_undo : MethodName := ⟨R_X, "undo", "()I"⟩
abbrev c_X_undo : ByteArray := prog_1_method_38_code
theorem k_X_undo : Cond.code y_X_undo c_X_undo 1 (some .int) ∈ TB := tb4 109 rfl rfl
def y_X_tear : MethodName := ⟨R_X, "tear", "()I"⟩
abbrev c_X_tear : ByteArray := prog_1_method_39_code
theorem k_X_tear : Cond.code y_X_tear c_X_tear 2 (some .int) ∈ TB := tb4 113 rfl rfl
def y_X_count : MethodName := ⟨R_X, "count", "(I)I"⟩
abbrev c_X_count : ByteArray := prog_1_method_40_code
theorem k_X_count : Cond.code y_X_count c_X_count 2 (some .int) ∈ TB := tb4 117 rfl rfl
def y_X_status : MethodName := ⟨R_X, "status", "(I)I"⟩
abbrev c_X_status : ByteArray := prog_1_method_41_code
theorem k_X_status : Cond.code y_X_status c_X_status 4 (some .int) ∈ TB := tb4 125 rfl rfl
def y_X_within : MethodName := ⟨R_X, "within", "(III)Z"⟩
abbrev c_X_within : ByteArray := prog_1_method_42_code
theorem k_X_within : Cond.code y_X_within c_X_within 3 (some .boolean) ∈ TB := tb2 38 rfl rfl
def y_X_found : MethodName := ⟨R_X, "found", "(I)I"⟩
abbrev c_X_found : ByteArray := prog_1_method_43_code
theorem k_X_found : Cond.code y_X_found c_X_found 3 (some .int) ∈ TB := tb2 43 rfl rfl
def y_X_isRug : MethodName := ⟨R_X, "isRug", "(I)Z"⟩
abbrev c_X_isRug : ByteArray := prog_1_method_44_code
theorem k_X_isRug : Cond.code y_X_isRug c_X_isRug 2 (some .boolean) ∈ TB := tb2 185 rfl rfl
def y_X_isSheet : MethodName := ⟨R_X, "isSheet", "(I)Z"⟩
abbrev c_X_isSheet : ByteArray := prog_1_method_45_code
theorem k_X_isSheet : Cond.code y_X_isSheet c_X_isSheet 2 (some .boolean) ∈ TB := tb4 49 rfl rfl
def y_X_maySet : MethodName := ⟨R_X, "maySet", "(II)Z"⟩
abbrev c_X_maySet : ByteArray := prog_1_method_46_code
theorem k_X_maySet : Cond.code y_X_maySet c_X_maySet 2 (some .boolean) ∈ TB := tb3 20 rfl rfl
def y_X_sheetFinding : MethodName := ⟨R_X, "sheetFinding", "(I)I"⟩
abbrev c_X_sheetFinding : ByteArray := prog_1_method_47_code
theorem k_X_sheetFinding : Cond.code y_X_sheetFinding c_X_sheetFinding 2 (some .int) ∈ TB := tb4 84 rfl rfl
def y_X_sheetAndRugFinding : MethodName := ⟨R_X, "sheetAndRugFinding", "(II)I"⟩
abbrev c_X_sheetAndRugFinding : ByteArray := prog_1_method_48_code
theorem k_X_sheetAndRugFinding : Cond.code y_X_sheetAndRugFinding c_X_sheetAndRugFinding 4 (some .int) ∈ TB := tb4 93 rfl rfl
def y_X_passProbe : MethodName := ⟨R_X, "passProbe", "(I)V"⟩
abbrev c_X_passProbe : ByteArray := prog_1_method_49_code
theorem k_X_passProbe : Cond.code y_X_passProbe c_X_passProbe 3 none ∈ TB := tb3 95 rfl rfl
def y_X_daysProbeLies : MethodName := ⟨R_X, "daysProbeLies", "()I"⟩
abbrev c_X_daysProbeLies : ByteArray := prog_1_method_50_code
theorem k_X_daysProbeLies : Cond.code y_X_daysProbeLies c_X_daysProbeLies 2 (some .int) ∈ TB := tb3 116 rfl rfl
def y_X_probeWearsAs : MethodName := ⟨R_X, "probeWearsAs", "(LCarpetRealms$Sheet;)Z"⟩
abbrev c_X_probeWearsAs : ByteArray := prog_1_method_51_code
theorem k_X_probeWearsAs : Cond.code y_X_probeWearsAs c_X_probeWearsAs 3 (some .boolean) ∈ TB := tb4 101 rfl rfl
def y_X_bestYardInTrial : MethodName := ⟨R_X, "bestYardInTrial", "(LCarpetRealms$Rug;)I"⟩
abbrev c_X_bestYardInTrial : ByteArray := prog_1_method_52_code
theorem k_X_bestYardInTrial : Cond.code y_X_bestYardInTrial c_X_bestYardInTrial 6 (some .int) ∈ TB := tb3 133 rfl rfl
def y_M_init : MethodName := ⟨R_M, "<init>", "()V"⟩
abbrev c_M_init : ByteArray := prog_14_method_1_code
theorem k_M_init : Cond.code y_M_init c_M_init 1 none ∈ TB := tb4 130 rfl rfl
def y_M_no : MethodName := ⟨R_M, "no", "(I)I"⟩
abbrev c_M_no : ByteArray := prog_14_method_2_code
theorem k_M_no : Cond.code y_M_no c_M_no 2 (some .int) ∈ TB := tb4 198 rfl rfl
def y_M_in1 : MethodName := ⟨R_M, "in1", "(III)Z"⟩
abbrev c_M_in1 : ByteArray := prog_14_method_3_code
theorem k_M_in1 : Cond.code y_M_in1 c_M_in1 3 (some .boolean) ∈ TB := tb4 194 rfl rfl
def y_M_less : MethodName := ⟨R_M, "less", "(II)I"⟩
abbrev c_M_less : ByteArray := prog_14_method_4_code
theorem k_M_less : Cond.code y_M_less c_M_less 2 (some .int) ∈ TB := tb5 74 rfl rfl
def y_M_bits : MethodName := ⟨R_M, "bits", "(I)I"⟩
abbrev c_M_bits : ByteArray := prog_14_method_5_code
theorem k_M_bits : Cond.code y_M_bits c_M_bits 3 (some .int) ∈ TB := tb5 161 rfl rfl
def y_M_isCarpet : MethodName := ⟨R_M, "isCarpet", "(I)Z"⟩
abbrev c_M_isCarpet : ByteArray := prog_14_method_6_code
theorem k_M_isCarpet : Cond.code y_M_isCarpet c_M_isCarpet 2 (some .boolean) ∈ TB := tb5 38 rfl rfl
def y_M_isYard : MethodName := ⟨R_M, "isYard", "(I)Z"⟩
abbrev c_M_isYard : ByteArray := prog_14_method_7_code
theorem k_M_isYard : Cond.code y_M_isYard c_M_isYard 1 (some .boolean) ∈ TB := tb4 206 rfl rfl
def y_M_get : MethodName := ⟨R_M, "get", "(II)I"⟩
abbrev c_M_get : ByteArray := prog_14_method_8_code
theorem k_M_get : Cond.code y_M_get c_M_get 3 (some .int) ∈ TB := tb4 214 rfl rfl
def y_M_puts : MethodName := ⟨R_M, "puts", "(III)V"⟩
abbrev c_M_puts : ByteArray := prog_14_method_9_code
theorem k_M_puts : Cond.code y_M_puts c_M_puts 4 none ∈ TB := tb5 30 rfl rfl
def y_M_setsAside : MethodName := ⟨R_M, "setsAside", "()V"⟩
abbrev c_M_setsAside : ByteArray := prog_14_method_10_code
theorem k_M_setsAside : Cond.code y_M_setsAside c_M_setsAside 2 none ∈ TB := tb5 102 rfl rfl
def y_M_laysBack : MethodName := ⟨R_M, "laysBack", "()V"⟩
abbrev c_M_laysBack : ByteArray := prog_14_method_11_code
theorem k_M_laysBack : Cond.code y_M_laysBack c_M_laysBack 2 none ∈ TB := tb5 106 rfl rfl
def y_M_rains : MethodName := ⟨R_M, "rains", "()Z"⟩
abbrev c_M_rains : ByteArray := prog_14_method_12_code
theorem k_M_rains : Cond.code y_M_rains c_M_rains 1 (some .boolean) ∈ TB := tb5 10 rfl rfl
def y_M_reachOf : MethodName := ⟨R_M, "reachOf", "(I)I"⟩
abbrev c_M_reachOf : ByteArray := prog_14_method_13_code
theorem k_M_reachOf : Cond.code y_M_reachOf c_M_reachOf 3 (some .int) ∈ TB := tb4 218 rfl rfl
def y_M_wearsOf : MethodName := ⟨R_M, "wearsOf", "(I)I"⟩
abbrev c_M_wearsOf : ByteArray := prog_14_method_14_code
theorem k_M_wearsOf : Cond.code y_M_wearsOf c_M_wearsOf 3 (some .int) ∈ TB := tb5 42 rfl rfl
def y_M_breedsOf : MethodName := ⟨R_M, "breedsOf", "(I)I"⟩
abbrev c_M_breedsOf : ByteArray := prog_14_method_15_code
theorem k_M_breedsOf : Cond.code y_M_breedsOf c_M_breedsOf 3 (some .int) ∈ TB := tb5 46 rfl rfl
def y_M_beatenOf : MethodName := ⟨R_M, "beatenOf", "(I)I"⟩
abbrev c_M_beatenOf : ByteArray := prog_14_method_16_code
theorem k_M_beatenOf : Cond.code y_M_beatenOf c_M_beatenOf 3 (some .int) ∈ TB := tb5 50 rfl rfl
def y_M_liesOn : MethodName := ⟨R_M, "liesOn", "(II)Z"⟩
abbrev c_M_liesOn : ByteArray := prog_14_method_17_code
theorem k_M_liesOn : Cond.code y_M_liesOn c_M_liesOn 4 (some .boolean) ∈ TB := tb4 210 rfl rfl
def y_M_topOf : MethodName := ⟨R_M, "topOf", "(I)I"⟩
abbrev c_M_topOf : ByteArray := prog_14_method_18_code
theorem k_M_topOf : Cond.code y_M_topOf c_M_topOf 4 (some .int) ∈ TB := tb4 226 rfl rfl
def y_M_whoseIs : MethodName := ⟨R_M, "whoseIs", "(I)I"⟩
abbrev c_M_whoseIs : ByteArray := prog_14_method_19_code
theorem k_M_whoseIs : Cond.code y_M_whoseIs c_M_whoseIs 3 (some .int) ∈ TB := tb4 222 rfl rfl
def y_M_yardsOf : MethodName := ⟨R_M, "yardsOf", "(I)I"⟩
abbrev c_M_yardsOf : ByteArray := prog_14_method_20_code
theorem k_M_yardsOf : Cond.code y_M_yardsOf c_M_yardsOf 4 (some .int) ∈ TB := tb4 234 rfl rfl
def y_M_rolledOut : MethodName := ⟨R_M, "rolledOut", "()I"⟩
abbrev c_M_rolledOut : ByteArray := prog_14_method_21_code
theorem k_M_rolledOut : Cond.code y_M_rolledOut c_M_rolledOut 3 (some .int) ∈ TB := tb5 14 rfl rfl
def y_M_sumOf : MethodName := ⟨R_M, "sumOf", "(I)I"⟩
abbrev c_M_sumOf : ByteArray := prog_14_method_22_code
theorem k_M_sumOf : Cond.code y_M_sumOf c_M_sumOf 4 (some .int) ∈ TB := tb5 18 rfl rfl
def y_M_ages : MethodName := ⟨R_M, "ages", "(I)V"⟩
abbrev c_M_ages : ByteArray := prog_14_method_23_code
theorem k_M_ages : Cond.code y_M_ages c_M_ages 3 none ∈ TB := tb5 94 rfl rfl
def y_M_goes : MethodName := ⟨R_M, "goes", "(I)V"⟩
abbrev c_M_goes : ByteArray := prog_14_method_24_code
theorem k_M_goes : Cond.code y_M_goes c_M_goes 4 none ∈ TB := tb5 90 rfl rfl
def y_M_rain : MethodName := ⟨R_M, "rain", "(II)I"⟩
abbrev c_M_rain : ByteArray := prog_14_method_25_code
theorem k_M_rain : Cond.code y_M_rain c_M_rain 4 (some .int) ∈ TB := tb4 191 rfl rfl
def y_M_yard : MethodName := ⟨R_M, "yard", "(II)I"⟩
abbrev c_M_yard : ByteArray := prog_14_method_26_code
theorem k_M_yard : Cond.code y_M_yard c_M_yard 5 (some .int) ∈ TB := tb4 203 rfl rfl
def y_M_owns : MethodName := ⟨R_M, "owns", "(I)I"⟩
abbrev c_M_owns : ByteArray := prog_14_method_27_code
theorem k_M_owns : Cond.code y_M_owns c_M_owns 2 (some .int) ∈ TB := tb4 230 rfl rfl
def y_M_borders : MethodName := ⟨R_M, "borders", "()I"⟩
abbrev c_M_borders : ByteArray := prog_14_method_28_code
theorem k_M_borders : Cond.code y_M_borders c_M_borders 3 (some .int) ∈ TB := tb4 238 rfl rfl
def y_M_walk : MethodName := ⟨R_M, "walk", "(I)I"⟩
abbrev c_M_walk : ByteArray := prog_14_method_29_code
theorem k_M_walk : Cond.code y_M_walk c_M_walk 5 (some .int) ∈ TB := tb5 2 rfl rfl
def y_M_now : MethodName := ⟨R_M, "now", "(I)I"⟩
abbrev c_M_now : ByteArray := prog_14_method_30_code
theorem k_M_now : Cond.code y_M_now c_M_now 2 (some .int) ∈ TB := tb5 6 rfl rfl
def y_M_addsCarpet : MethodName := ⟨R_M, "addsCarpet", "(II)V"⟩
abbrev c_M_addsCarpet : ByteArray := prog_14_method_31_code
theorem k_M_addsCarpet : Cond.code y_M_addsCarpet c_M_addsCarpet 4 none ∈ TB := tb5 26 rfl rfl
def y_M_carpet : MethodName := ⟨R_M, "carpet", "(II)I"⟩
abbrev c_M_carpet : ByteArray := prog_14_method_32_code
theorem k_M_carpet : Cond.code y_M_carpet c_M_carpet 3 (some .int) ∈ TB := tb5 22 rfl rfl
def y_M_of : MethodName := ⟨R_M, "of", "(II)I"⟩
abbrev c_M_of : ByteArray := prog_14_method_33_code
theorem k_M_of : Cond.code y_M_of c_M_of 3 (some .int) ∈ TB := tb5 34 rfl rfl
def y_M_set : MethodName := ⟨R_M, "set", "(III)I"⟩
abbrev c_M_set : ByteArray := prog_14_method_34_code
theorem k_M_set : Cond.code y_M_set c_M_set 6 (some .int) ∈ TB := tb5 54 rfl rfl
def y_M_turn : MethodName := ⟨R_M, "turn", "(II)I"⟩
abbrev c_M_turn : ByteArray := prog_14_method_35_code
theorem k_M_turn : Cond.code y_M_turn c_M_turn 4 (some .int) ∈ TB := tb5 58 rfl rfl
def y_M_as : MethodName := ⟨R_M, "as", "(II)I"⟩
abbrev c_M_as : ByteArray := prog_14_method_36_code
theorem k_M_as : Cond.code y_M_as c_M_as 4 (some .int) ∈ TB := tb5 62 rfl rfl
def y_M_rollsOut : MethodName := ⟨R_M, "rollsOut", "(II)V"⟩
abbrev c_M_rollsOut : ByteArray := prog_14_method_37_code
theorem k_M_rollsOut : Cond.code y_M_rollsOut c_M_rollsOut 3 none ∈ TB := tb5 70 rfl rfl
def y_M_roll : MethodName := ⟨R_M, "roll", "(II)I"⟩
abbrev c_M_roll : ByteArray := prog_14_method_38_code
theorem k_M_roll : Cond.code y_M_roll c_M_roll 3 (some .int) ∈ TB := tb5 66 rfl rfl
def y_M_up : MethodName := ⟨R_M, "up", "(I)I"⟩
abbrev c_M_up : ByteArray := prog_14_method_39_code
theorem k_M_up : Cond.code y_M_up c_M_up 3 (some .int) ∈ TB := tb5 78 rfl rfl
def y_M_beat : MethodName := ⟨R_M, "beat", "(I)I"⟩
abbrev c_M_beat : ByteArray := prog_14_method_40_code
theorem k_M_beat : Cond.code y_M_beat c_M_beat 2 (some .int) ∈ TB := tb5 82 rfl rfl
def y_M_days : MethodName := ⟨R_M, "days", "(I)I"⟩
abbrev c_M_days : ByteArray := prog_14_method_41_code
theorem k_M_days : Cond.code y_M_days c_M_days 2 (some .int) ∈ TB := tb5 86 rfl rfl
def y_M_on : MethodName := ⟨R_M, "on", "(III)I"⟩
abbrev c_M_on : ByteArray := prog_14_method_42_code
theorem k_M_on : Cond.code y_M_on c_M_on 5 (some .int) ∈ TB := tb5 98 rfl rfl
def y_M_hasThen : MethodName := ⟨R_M, "hasThen", "(II)I"⟩
abbrev c_M_hasThen : ByteArray := prog_14_method_43_code
theorem k_M_hasThen : Cond.code y_M_hasThen c_M_hasThen 4 (some .int) ∈ TB := tb5 114 rfl rfl
def y_M_ownsOn : MethodName := ⟨R_M, "ownsOn", "(II)I"⟩
abbrev c_M_ownsOn : ByteArray := prog_14_method_44_code
theorem k_M_ownsOn : Cond.code y_M_ownsOn c_M_ownsOn 3 (some .int) ∈ TB := tb5 110 rfl rfl
def y_M_firstBy : MethodName := ⟨R_M, "firstBy", "(III)I"⟩
abbrev c_M_firstBy : ByteArray := prog_14_method_45_code
theorem k_M_firstBy : Cond.code y_M_firstBy c_M_firstBy 6 (some .int) ∈ TB := tb5 122 rfl rfl
def y_M_orNone : MethodName := ⟨R_M, "orNone", "(I)I"⟩
abbrev c_M_orNone : ByteArray := prog_14_method_46_code
theorem k_M_orNone : Cond.code y_M_orNone c_M_orNone 2 (some .int) ∈ TB := tb5 126 rfl rfl
def y_M_ends : MethodName := ⟨R_M, "ends", "(I)I"⟩
abbrev c_M_ends : ByteArray := prog_14_method_47_code
theorem k_M_ends : Cond.code y_M_ends c_M_ends 2 (some .int) ∈ TB := tb5 118 rfl rfl
def y_M_bare : MethodName := ⟨R_M, "bare", "(I)I"⟩
abbrev c_M_bare : ByteArray := prog_14_method_48_code
theorem k_M_bare : Cond.code y_M_bare c_M_bare 2 (some .int) ∈ TB := tb5 130 rfl rfl
def y_M_changes : MethodName := ⟨R_M, "changes", "(I)I"⟩
abbrev c_M_changes : ByteArray := prog_14_method_49_code
theorem k_M_changes : Cond.code y_M_changes c_M_changes 2 (some .int) ∈ TB := tb5 134 rfl rfl
def y_M_best : MethodName := ⟨R_M, "best", "(II)I"⟩
abbrev c_M_best : ByteArray := prog_14_method_50_code
theorem k_M_best : Cond.code y_M_best c_M_best 7 (some .int) ∈ TB := tb5 138 rfl rfl
def y_M_take : MethodName := ⟨R_M, "take", "(II)I"⟩
abbrev c_M_take : ByteArray := prog_14_method_51_code
theorem k_M_take : Cond.code y_M_take c_M_take 9 (some .int) ∈ TB := tb5 142 rfl rfl
def y_M_kind : MethodName := ⟨R_M, "kind", "(I)I"⟩
abbrev c_M_kind : ByteArray := prog_14_method_52_code
theorem k_M_kind : Cond.code y_M_kind c_M_kind 6 (some .int) ∈ TB := tb5 146 rfl rfl
def y_M_enough : MethodName := ⟨R_M, "enough", "(II)I"⟩
abbrev c_M_enough : ByteArray := prog_14_method_53_code
theorem k_M_enough : Cond.code y_M_enough c_M_enough 5 (some .int) ∈ TB := tb5 150 rfl rfl
def y_M_weather : MethodName := ⟨R_M, "weather", "(I)I"⟩
abbrev c_M_weather : ByteArray := prog_14_method_54_code
theorem k_M_weather : Cond.code y_M_weather c_M_weather 6 (some .int) ∈ TB := tb5 154 rfl rfl
def y_M_hasWithout : MethodName := ⟨R_M, "hasWithout", "(II)I"⟩
abbrev c_M_hasWithout : ByteArray := prog_14_method_55_code
theorem k_M_hasWithout : Cond.code y_M_hasWithout c_M_hasWithout 4 (some .int) ∈ TB := tb5 165 rfl rfl
def y_M_fewest : MethodName := ⟨R_M, "fewest", "(II)I"⟩
abbrev c_M_fewest : ByteArray := prog_14_method_56_code
theorem k_M_fewest : Cond.code y_M_fewest c_M_fewest 7 (some .int) ∈ TB := tb5 158 rfl rfl
def y_M_feed : MethodName := ⟨R_M, "feed", "(II)I"⟩
abbrev c_M_feed : ByteArray := prog_14_method_57_code
theorem k_M_feed : Cond.code y_M_feed c_M_feed 4 (some .int) ∈ TB := tb5 169 rfl rfl
def y_M_wipe : MethodName := ⟨R_M, "wipe", "()I"⟩
abbrev c_M_wipe : ByteArray := prog_14_method_58_code
theorem k_M_wipe : Cond.code y_M_wipe c_M_wipe 2 (some .int) ∈ TB := tb5 173 rfl rfl
def y_M_isLetter : MethodName := ⟨R_M, "isLetter", "(I)Z"⟩
abbrev c_M_isLetter : ByteArray := prog_14_method_59_code
theorem k_M_isLetter : Cond.code y_M_isLetter c_M_isLetter 1 (some .boolean) ∈ TB := tb5 184 rfl rfl
def y_M_isDigit : MethodName := ⟨R_M, "isDigit", "(I)Z"⟩
abbrev c_M_isDigit : ByteArray := prog_14_method_60_code
theorem k_M_isDigit : Cond.code y_M_isDigit c_M_isDigit 1 (some .boolean) ∈ TB := tb5 190 rfl rfl
def y_M_nextToken : MethodName := ⟨R_M, "nextToken", "()V"⟩
abbrev c_M_nextToken : ByteArray := prog_14_method_61_code
theorem k_M_nextToken : Cond.code y_M_nextToken c_M_nextToken 1 none ∈ TB := tb5 181 rfl rfl
def y_M_wordOf : MethodName := ⟨R_M, "wordOf", "([C)I"⟩
abbrev c_M_wordOf : ByteArray := prog_14_method_62_code
theorem k_M_wordOf : Cond.code y_M_wordOf c_M_wordOf 7 (some .int) ∈ TB := tb5 201 rfl rfl
def y_M_takesNumber : MethodName := ⟨R_M, "takesNumber", "(II)I"⟩
abbrev c_M_takesNumber : ByteArray := prog_14_method_63_code
theorem k_M_takesNumber : Cond.code y_M_takesNumber c_M_takesNumber 4 (some .int) ∈ TB := tb5 209 rfl rfl
def y_M_readsCarpet : MethodName := ⟨R_M, "readsCarpet", "(I)Z"⟩
abbrev c_M_readsCarpet : ByteArray := prog_14_method_64_code
theorem k_M_readsCarpet : Cond.code y_M_readsCarpet c_M_readsCarpet 6 (some .boolean) ∈ TB := tb5 205 rfl rfl
def y_M_readsUp : MethodName := ⟨R_M, "readsUp", "()Z"⟩
abbrev c_M_readsUp : ByteArray := prog_14_method_65_code
theorem k_M_readsUp : Cond.code y_M_readsUp c_M_readsUp 2 (some .boolean) ∈ TB := tb5 217 rfl rfl
def y_M_isUpTold : MethodName := ⟨R_M, "isUpTold", "()Z"⟩
abbrev c_M_isUpTold : ByteArray := prog_14_method_66_code
theorem k_M_isUpTold : Cond.code y_M_isUpTold c_M_isUpTold 1 (some .boolean) ∈ TB := tb5 213 rfl rfl
def y_M_readsItem : MethodName := ⟨R_M, "readsItem", "()Z"⟩
abbrev c_M_readsItem : ByteArray := prog_14_method_67_code
theorem k_M_readsItem : Cond.code y_M_readsItem c_M_readsItem 4 (some .boolean) ∈ TB := tb5 197 rfl rfl
def y_M_palace : MethodName := ⟨R_M, "palace", "()I"⟩
abbrev c_M_palace : ByteArray := prog_14_method_68_code
theorem k_M_palace : Cond.code y_M_palace c_M_palace 3 (some .int) ∈ TB := tb5 177 rfl rfl
def y_M_isSheet : MethodName := ⟨R_M, "isSheet", "(I)Z"⟩
abbrev c_M_isSheet : ByteArray := prog_14_method_69_code
theorem k_M_isSheet : Cond.code y_M_isSheet c_M_isSheet 1 (some .boolean) ∈ TB := tb5 224 rfl rfl
def y_M_wrongSheet : MethodName := ⟨R_M, "wrongSheet", "(I)I"⟩
abbrev c_M_wrongSheet : ByteArray := prog_14_method_70_code
theorem k_M_wrongSheet : Cond.code y_M_wrongSheet c_M_wrongSheet 2 (some .int) ∈ TB := tb5 232 rfl rfl
def y_M_told : MethodName := ⟨R_M, "told", "(II)J"⟩
abbrev c_M_told : ByteArray := prog_14_method_71_code
theorem k_M_told : Cond.code y_M_told c_M_told 3 (some .long) ∈ TB := tb5 236 rfl rfl
def y_M_tells : MethodName := ⟨R_M, "tells", "(IIJ)V"⟩
abbrev c_M_tells : ByteArray := prog_14_method_72_code
theorem k_M_tells : Cond.code y_M_tells c_M_tells 5 none ∈ TB := tb6 0 rfl rfl
def y_M_sheet : MethodName := ⟨R_M, "sheet", "(III)I"⟩
abbrev c_M_sheet : ByteArray := prog_14_method_73_code
theorem k_M_sheet : Cond.code y_M_sheet c_M_sheet 5 (some .int) ∈ TB := tb5 221 rfl rfl
def y_M_write : MethodName := ⟨R_M, "write", "(IIJ)J"⟩
abbrev c_M_write : ByteArray := prog_14_method_74_code
theorem k_M_write : Cond.code y_M_write c_M_write 8 (some .long) ∈ TB := tb5 228 rfl rfl
def y_M_copy : MethodName := ⟨R_M, "copy", "(IIIII)I"⟩
abbrev c_M_copy : ByteArray := prog_14_method_75_code
theorem k_M_copy : Cond.code y_M_copy c_M_copy 7 (some .int) ∈ TB := tb6 4 rfl rfl
def y_M_lays : MethodName := ⟨R_M, "lays", "(I)I"⟩
abbrev c_M_lays : ByteArray := prog_14_method_76_code
theorem k_M_lays : Cond.code y_M_lays c_M_lays 6 (some .int) ∈ TB := tb6 8 rfl rfl
def y_M_wrongWith : MethodName := ⟨R_M, "wrongWith", "(II)I"⟩
abbrev c_M_wrongWith : ByteArray := prog_14_method_77_code
theorem k_M_wrongWith : Cond.code y_M_wrongWith c_M_wrongWith 4 (some .int) ∈ TB := tb6 17 rfl rfl
def y_M_book : MethodName := ⟨R_M, "book", "(II)I"⟩
abbrev c_M_book : ByteArray := prog_14_method_78_code
theorem k_M_book : Cond.code y_M_book c_M_book 5 (some .int) ∈ TB := tb6 13 rfl rfl
def y_M_isSo : MethodName := ⟨R_M, "isSo", "(II)Z"⟩
abbrev c_M_isSo : ByteArray := prog_14_method_79_code
theorem k_M_isSo : Cond.code y_M_isSo c_M_isSo 5 (some .boolean) ∈ TB := tb6 25 rfl rfl
def y_M_read : MethodName := ⟨R_M, "read", "(II)I"⟩
abbrev c_M_read : ByteArray := prog_14_method_80_code
theorem k_M_read : Cond.code y_M_read c_M_read 6 (some .int) ∈ TB := tb6 21 rfl rfl
def y_M_image : MethodName := ⟨R_M, "image", "()I"⟩
abbrev c_M_image : ByteArray := prog_14_method_81_code
theorem k_M_image : Cond.code y_M_image c_M_image 2 (some .int) ∈ TB := tb6 29 rfl rfl
def y_M_undo : MethodName := ⟨R_M, "undo", "()I"⟩
abbrev c_M_undo : ByteArray := prog_14_method_82_code
theorem k_M_undo : Cond.code y_M_undo c_M_undo 2 (some .int) ∈ TB := tb6 33 rfl rfl
def y_M_tear : MethodName := ⟨R_M, "tear", "()I"⟩
abbrev c_M_tear : ByteArray := prog_14_method_83_code
theorem k_M_tear : Cond.code y_M_tear c_M_tear 2 (some .int) ∈ TB := tb6 37 rfl rfl
def y_M_count : MethodName := ⟨R_M, "count", "(I)I"⟩
abbrev c_M_count : ByteArray := prog_14_method_84_code
theorem k_M_count : Cond.code y_M_count c_M_count 2 (some .int) ∈ TB := tb6 41 rfl rfl
def y_M_status : MethodName := ⟨R_M, "status", "(I)I"⟩
abbrev c_M_status : ByteArray := prog_14_method_85_code
theorem k_M_status : Cond.code y_M_status c_M_status 4 (some .int) ∈ TB := tb6 45 rfl rfl
def y_Integer_bitCount_0f7a4 : MethodName := ⟨R_Integer, "bitCount", "(I)I"⟩
abbrev c_Integer_bitCount_0f7a4 : ByteArray := prog_15_method_49_code
theorem k_Integer_bitCount_0f7a4 : Cond.code y_Integer_bitCount_0f7a4 c_Integer_bitCount_0f7a4 1 (some .int) ∈ TB := tb3 158 rfl rfl
def y_Long_bitCount_95d88 : MethodName := ⟨R_Long, "bitCount", "(J)I"⟩
abbrev c_Long_bitCount_95d88 : ByteArray := prog_16_method_50_code
theorem k_Long_bitCount_95d88 : Cond.code y_Long_bitCount_95d88 c_Long_bitCount_95d88 2 (some .int) ∈ TB := tb2 130 rfl rfl
def y_Math_floorMod_7cf53 : MethodName := ⟨R_Math, "floorMod", "(II)I"⟩
abbrev c_Math_floorMod_7cf53 : ByteArray := prog_17_method_50_code
theorem k_Math_floorMod_7cf53 : Cond.code y_Math_floorMod_7cf53 c_Math_floorMod_7cf53 3 (some .int) ∈ TB := tb2 152 rfl rfl
def y_Math_max_7cf53 : MethodName := ⟨R_Math, "max", "(II)I"⟩
abbrev c_Math_max_7cf53 : ByteArray := prog_17_method_65_code
theorem k_Math_max_7cf53 : Cond.code y_Math_max_7cf53 c_Math_max_7cf53 2 (some .int) ∈ TB := tb2 86 rfl rfl
def y_Math_min_7cf53 : MethodName := ⟨R_Math, "min", "(II)I"⟩
abbrev c_Math_min_7cf53 : ByteArray := prog_17_method_69_code
theorem k_Math_min_7cf53 : Cond.code y_Math_min_7cf53 c_Math_min_7cf53 2 (some .int) ∈ TB := tb2 96 rfl rfl
def y_String_length_8abf5 : MethodName := ⟨R_String, "length", "()I"⟩
abbrev c_String_length_8abf5 : ByteArray := prog_18_method_54_code
theorem k_String_length_8abf5 : Cond.code y_String_length_8abf5 c_String_length_8abf5 1 (some .int) ∈ TB := tb3 208 rfl rfl
def y_String_charAt_5068e : MethodName := ⟨R_String, "charAt", "(I)C"⟩
abbrev c_String_charAt_5068e : ByteArray := prog_18_method_56_code
theorem k_String_charAt_5068e : Cond.code y_String_charAt_5068e c_String_charAt_5068e 2 (some .char) ∈ TB := tb3 218 rfl rfl
def y_String_coder_7d493 : MethodName := ⟨R_String, "coder", "()B"⟩
abbrev c_String_coder_7d493 : ByteArray := prog_18_method_152_code
theorem k_String_coder_7d493 : Cond.code y_String_coder_7d493 c_String_coder_7d493 1 (some .byte) ∈ TB := tb3 212 rfl rfl
def y_String_isLatin1_aae02 : MethodName := ⟨R_String, "isLatin1", "()Z"⟩
abbrev c_String_isLatin1_aae02 : ByteArray := prog_18_method_154_code
theorem k_String_isLatin1_aae02 : Cond.code y_String_isLatin1_aae02 c_String_isLatin1_aae02 1 (some .boolean) ∈ TB := tb3 222 rfl rfl
def y_String_checkIndex_df160 : MethodName := ⟨R_String, "checkIndex", "(II)V"⟩
abbrev c_String_checkIndex_df160 : ByteArray := prog_18_method_155_code
theorem k_String_checkIndex_df160 : Cond.code y_String_checkIndex_df160 c_String_checkIndex_df160 2 none ∈ TB := tb3 228 rfl rfl
def y_StringLatin1_charAt_3b067 : MethodName := ⟨R_StringLatin1, "charAt", "([BI)C"⟩
abbrev c_StringLatin1_charAt_3b067 : ByteArray := prog_19_method_2_code
theorem k_StringLatin1_charAt_3b067 : Cond.code y_StringLatin1_charAt_3b067 c_StringLatin1_charAt_3b067 2 (some .char) ∈ TB := tb3 225 rfl rfl
def y_StringUTF16_getChar_3b067 : MethodName := ⟨R_StringUTF16, "getChar", "([BI)C"⟩
abbrev c_StringUTF16_getChar_3b067 : ByteArray := prog_20_method_5_code
theorem k_StringUTF16_getChar_3b067 : Cond.code y_StringUTF16_getChar_3b067 c_StringUTF16_getChar_3b067 2 (some .char) ∈ TB := tb4 6 rfl rfl
def y_StringUTF16_length_9d52b : MethodName := ⟨R_StringUTF16, "length", "([B)I"⟩
abbrev c_StringUTF16_length_9d52b : ByteArray := prog_20_method_6_code
theorem k_StringUTF16_length_9d52b : Cond.code y_StringUTF16_length_9d52b c_StringUTF16_length_9d52b 1 (some .int) ∈ TB := tb4 2 rfl rfl
def y_StringUTF16_charAt_3b067 : MethodName := ⟨R_StringUTF16, "charAt", "([BI)C"⟩
abbrev c_StringUTF16_charAt_3b067 : ByteArray := prog_20_method_83_code
theorem k_StringUTF16_charAt_3b067 : Cond.code y_StringUTF16_charAt_3b067 c_StringUTF16_charAt_3b067 2 (some .char) ∈ TB := tb3 236 rfl rfl
def y_StringUTF16_checkIndex_2214a : MethodName := ⟨R_StringUTF16, "checkIndex", "(I[B)V"⟩
abbrev c_StringUTF16_checkIndex_2214a : ByteArray := prog_20_method_91_code
theorem k_StringUTF16_checkIndex_2214a : Cond.code y_StringUTF16_checkIndex_2214a c_StringUTF16_checkIndex_2214a 2 none ∈ TB := tb3 239 rfl rfl
def y_Preconditions_checkIndex_8e157 : MethodName := ⟨R_Preconditions, "checkIndex", "(IILjava/util/function/BiFunction;)I"⟩
abbrev c_Preconditions_checkIndex_8e157 : ByteArray := prog_22_method_11_code
theorem k_Preconditions_checkIndex_8e157 : Cond.code y_Preconditions_checkIndex_8e157 c_Preconditions_checkIndex_8e157 3 (some .int) ∈ TB := tb3 233 rfl rfl
end
section
/-! THE STATE of the class and the reference behind their constructors: a fixed set of cells (dom), their data as numbers -/
abbrev Ad : Type := Nat × Nat × Nat
/-- ints, longs, kinds of rugs; by address and place -/
abbrev Sg : Type := (Nat → Nat → Nat → Nat → Int32) × (Nat → Nat → Nat → Nat → Int64) × (Nat → Nat → Nat → Nat)
/-- class tables; array classes (int, long, char, Rug, Sheet, Kind); where the cells are; where the texts and their bytes are -/
abbrev Gv : Type := va_G × (ClassId × ClassId × ClassId × ClassId × ClassId × ClassId) × (Ad → Nat) × (Nat → Nat) × (Nat → Nat)
abbrev gAd (g : Gv) : Ad → Nat := g.2.2.1
abbrev cInt (g : Gv) : ClassId := g.2.1.1
abbrev cLong (g : Gv) : ClassId := g.2.1.2.1
abbrev cChar (g : Gv) : ClassId := g.2.1.2.2.1
abbrev cRug (g : Gv) : ClassId := g.2.1.2.2.2.1
abbrev cSheet (g : Gv) : ClassId := g.2.1.2.2.2.2.1
abbrev cKind (g : Gv) : ClassId := g.2.1.2.2.2.2.2
abbrev tysG (g : Gv) : List (ClassId × FieldType) := [(cInt g, .int), (cLong g, .long), (cChar g, .char), (cRug g, .object "CarpetRealms$Rug"), (cSheet g, .object "CarpetRealms$Sheet"), (cKind g, .object "CarpetRealms$Kind")]
/-- the class of a kind, by its number -/
def kCi (k : Nat) : Nat := match k with
  | 0 => 0
  | 1 => 3
  | 2 => 8
  | 3 => 1
  | 4 => 6
  | _ => 4
/-- the kind above -/
def kAbove (g : Gv) (k : Nat) : Value := match k with
  | 0 => .null
  | 4 => .ref (gAd g (5, 1, 0))
  | 5 => .ref (gAd g (5, 2, 0))
  | _ => .ref (gAd g (5, 0, 0))
def chs (k : Nat) : List Nat := match k with
  | 0 => [99, 97, 114, 112, 101, 116, 32, 32, 114, 117, 110, 110, 101, 114, 32, 32, 118, 101, 108, 118, 101, 116, 32, 32, 109, 97, 116, 32, 32, 32, 32, 32, 115, 116, 97, 105, 114, 32, 32, 32, 115, 104, 97, 103, 32, 32, 32, 32]
  | 1 => [108, 111, 110, 103, 32, 32, 32, 32, 112, 105, 108, 101, 32, 32, 32, 32, 102, 114, 111, 109, 32, 32, 32, 32]
  | _ => [117, 112, 32, 32, 32, 32, 32, 32, 114, 97, 105, 110, 32, 32, 32, 32, 100, 114, 121, 32, 32, 32, 32, 32]
def chA (k : Nat) : Nat → Int32 := fun j => nI ((chs k).getD j 0)
/-- what a cell holds: a its address, f its ints, u its longs, d its kind -/
def entF (g : Gv) (a : Ad) (f : Nat → Int32) (u : Nat → Int64) (d : Nat) : va_E := match a with
  | (0, _, _) => .inr (10, [.ref (gAd g (10, 0, 0)), .ref (gAd g (1, 0, 0)), .ref (gAd g (1, 1, 0)), .ref (gAd g (1, 2, 0)), .ref (gAd g (2, 3, 0)), .ref (gAd g (4, 0, 0)), .ref (gAd g (16, 0, 0)), .ref (gAd g (18, 0, 0)), .int (f 0)])
  | (1, w, _) => .inr (9, [.ref (gAd g (11, w, 0)), .ref (gAd g (12, w, 0)), .int (f 0), .int (f 1), .int (f 2), .ref (gAd g (13, w, 0)), .ref (gAd g (14, w, 0)), .int (f 3)])
  | (2, _, _) => .inr (2, [.ref (gAd g (5, d, 0)), .int (f 1), .int (f 2), .int (f 3), .int (f 4), .int (f 5), .int (f 6)])
  | (3, s, _) => .inr (5, [.ref (gAd g (17, s, 0)), .int (f 0), .int (f 1)])
  | (4, _, _) => .inr (7, [.ref (gAd g (15, 0, 0)), .int (f 0), .int (f 1), .int (f 2), .int (f 3), .int (f 4)])
  | (5, k, _) => .inr (kCi k, [.int (nI k), .ref (g.2.2.2.1 k), kAbove g k])
  | (6, _, _) => .inr (11, [.ref (gAd g (20, 0, 0)), .ref (gAd g (21, 0, 0)), .ref (gAd g (22, 0, 0)), .int (f 0), .ref (gAd g (23, 0, 0)), .ref (gAd g (24, 0, 0)), .int (f 1), .int (f 2), .int (f 3), .int (f 4), .long (u 0), .ref (gAd g (25, 0, 0)), .ref (gAd g (25, 1, 0)), .ref (gAd g (25, 2, 0)), .ref (gAd g (28, 0, 0)), .ref (gAd g (29, 0, 0)), .ref (gAd g (30, 0, 0)), .ref (gAd g (31, 0, 0))])
  | (10, _, _) => .inl (cKind g, 6, .inr (.inr (.inr (.inr (fun k => some (gAd g (5, k, 0)))))))
  | (11, w, _) => .inl (cRug g, 8, .inr (.inr (.inr (.inr (fun c => some (gAd g (2, w, c)))))))
  | (12, _, _) => .inl (cInt g, 7, .inl f)
  | (13, _, _) => .inl (cInt g, 8, .inl f)
  | (14, _, _) => .inl (cLong g, 8, .inr (.inl u))
  | (15, _, _) => .inl (cInt g, 120, .inl f)
  | (16, _, _) => .inl (cSheet g, 4, .inr (.inr (.inr (.inr (fun s => some (gAd g (3, s, 0)))))))
  | (17, _, _) => .inl (cLong g, 40, .inr (.inl u))
  | (18, _, _) => .inl (cInt g, 7, .inl f)
  | (20, _, _) => .inl (cInt g, 66, .inl f)
  | (21, _, _) => .inl (cInt g, 66, .inl f)
  | (22, _, _) => .inl (cInt g, 66, .inl f)
  | (23, _, _) => .inl (cInt g, 7, .inl f)
  | (24, _, _) => .inl (cInt g, 120, .inl f)
  | (25, k, _) => .inl (cChar g, (chs k).length, .inl (chA k))
  | (28, _, _) => .inl (cInt g, 4, .inl f)
  | (29, _, _) => .inl (cInt g, 4, .inl f)
  | (30, _, _) => .inl (cLong g, 160, .inr (.inl u))
  | _ => .inl (cLong g, 40, .inr (.inl u))
def ent (g : Gv) (σ : Sg) (a : Ad) : va_E := entF g a (σ.1 a.1 a.2.1 a.2.2) (σ.2.1 a.1 a.2.1 a.2.2) (σ.2.2 a.1 a.2.1 a.2.2)
/-- the cells that there are: the class's, the reference's -/
def domW (w : Nat) : List Ad := [(1, w, 0), (11, w, 0), (12, w, 0), (13, w, 0), (14, w, 0), (2, w, 0), (2, w, 1), (2, w, 2), (2, w, 3), (2, w, 4), (2, w, 5), (2, w, 6), (2, w, 7)]
def domX : List Ad := [(0, 0, 0), (5, 0, 0), (5, 1, 0), (5, 2, 0), (5, 3, 0), (5, 4, 0), (5, 5, 0), (10, 0, 0)] ++ (domW 0 ++ (domW 1 ++ (domW 2 ++ [(2, 3, 0), (4, 0, 0), (15, 0, 0), (16, 0, 0), (3, 0, 0), (3, 1, 0), (3, 2, 0), (3, 3, 0), (17, 0, 0), (17, 1, 0), (17, 2, 0), (17, 3, 0), (18, 0, 0)])))
def domM : List Ad := [(6, 0, 0), (20, 0, 0), (21, 0, 0), (22, 0, 0), (23, 0, 0), (24, 0, 0), (25, 0, 0), (25, 1, 0), (25, 2, 0), (28, 0, 0), (29, 0, 0), (30, 0, 0), (31, 0, 0)]
def dom : List Ad := domX ++ domM
theorem dom_nd : dom.Nodup := by decide +kernel
def W0 (g : Gv) (σ : Sg) : va_W := dom.map (fun a => (gAd g a, ent g σ a))
theorem W0_at {g : Gv} {σ : Sg} {q : Nat} {a : Ad} (h : dom[q]? = some a) : (W0 g σ)[q]? = some (gAd g a, ent g σ a) := by
  unfold W0
  rw [List.getElem?_map, h]
  rfl
theorem W0_in {g : Gv} {σ : Sg} {q : Nat} {x : Nat × va_E} (h : (W0 g σ)[q]? = some x) : ∃ a, dom[q]? = some a ∧ x = (gAd g a, ent g σ a) := by
  unfold W0 at h
  rw [List.getElem?_map] at h
  cases hd : dom[q]? with
  | none => rw [hd] at h; cases h
  | some a => rw [hd] at h; exact ⟨a, rfl, (Option.some.inj h).symm⟩
theorem W0_set {g : Gv} {σ σ' : Sg} {q : Nat} {a : Ad} {e : va_E} (h : dom[q]? = some a) (he : ent g σ' a = e) (ho : ∀ b : Ad, b ≠ a → ent g σ' b = ent g σ b) : (W0 g σ).set q (gAd g a, e) = W0 g σ' := by
  apply List.ext_getElem?
  intro k
  by_cases hk : k = q
  · subst hk
    have hl : k < (W0 g σ).length := (List.getElem?_eq_some_iff.mp (W0_at (g := g) (σ := σ) h)).1
    rw [List.getElem?_set_self hl, W0_at h, he]
  · rw [List.getElem?_set_ne (Ne.symm hk)]
    unfold W0
    rw [List.getElem?_map, List.getElem?_map]
    cases hd : dom[k]? with
    | none => rfl
    | some b =>
      have hb : b ≠ a := by
        intro e
        subst e
        obtain ⟨l1, e1⟩ := List.getElem?_eq_some_iff.mp hd
        obtain ⟨l2, e2⟩ := List.getElem?_eq_some_iff.mp h
        exact hk ((List.getElem_inj dom_nd).mp (e1.trans e2.symm))
      show some (gAd g b, ent g σ b) = some (gAd g b, ent g σ' b)
      rw [ho b hb]
/-- the cells are apart -/
def Inj (g : Gv) : Prop := ∀ a ∈ dom, ∀ b ∈ dom, gAd g a = gAd g b → a = b
def AsG (g : Gv) (sz : Nat) : Nat → Prop := fun q => (∃ a, a ∈ dom ∧ gAd g a = q) ∨ sz ≤ q
theorem W0_D {g : Gv} (hi : Inj g) (σ : Sg) (sz : Nat) : va_D (AsG g sz) (W0 g σ) := by
  refine ⟨fun i j p q hp hq e => ?_, fun k q hk => ?_⟩
  · obtain ⟨a, ha, rfl⟩ := W0_in hp
    obtain ⟨b, hb, rfl⟩ := W0_in hq
    have hab := hi a (List.mem_of_getElem? ha) b (List.mem_of_getElem? hb) e
    subst hab
    obtain ⟨l1, e1⟩ := List.getElem?_eq_some_iff.mp ha
    obtain ⟨l2, e2⟩ := List.getElem?_eq_some_iff.mp hb
    exact (List.getElem_inj dom_nd).mp (e1.trans e2.symm)
  · obtain ⟨a, ha, rfl⟩ := W0_in hk
    exact Or.inl ⟨a, List.mem_of_getElem? ha, rfl⟩
/-- the texts -/
def lenK : List Nat := [6, 6, 6, 3, 5, 4, 2, 4, 3, 4, 4, 4]
def bytK : List (List Int32) := [[99, 97, 114, 112, 101, 116], [114, 117, 110, 110, 101, 114], [118, 101, 108, 118, 101, 116], [109, 97, 116], [115, 116, 97, 105, 114], [115, 104, 97, 103], [117, 112], [114, 97, 105, 110], [100, 114, 121], [108, 111, 110, 103], [112, 105, 108, 101], [102, 114, 111, 109]]
def Ex (g : Gv) (A : Nat → Prop) (U : State) (H : Heap) : Prop :=
  vk_S 12 lenK bytK g.2.2.2.1 g.2.2.2.2 A U H ∧ va_Z "java/lang/String" "COMPACT_STRINGS" "Z" (.int 1) A U H ∧ va_Zq "jdk/internal/util/Preconditions" "SIOOBE_FORMATTER" "Ljava/util/function/BiFunction;" A U H
theorem Ex.moved {g : Gv} {A : Nat → Prop} {u U : State} {H : Heap} (hvm : u.vm.Alike U.vm) (h : Ex g A u H) : Ex g A U H := ⟨h.1.moved hvm, h.2.1.moved hvm, h.2.2.moved hvm⟩
theorem Ex.kept {g : Gv} {A : Nat → Prop} {U : State} {H H1 : Heap} (h : Ex g A U H) (hq : ∀ a : Nat, a < H.size → ¬ A a → H1[a]? = H[a]?) : Ex g A U H1 := ⟨h.1.kept hq, h.2.1.kept hq, h.2.2.kept hq⟩
theorem Ex.narrow {g : Gv} {A B : Nat → Prop} {U : State} {H : Heap} (h : Ex g A U H) (hAB : ∀ q, B q → A q) : Ex g B U H := ⟨h.1.narrow hAB, h.2.1.narrow hAB, h.2.2.narrow hAB⟩
def rmD (d : Nat) : Room := { frames := d, cells := 0, slots := 0, locals := 37 * d }
/-- which constant of the pool is which text -/
def strs : List (String × Nat × String × Nat) := [("CarpetRealms$PalaceReader", 30, "up", 6), ("CarpetRealms$PalaceReader", 40, "rain", 7), ("CarpetRealms$PalaceReader", 46, "dry", 8), ("CarpetRealms$PalaceReader", 96, "long", 9), ("CarpetRealms$PalaceReader", 101, "pile", 10), ("CarpetRealms$PalaceReader", 105, "from", 11)]
def Sr (g : Gv) (U : State) : Prop := ∀ q ∈ strs, vk_R q.1 q.2.1 q.2.2.1 (g.2.2.2.1 q.2.2.2) U
/-- a method's start, its end, its contract -/
def Pre (g : Gv) (σ : Sg) (sz : Nat) (U : State) : Prop := U.heap.size = sz ∧ va_P g.1 classes (W0 g σ) U.heap ∧ va_K g.1 classes (tysG g) U ∧ Inj g ∧ Ex g (AsG g sz) U U.heap ∧ Sr g U
def Qz (g : Gv) (ρ : Option Value × Sg) (sz : Nat) : Array Value → State → Outcome → State → Prop := fun _ st o t => o = .returned ρ.1 ∧ va_P g.1 classes (W0 g ρ.2) t.heap ∧ va_F (AsG g sz) st t
def Ok (g : Gv) (y : MethodName) (cc : ByteArray) (nL : Nat) (ret : Option FieldType) (d : Nat) (av : List Value) (σ : Sg) (ρ : Option Value × Sg) : Prop :=
  ∀ (l : Launch) (sz : Nat), Met l y (.code y cc nL ret :: TB) (rmD d) (va_Pc av (Pre g σ sz)) (Qz g ρ sz) 0 0 (AsG g sz)
theorem Pre.blind {g : Gv} {av : List Value} {σ : Sg} {sz : Nat} : FrameBlind (va_Pc av (Pre g σ sz)) := by
  intro a U f mk h
  obtain ⟨h1, h2, h3, h4, h5, h6, h7⟩ := h
  exact ⟨h1, h2, h3, va_K.moved (u := U) (U := U.calling f mk a) (Vm.Alike.refl U.vm) h4, h5, Ex.moved (u := U) (U := U.calling f mk a) (Vm.Alike.refl U.vm) h6, fun q hq => vk_R.same (u := U) rfl (h7 q hq)⟩
/-- the machine in a method: program, launch, env, room, state at entry, method, arguments, frames below, method, code -/
abbrev Cx : Type := Program × Launch × Env × Room × State × MethodId × Array Value × List Frame × Method × Code
def Zc (x : Cx) (g : Gv) (cc : ByteArray) (own : String) (nL : Nat) (ret : Option FieldType) (d : Nat) : Prop := match x with
  | (p, _, _, R, s, m, args, _, meth, c) => p.tables.exec = Jvm.exec ∧ c.code = cc ∧ meth.sig.returnType = ret ∧ c.maxLocals = nL ∧ s.vm.findClass own = some m.cls ∧ (∀ w ∈ TB, w.before args s = true) ∧ meth.locks = false ∧ R = rmD d ∧ va_K g.1 classes (tysG g) s ∧ Inj g ∧ Ex g (AsG g s.heap.size) s s.heap ∧ Sr g s
def Z (x : Cx) (g : Gv) (nL : Nat) (ρ : Option Value × Sg) (pc : Nat) (L : List (Nat × Value)) (st : List Value) (σ : Sg) : Prop := match x with
  | (p, l, e, R, s, m, args, below, meth, c) => ∀ (H : Heap) (locs : List Loc) (ls : Array Slot), va_P g.1 classes (W0 g σ) H → va_S (AsG g s.heap.size) s.heap H locs → lv_has ls nL L →
      W p l e R s m args below meth c H locs 0 0 (MQ below (Qz g ρ s.heap.size) args s 0 0 (AsG g s.heap.size)) (F0 m pc ls st)
theorem AsG.mono {g : Gv} {a b : Nat} (h : a ≤ b) {q : Nat} (k : AsG g b q) : AsG g a q := k.elim Or.inl (fun z => Or.inr (Nat.le_trans h z))
/-- a contract out of its walk -/
theorem Ok.of {g : Gv} {y : MethodName} {cc : ByteArray} {nL : Nat} {ret : Option FieldType} {d : Nat} {av : List Value} {σ : Sg} {ρ : Option Value × Sg} (L0 : List (Nat × Value)) (hy : plainName y.cls = true) (hn : (lg_sl av).length ≤ nL) (hL : lv_args 0 av = L0)
    (h : ∀ x : Cx, Zc x g cc y.cls nL ret d → Z x g nL ρ 0 L0 [] σ) : Ok g y cc nL ret d av σ ρ := by
  intro l sz
  refine Met.ofW (cc := cc) (maxL := nL) (ret := ret) hy rfl ?_
  intro p e s m args below meth c s₁ B hml hv
  obtain ⟨rfl, hsz, hP, hK, hI, hE, hR⟩ := hv
  subst hsz
  have hts := atoms_spec (ws := .code y cc nL ret :: TB) B.pre
  have hown : s.vm.findClass y.cls = some m.cls := findClass_of_methodNamed B.named
  have hl := lv_entry av (n := nL) hn
  rw [hL] at hl
  rw [lg_entry_eq]
  exact h (p, l, e, (headSpec (.code y cc nL ret :: TB) (rmD d)).room, s, m, av.toArray, below, meth, c) ⟨B.exec, B.bytes, B.returns, hml, hown, fun w hw => hts w (List.mem_cons_of_mem _ hw), B.notSynchronized, rfl, hK, hI, hE, hR⟩ s.heap [] _ hP va_S.rf hl
section ROWS
variable {x : Cx} {g : Gv} {cc : ByteArray} {own : String} {nL d pc : Nat} {ret : Option FieldType} {ρ : Option Value × Sg} {L L' : List (Nat × Value)} {st : List Value} {σ : Sg}
theorem z_sub (ks : List Nat) (hl : lv_pick L ks = L') (k : Z x g nL ρ pc L' st σ) : Z x g nL ρ pc L st σ := by
  obtain ⟨p, l, e, R, s, m, args, below, meth, c⟩ := x
  intro H locs ls hP hS h
  exact k H locs ls hP hS (lv_sub h ks hl)
theorem z_iconst {n : Int} {v : Int32} (hc : Zc x g cc own nL ret d) (hd : decode cc pc = .ok (.iconst n, 1)) (hv : Int32.ofInt n = v) (k : Z x g nL ρ (pc + 1) L (.int v :: st) σ) : Z x g nL ρ pc L st σ := by
  obtain ⟨p, l, e, R, s, m, args, below, meth, c⟩ := x
  intro H locs ls hP hS h
  exact lv_iconst hc.1 hc.2.1 hd hv (k H locs ls hP hS h)
theorem z_bipush {n : Int} {v : Int32} (hc : Zc x g cc own nL ret d) (hd : decode cc pc = .ok (.bipush n, 2)) (hv : (Int8.ofInt n).toInt32 = v) (k : Z x g nL ρ (pc + 2) L (.int v :: st) σ) : Z x g nL ρ pc L st σ := by
  obtain ⟨p, l, e, R, s, m, args, below, meth, c⟩ := x
  intro H locs ls hP hS h
  exact lv_bipush hc.1 hc.2.1 hd hv (k H locs ls hP hS h)
theorem z_sipush {n : Int} {v : Int32} (hc : Zc x g cc own nL ret d) (hd : decode cc pc = .ok (.sipush n, 3)) (hv : (Int16.ofInt n).toInt32 = v) (k : Z x g nL ρ (pc + 3) L (.int v :: st) σ) : Z x g nL ρ pc L st σ := by
  obtain ⟨p, l, e, R, s, m, args, below, meth, c⟩ := x
  intro H locs ls hP hS h
  exact lv_sipush hc.1 hc.2.1 hd hv (k H locs ls hP hS h)
theorem z_lconst {n : Fin 2} {v : Int64} (hc : Zc x g cc own nL ret d) (hd : decode cc pc = .ok (.lconst n, 1)) (hv : Int64.ofNat (n : Nat) = v) (k : Z x g nL ρ (pc + 1) L (.long v :: st) σ) : Z x g nL ρ pc L st σ := by
  obtain ⟨p, l, e, R, s, m, args, below, meth, c⟩ := x
  intro H locs ls hP hS h
  exact lv_lconst hc.1 hc.2.1 hd hv (k H locs ls hP hS h)
theorem z_ldc {v : Int32} {idx : Nat} (hc : Zc x g cc own nL ret d) (hw : Cond.constant own idx v ∈ TB) (hd : decode cc pc = .ok (.ldc idx, 2)) (k : Z x g nL ρ (pc + 2) L (.int v :: st) σ) : Z x g nL ρ pc L st σ := by
  obtain ⟨p, l, e, R, s, m, args, below, meth, c⟩ := x
  intro H locs ls hP hS h
  exact lv_ldc hc.1 hc.2.1 hc.2.2.2.2.1 (hc.2.2.2.2.2.1 _ hw) hd (k H locs ls hP hS h)
theorem z_ldcw {v : Int32} {idx : Nat} (hc : Zc x g cc own nL ret d) (hw : Cond.constant own idx v ∈ TB) (hd : decode cc pc = .ok (.ldc_w idx, 3)) (k : Z x g nL ρ (pc + 3) L (.int v :: st) σ) : Z x g nL ρ pc L st σ := by
  obtain ⟨p, l, e, R, s, m, args, below, meth, c⟩ := x
  intro H locs ls hP hS h
  exact lv_ldcw hc.1 hc.2.1 hc.2.2.2.2.1 (hc.2.2.2.2.2.1 _ hw) hd (k H locs ls hP hS h)
theorem z_ldc2 {v : Int64} {idx : Nat} (hc : Zc x g cc own nL ret d) (hw : Cond.constantLong own idx v ∈ TB) (hd : decode cc pc = .ok (.ldc2_w idx, 3)) (k : Z x g nL ρ (pc + 3) L (.long v :: st) σ) : Z x g nL ρ pc L st σ := by
  obtain ⟨p, l, e, R, s, m, args, below, meth, c⟩ := x
  intro H locs ls hP hS h
  exact lv_ldc2 hc.1 hc.2.1 hc.2.2.2.2.1 (hc.2.2.2.2.2.1 _ hw) hd (k H locs ls hP hS h)
theorem z_ldcS {tx : String} {idx i : Nat} (hc : Zc x g cc own nL ret d) (hw : (own, idx, tx, i) ∈ strs) (hd : decode cc pc = .ok (.ldc idx, 2)) (k : Z x g nL ρ (pc + 2) L (.ref (g.2.2.2.1 i) :: st) σ) : Z x g nL ρ pc L st σ := by
  obtain ⟨p, l, e, R, s, m, args, below, meth, c⟩ := x
  intro H locs ls hP hS h
  exact va_ldcS hc.1 hc.2.1 hc.2.2.2.2.1 (hc.2.2.2.2.2.2.2.2.2.2.2 _ hw) hd (k H locs ls hP hS h)
theorem z_iload_n {n : Fin 4} {i j : Nat} {v : Int32} (hc : Zc x g cc own nL ret d) (hd : decode cc pc = .ok (.iload_n n, 1)) (j : Nat) (hL : L[j]? = some ((n : Nat), .int v)) (k : Z x g nL ρ (pc + 1) L (.int v :: st) σ) : Z x g nL ρ pc L st σ := by
  obtain ⟨p, l, e, R, s, m, args, below, meth, c⟩ := x
  intro H locs ls hP hS h
  exact lv_iload_n hc.1 hc.2.1 hd rfl (lv_at h j hL) (k H locs ls hP hS h)
theorem z_iload {i : Nat} {v : Int32} (hc : Zc x g cc own nL ret d) (hd : decode cc pc = .ok (.iload i, 2)) (j : Nat) (hL : L[j]? = some (i, .int v)) (k : Z x g nL ρ (pc + 2) L (.int v :: st) σ) : Z x g nL ρ pc L st σ := by
  obtain ⟨p, l, e, R, s, m, args, below, meth, c⟩ := x
  intro H locs ls hP hS h
  exact lv_iload hc.1 hc.2.1 hd (lv_at h j hL) (k H locs ls hP hS h)
theorem z_lload_n {n : Fin 4} {v : Int64} (hc : Zc x g cc own nL ret d) (hd : decode cc pc = .ok (.lload_n n, 1)) (j : Nat) (hL : L[j]? = some ((n : Nat), .long v)) (k : Z x g nL ρ (pc + 1) L (.long v :: st) σ) : Z x g nL ρ pc L st σ := by
  obtain ⟨p, l, e, R, s, m, args, below, meth, c⟩ := x
  intro H locs ls hP hS h
  exact lv_lload_n hc.1 hc.2.1 hd rfl (lv_at h j hL) (k H locs ls hP hS h)
theorem z_lload {i : Nat} {v : Int64} (hc : Zc x g cc own nL ret d) (hd : decode cc pc = .ok (.lload i, 2)) (j : Nat) (hL : L[j]? = some (i, .long v)) (k : Z x g nL ρ (pc + 2) L (.long v :: st) σ) : Z x g nL ρ pc L st σ := by
  obtain ⟨p, l, e, R, s, m, args, below, meth, c⟩ := x
  intro H locs ls hP hS h
  exact lv_lload hc.1 hc.2.1 hd (lv_at h j hL) (k H locs ls hP hS h)
theorem z_aload_n {n : Fin 4} {v : Nat} (hc : Zc x g cc own nL ret d) (hd : decode cc pc = .ok (.aload_n n, 1)) (j : Nat) (hL : L[j]? = some ((n : Nat), .ref v)) (k : Z x g nL ρ (pc + 1) L (.ref v :: st) σ) : Z x g nL ρ pc L st σ := by
  obtain ⟨p, l, e, R, s, m, args, below, meth, c⟩ := x
  intro H locs ls hP hS h
  exact lv_aload_n hc.1 hc.2.1 hd rfl (lv_at h j hL) (k H locs ls hP hS h)
theorem z_aload {i : Nat} {v : Nat} (hc : Zc x g cc own nL ret d) (hd : decode cc pc = .ok (.aload i, 2)) (j : Nat) (hL : L[j]? = some (i, .ref v)) (k : Z x g nL ρ (pc + 2) L (.ref v :: st) σ) : Z x g nL ρ pc L st σ := by
  obtain ⟨p, l, e, R, s, m, args, below, meth, c⟩ := x
  intro H locs ls hP hS h
  exact lv_aload hc.1 hc.2.1 hd (lv_at h j hL) (k H locs ls hP hS h)
theorem z_istore_n {n : Fin 4} {v : Int32} (hc : Zc x g cc own nL ret d) (hd : decode cc pc = .ok (.istore_n n, 1)) (hn : (n : Nat) < nL) (hL : ((n : Nat), Value.int v) :: L.filter (fun q => !(q.1 == (n : Nat)) && !(q.1 + 1 == (n : Nat) && q.2.category == 2)) = L') (k : Z x g nL ρ (pc + 1) L' st σ) : Z x g nL ρ pc L (.int v :: st) σ := by
  obtain ⟨p, l, e, R, s, m, args, below, meth, c⟩ := x
  intro H locs ls hP hS h
  exact lv_istore_n hc.1 hc.2.1 hd rfl h hn hL (fun ls h => k H locs ls hP hS h)
theorem z_istore {i : Nat} {v : Int32} (hc : Zc x g cc own nL ret d) (hd : decode cc pc = .ok (.istore i, 2)) (hn : i < nL) (hL : (i, Value.int v) :: L.filter (fun q => !(q.1 == i) && !(q.1 + 1 == i && q.2.category == 2)) = L') (k : Z x g nL ρ (pc + 2) L' st σ) : Z x g nL ρ pc L (.int v :: st) σ := by
  obtain ⟨p, l, e, R, s, m, args, below, meth, c⟩ := x
  intro H locs ls hP hS h
  exact lv_istore hc.1 hc.2.1 hd h hn hL (fun ls h => k H locs ls hP hS h)
theorem z_lstore_n {n : Fin 4} {v : Int64} (hc : Zc x g cc own nL ret d) (hd : decode cc pc = .ok (.lstore_n n, 1)) (hn : (n : Nat) + 1 < nL) (hL : ((n : Nat), Value.long v) :: L.filter (fun q => !(q.1 == (n : Nat)) && (!(q.1 == (n : Nat) + 1) && !(q.1 + 1 == (n : Nat) && q.2.category == 2))) = L') (k : Z x g nL ρ (pc + 1) L' st σ) : Z x g nL ρ pc L (.long v :: st) σ := by
  obtain ⟨p, l, e, R, s, m, args, below, meth, c⟩ := x
  intro H locs ls hP hS h
  exact lv_lstore_n hc.1 hc.2.1 hd rfl h hn hL (fun ls h => k H locs ls hP hS h)
theorem z_lstore {i : Nat} {v : Int64} (hc : Zc x g cc own nL ret d) (hd : decode cc pc = .ok (.lstore i, 2)) (hn : i + 1 < nL) (hL : (i, Value.long v) :: L.filter (fun q => !(q.1 == i) && (!(q.1 == i + 1) && !(q.1 + 1 == i && q.2.category == 2))) = L') (k : Z x g nL ρ (pc + 2) L' st σ) : Z x g nL ρ pc L (.long v :: st) σ := by
  obtain ⟨p, l, e, R, s, m, args, below, meth, c⟩ := x
  intro H locs ls hP hS h
  exact lv_lstore hc.1 hc.2.1 hd h hn hL (fun ls h => k H locs ls hP hS h)
theorem z_astore_n {n : Fin 4} {v : Nat} (hc : Zc x g cc own nL ret d) (hd : decode cc pc = .ok (.astore_n n, 1)) (hn : (n : Nat) < nL) (hL : ((n : Nat), Value.ref v) :: L.filter (fun q => !(q.1 == (n : Nat)) && !(q.1 + 1 == (n : Nat) && q.2.category == 2)) = L') (k : Z x g nL ρ (pc + 1) L' st σ) : Z x g nL ρ pc L (.ref v :: st) σ := by
  obtain ⟨p, l, e, R, s, m, args, below, meth, c⟩ := x
  intro H locs ls hP hS h
  exact lv_astore_n hc.1 hc.2.1 hd rfl h hn hL (fun ls h => k H locs ls hP hS h)
theorem z_astore {i : Nat} {v : Nat} (hc : Zc x g cc own nL ret d) (hd : decode cc pc = .ok (.astore i, 2)) (hn : i < nL) (hL : (i, Value.ref v) :: L.filter (fun q => !(q.1 == i) && !(q.1 + 1 == i && q.2.category == 2)) = L') (k : Z x g nL ρ (pc + 2) L' st σ) : Z x g nL ρ pc L (.ref v :: st) σ := by
  obtain ⟨p, l, e, R, s, m, args, below, meth, c⟩ := x
  intro H locs ls hP hS h
  exact lv_astore hc.1 hc.2.1 hd h hn hL (fun ls h => k H locs ls hP hS h)
theorem z_iinc {i j : Nat} {n : Int} {y v : Int32} (hc : Zc x g cc own nL ret d) (hd : decode cc pc = .ok (.iinc i n, 3)) (j : Nat) (hj : L[j]? = some (i, .int y)) (hv : y + Int32.ofInt n = v) (hn : i < nL) (hL : (i, Value.int v) :: L.filter (fun q => !(q.1 == i) && !(q.1 + 1 == i && q.2.category == 2)) = L') (k : Z x g nL ρ (pc + 3) L' st σ) : Z x g nL ρ pc L st σ := by
  obtain ⟨p, l, e, R, s, m, args, below, meth, c⟩ := x
  intro H locs ls hP hS h
  exact lv_iinc hc.1 hc.2.1 hd h hj hv hn hL (fun ls h => k H locs ls hP hS h)
theorem z_iadd {a b : Int32} (hc : Zc x g cc own nL ret d) (hd : decode cc pc = .ok (.iadd, 1)) (k : Z x g nL ρ (pc + 1) L (.int (a + b) :: st) σ) : Z x g nL ρ pc L (.int b :: .int a :: st) σ := by
  obtain ⟨p, l, e, R, s, m, args, below, meth, c⟩ := x
  intro H locs ls hP hS h
  exact lv_iadd hc.1 hc.2.1 hd (k H locs ls hP hS h)
theorem z_isub {a b : Int32} (hc : Zc x g cc own nL ret d) (hd : decode cc pc = .ok (.isub, 1)) (k : Z x g nL ρ (pc + 1) L (.int (a - b) :: st) σ) : Z x g nL ρ pc L (.int b :: .int a :: st) σ := by
  obtain ⟨p, l, e, R, s, m, args, below, meth, c⟩ := x
  intro H locs ls hP hS h
  exact lv_isub hc.1 hc.2.1 hd (k H locs ls hP hS h)
theorem z_imul {a b : Int32} (hc : Zc x g cc own nL ret d) (hd : decode cc pc = .ok (.imul, 1)) (k : Z x g nL ρ (pc + 1) L (.int (a * b) :: st) σ) : Z x g nL ρ pc L (.int b :: .int a :: st) σ := by
  obtain ⟨p, l, e, R, s, m, args, below, meth, c⟩ := x
  intro H locs ls hP hS h
  exact lv_imul hc.1 hc.2.1 hd (k H locs ls hP hS h)
theorem z_iand {a b : Int32} (hc : Zc x g cc own nL ret d) (hd : decode cc pc = .ok (.iand, 1)) (k : Z x g nL ρ (pc + 1) L (.int (a &&& b) :: st) σ) : Z x g nL ρ pc L (.int b :: .int a :: st) σ := by
  obtain ⟨p, l, e, R, s, m, args, below, meth, c⟩ := x
  intro H locs ls hP hS h
  exact lv_iand hc.1 hc.2.1 hd (k H locs ls hP hS h)
theorem z_ior {a b : Int32} (hc : Zc x g cc own nL ret d) (hd : decode cc pc = .ok (.ior, 1)) (k : Z x g nL ρ (pc + 1) L (.int (a ||| b) :: st) σ) : Z x g nL ρ pc L (.int b :: .int a :: st) σ := by
  obtain ⟨p, l, e, R, s, m, args, below, meth, c⟩ := x
  intro H locs ls hP hS h
  exact lv_ior hc.1 hc.2.1 hd (k H locs ls hP hS h)
theorem z_ixor {a b : Int32} (hc : Zc x g cc own nL ret d) (hd : decode cc pc = .ok (.ixor, 1)) (k : Z x g nL ρ (pc + 1) L (.int (a ^^^ b) :: st) σ) : Z x g nL ρ pc L (.int b :: .int a :: st) σ := by
  obtain ⟨p, l, e, R, s, m, args, below, meth, c⟩ := x
  intro H locs ls hP hS h
  exact lv_ixor hc.1 hc.2.1 hd (k H locs ls hP hS h)
theorem z_idiv {a b : Int32} (hc : Zc x g cc own nL ret d) (hd : decode cc pc = .ok (.idiv, 1)) (hne : ¬ b = 0) (k : Z x g nL ρ (pc + 1) L (.int (a / b) :: st) σ) : Z x g nL ρ pc L (.int b :: .int a :: st) σ := by
  obtain ⟨p, l, e, R, s, m, args, below, meth, c⟩ := x
  intro H locs ls hP hS h
  exact lv_idiv hc.1 hc.2.1 hd hne (k H locs ls hP hS h)
theorem z_irem {a b : Int32} (hc : Zc x g cc own nL ret d) (hd : decode cc pc = .ok (.irem, 1)) (hne : ¬ b = 0) (k : Z x g nL ρ (pc + 1) L (.int (a - a / b * b) :: st) σ) : Z x g nL ρ pc L (.int b :: .int a :: st) σ := by
  obtain ⟨p, l, e, R, s, m, args, below, meth, c⟩ := x
  intro H locs ls hP hS h
  exact lv_irem hc.1 hc.2.1 hd hne (k H locs ls hP hS h)
theorem z_ishl {a b : Int32} (hc : Zc x g cc own nL ret d) (hd : decode cc pc = .ok (.ishl, 1)) (k : Z x g nL ρ (pc + 1) L (.int (a <<< (b &&& 31)) :: st) σ) : Z x g nL ρ pc L (.int b :: .int a :: st) σ := by
  obtain ⟨p, l, e, R, s, m, args, below, meth, c⟩ := x
  intro H locs ls hP hS h
  exact lv_ishl hc.1 hc.2.1 hd (k H locs ls hP hS h)
theorem z_ishr {a b : Int32} (hc : Zc x g cc own nL ret d) (hd : decode cc pc = .ok (.ishr, 1)) (k : Z x g nL ρ (pc + 1) L (.int (a >>> (b &&& 31)) :: st) σ) : Z x g nL ρ pc L (.int b :: .int a :: st) σ := by
  obtain ⟨p, l, e, R, s, m, args, below, meth, c⟩ := x
  intro H locs ls hP hS h
  exact lv_ishr hc.1 hc.2.1 hd (k H locs ls hP hS h)
theorem z_iushr {a b : Int32} (hc : Zc x g cc own nL ret d) (hd : decode cc pc = .ok (.iushr, 1)) (k : Z x g nL ρ (pc + 1) L (.int ((a.toUInt32 >>> (b.toUInt32 &&& Int32.toUInt32 31)).toInt32) :: st) σ) : Z x g nL ρ pc L (.int b :: .int a :: st) σ := by
  obtain ⟨p, l, e, R, s, m, args, below, meth, c⟩ := x
  intro H locs ls hP hS h
  exact lv_iushr hc.1 hc.2.1 hd rfl (k H locs ls hP hS h)
theorem z_lushr {a : Int64} {b : Int32} (hc : Zc x g cc own nL ret d) (hd : decode cc pc = .ok (.lushr, 1)) (k : Z x g nL ρ (pc + 1) L (.long ((a.toUInt64 >>> (b.toInt64.toUInt64 &&& Int64.toUInt64 63)).toInt64) :: st) σ) : Z x g nL ρ pc L (.int b :: .long a :: st) σ := by
  obtain ⟨p, l, e, R, s, m, args, below, meth, c⟩ := x
  intro H locs ls hP hS h
  exact lv_lushr hc.1 hc.2.1 hd rfl (k H locs ls hP hS h)
theorem z_lshl {a : Int64} {b : Int32} (hc : Zc x g cc own nL ret d) (hd : decode cc pc = .ok (.lshl, 1)) (k : Z x g nL ρ (pc + 1) L (.long (a <<< (b.toInt64 &&& 63)) :: st) σ) : Z x g nL ρ pc L (.int b :: .long a :: st) σ := by
  obtain ⟨p, l, e, R, s, m, args, below, meth, c⟩ := x
  intro H locs ls hP hS h
  exact lv_lshl hc.1 hc.2.1 hd rfl (k H locs ls hP hS h)
theorem z_ladd {a b : Int64} (hc : Zc x g cc own nL ret d) (hd : decode cc pc = .ok (.ladd, 1)) (k : Z x g nL ρ (pc + 1) L (.long (a + b) :: st) σ) : Z x g nL ρ pc L (.long b :: .long a :: st) σ := by
  obtain ⟨p, l, e, R, s, m, args, below, meth, c⟩ := x
  intro H locs ls hP hS h
  exact lv_ladd hc.1 hc.2.1 hd (k H locs ls hP hS h)
theorem z_lsub {a b : Int64} (hc : Zc x g cc own nL ret d) (hd : decode cc pc = .ok (.lsub, 1)) (k : Z x g nL ρ (pc + 1) L (.long (a - b) :: st) σ) : Z x g nL ρ pc L (.long b :: .long a :: st) σ := by
  obtain ⟨p, l, e, R, s, m, args, below, meth, c⟩ := x
  intro H locs ls hP hS h
  exact lv_lsub hc.1 hc.2.1 hd (k H locs ls hP hS h)
theorem z_lmul {a b : Int64} (hc : Zc x g cc own nL ret d) (hd : decode cc pc = .ok (.lmul, 1)) (k : Z x g nL ρ (pc + 1) L (.long (a * b) :: st) σ) : Z x g nL ρ pc L (.long b :: .long a :: st) σ := by
  obtain ⟨p, l, e, R, s, m, args, below, meth, c⟩ := x
  intro H locs ls hP hS h
  exact lv_lmul hc.1 hc.2.1 hd (k H locs ls hP hS h)
theorem z_land {a b : Int64} (hc : Zc x g cc own nL ret d) (hd : decode cc pc = .ok (.land, 1)) (k : Z x g nL ρ (pc + 1) L (.long (a &&& b) :: st) σ) : Z x g nL ρ pc L (.long b :: .long a :: st) σ := by
  obtain ⟨p, l, e, R, s, m, args, below, meth, c⟩ := x
  intro H locs ls hP hS h
  exact lv_land hc.1 hc.2.1 hd (k H locs ls hP hS h)
theorem z_lor {a b : Int64} (hc : Zc x g cc own nL ret d) (hd : decode cc pc = .ok (.lor, 1)) (k : Z x g nL ρ (pc + 1) L (.long (a ||| b) :: st) σ) : Z x g nL ρ pc L (.long b :: .long a :: st) σ := by
  obtain ⟨p, l, e, R, s, m, args, below, meth, c⟩ := x
  intro H locs ls hP hS h
  exact lv_lor hc.1 hc.2.1 hd (k H locs ls hP hS h)
theorem z_lxor {a b : Int64} (hc : Zc x g cc own nL ret d) (hd : decode cc pc = .ok (.lxor, 1)) (k : Z x g nL ρ (pc + 1) L (.long (a ^^^ b) :: st) σ) : Z x g nL ρ pc L (.long b :: .long a :: st) σ := by
  obtain ⟨p, l, e, R, s, m, args, below, meth, c⟩ := x
  intro H locs ls hP hS h
  exact lv_lxor hc.1 hc.2.1 hd (k H locs ls hP hS h)
theorem z_lcmp {a b : Int64} (hc : Zc x g cc own nL ret d) (hd : decode cc pc = .ok (.lcmp, 1)) (k : Z x g nL ρ (pc + 1) L (.int (lg_cmp a b) :: st) σ) : Z x g nL ρ pc L (.long b :: .long a :: st) σ := by
  obtain ⟨p, l, e, R, s, m, args, below, meth, c⟩ := x
  intro H locs ls hP hS h
  exact W.lcmp hc.1 hc.2.1 hd (k H locs ls hP hS h)
theorem z_i2l {a : Int32} (hc : Zc x g cc own nL ret d) (hd : decode cc pc = .ok (.i2l, 1)) (k : Z x g nL ρ (pc + 1) L (.long a.toInt64 :: st) σ) : Z x g nL ρ pc L (.int a :: st) σ := by
  obtain ⟨p, l, e, R, s, m, args, below, meth, c⟩ := x
  intro H locs ls hP hS h
  exact lv_i2l hc.1 hc.2.1 hd rfl (k H locs ls hP hS h)
theorem z_l2i {a : Int64} (hc : Zc x g cc own nL ret d) (hd : decode cc pc = .ok (.l2i, 1)) (k : Z x g nL ρ (pc + 1) L (.int a.toInt32 :: st) σ) : Z x g nL ρ pc L (.long a :: st) σ := by
  obtain ⟨p, l, e, R, s, m, args, below, meth, c⟩ := x
  intro H locs ls hP hS h
  exact lv_l2i hc.1 hc.2.1 hd rfl (k H locs ls hP hS h)
theorem z_i2b {a : Int32} (hc : Zc x g cc own nL ret d) (hd : decode cc pc = .ok (.i2b, 1)) (k : Z x g nL ρ (pc + 1) L (.int a.toInt8.toInt32 :: st) σ) : Z x g nL ρ pc L (.int a :: st) σ := by
  obtain ⟨p, l, e, R, s, m, args, below, meth, c⟩ := x
  intro H locs ls hP hS h
  exact lv_i2b hc.1 hc.2.1 hd rfl (k H locs ls hP hS h)
theorem z_i2s {a : Int32} (hc : Zc x g cc own nL ret d) (hd : decode cc pc = .ok (.i2s, 1)) (k : Z x g nL ρ (pc + 1) L (.int a.toInt16.toInt32 :: st) σ) : Z x g nL ρ pc L (.int a :: st) σ := by
  obtain ⟨p, l, e, R, s, m, args, below, meth, c⟩ := x
  intro H locs ls hP hS h
  exact lv_i2s hc.1 hc.2.1 hd rfl (k H locs ls hP hS h)
theorem z_i2c {a : Int32} (hc : Zc x g cc own nL ret d) (hd : decode cc pc = .ok (.i2c, 1)) (k : Z x g nL ρ (pc + 1) L (.int (a.toUInt32 % 65536).toInt32 :: st) σ) : Z x g nL ρ pc L (.int a :: st) σ := by
  obtain ⟨p, l, e, R, s, m, args, below, meth, c⟩ := x
  intro H locs ls hP hS h
  exact lv_i2c hc.1 hc.2.1 hd rfl (k H locs ls hP hS h)
theorem z_dup {va : Value} (hc : Zc x g cc own nL ret d) (hd : decode cc pc = .ok (.dup, 1)) (h1 : va.category = 1) (k : Z x g nL ρ (pc + 1) L (va :: va :: st) σ) : Z x g nL ρ pc L (va :: st) σ := by
  obtain ⟨p, l, e, R, s, m, args, below, meth, c⟩ := x
  intro H locs ls hP hS h
  exact lv_dup hc.1 hc.2.1 hd h1 (k H locs ls hP hS h)
theorem z_pop {va : Value} (hc : Zc x g cc own nL ret d) (hd : decode cc pc = .ok (.pop, 1)) (h1 : va.category = 1) (k : Z x g nL ρ (pc + 1) L st σ) : Z x g nL ρ pc L (va :: st) σ := by
  obtain ⟨p, l, e, R, s, m, args, below, meth, c⟩ := x
  intro H locs ls hP hS h
  exact lv_pop hc.1 hc.2.1 hd h1 (k H locs ls hP hS h)
theorem z_dup2 {va vb : Value} (hc : Zc x g cc own nL ret d) (hd : decode cc pc = .ok (.dup2, 1)) (h1 : va.category = 1) (h2 : vb.category = 1) (k : Z x g nL ρ (pc + 1) L (va :: vb :: va :: vb :: st) σ) : Z x g nL ρ pc L (va :: vb :: st) σ := by
  obtain ⟨p, l, e, R, s, m, args, below, meth, c⟩ := x
  intro H locs ls hP hS h
  exact lv_dup2_11 hc.1 hc.2.1 hd h1 h2 (k H locs ls hP hS h)
theorem z_goto {off : Int} {tgt : Nat} (hc : Zc x g cc own nL ret d) (hd : decode cc pc = .ok (.goto off, 3)) (ht : (pc : Int) + off = (tgt : Int)) (k : Z x g nL ρ tgt L st σ) : Z x g nL ρ pc L st σ := by
  obtain ⟨p, l, e, R, s, m, args, below, meth, c⟩ := x
  intro H locs ls hP hS h
  exact lv_goto hc.1 hc.2.1 hd ht (k H locs ls hP hS h)
theorem z_if_eq {a : Int32} {off : Int} {tgt : Nat} (hc : Zc x g cc own nL ret d) (hd : decode cc pc = .ok (.ifCond .eq off, 3)) (ht : (pc : Int) + off = (tgt : Int)) (kt : a = 0 → Z x g nL ρ tgt L st σ) (kf : ¬ (a = 0) → Z x g nL ρ (pc + 3) L st σ) : Z x g nL ρ pc L (.int a :: st) σ := by
  obtain ⟨p, l, e, R, s, m, args, below, meth, c⟩ := x
  intro H locs ls hP hS h
  exact lv_if_eq hc.1 hc.2.1 hd ht (fun q => kt q H locs ls hP hS h) (fun q => kf q H locs ls hP hS h)
theorem z_icmp_eq {a b : Int32} {off : Int} {tgt : Nat} (hc : Zc x g cc own nL ret d) (hd : decode cc pc = .ok (.if_icmp .eq off, 3)) (ht : (pc : Int) + off = (tgt : Int)) (kt : a = b → Z x g nL ρ tgt L st σ) (kf : ¬ (a = b) → Z x g nL ρ (pc + 3) L st σ) : Z x g nL ρ pc L (.int b :: .int a :: st) σ := by
  obtain ⟨p, l, e, R, s, m, args, below, meth, c⟩ := x
  intro H locs ls hP hS h
  exact lv_icmp_eq hc.1 hc.2.1 hd ht (fun q => kt q H locs ls hP hS h) (fun q => kf q H locs ls hP hS h)
theorem z_if_ne {a : Int32} {off : Int} {tgt : Nat} (hc : Zc x g cc own nL ret d) (hd : decode cc pc = .ok (.ifCond .ne off, 3)) (ht : (pc : Int) + off = (tgt : Int)) (kt : ¬ a = 0 → Z x g nL ρ tgt L st σ) (kf : a = 0 → Z x g nL ρ (pc + 3) L st σ) : Z x g nL ρ pc L (.int a :: st) σ := by
  obtain ⟨p, l, e, R, s, m, args, below, meth, c⟩ := x
  intro H locs ls hP hS h
  exact lv_if_ne hc.1 hc.2.1 hd ht (fun q => kt q H locs ls hP hS h) (fun q => kf q H locs ls hP hS h)
theorem z_icmp_ne {a b : Int32} {off : Int} {tgt : Nat} (hc : Zc x g cc own nL ret d) (hd : decode cc pc = .ok (.if_icmp .ne off, 3)) (ht : (pc : Int) + off = (tgt : Int)) (kt : ¬ a = b → Z x g nL ρ tgt L st σ) (kf : a = b → Z x g nL ρ (pc + 3) L st σ) : Z x g nL ρ pc L (.int b :: .int a :: st) σ := by
  obtain ⟨p, l, e, R, s, m, args, below, meth, c⟩ := x
  intro H locs ls hP hS h
  exact lv_icmp_ne hc.1 hc.2.1 hd ht (fun q => kt q H locs ls hP hS h) (fun q => kf q H locs ls hP hS h)
theorem z_if_lt {a : Int32} {off : Int} {tgt : Nat} (hc : Zc x g cc own nL ret d) (hd : decode cc pc = .ok (.ifCond .lt off, 3)) (ht : (pc : Int) + off = (tgt : Int)) (kt : a < 0 → Z x g nL ρ tgt L st σ) (kf : ¬ (a < 0) → Z x g nL ρ (pc + 3) L st σ) : Z x g nL ρ pc L (.int a :: st) σ := by
  obtain ⟨p, l, e, R, s, m, args, below, meth, c⟩ := x
  intro H locs ls hP hS h
  exact lv_if_lt hc.1 hc.2.1 hd ht (fun q => kt q H locs ls hP hS h) (fun q => kf q H locs ls hP hS h)
theorem z_icmp_lt {a b : Int32} {off : Int} {tgt : Nat} (hc : Zc x g cc own nL ret d) (hd : decode cc pc = .ok (.if_icmp .lt off, 3)) (ht : (pc : Int) + off = (tgt : Int)) (kt : a < b → Z x g nL ρ tgt L st σ) (kf : ¬ (a < b) → Z x g nL ρ (pc + 3) L st σ) : Z x g nL ρ pc L (.int b :: .int a :: st) σ := by
  obtain ⟨p, l, e, R, s, m, args, below, meth, c⟩ := x
  intro H locs ls hP hS h
  exact lv_icmp_lt hc.1 hc.2.1 hd ht (fun q => kt q H locs ls hP hS h) (fun q => kf q H locs ls hP hS h)
theorem z_if_ge {a : Int32} {off : Int} {tgt : Nat} (hc : Zc x g cc own nL ret d) (hd : decode cc pc = .ok (.ifCond .ge off, 3)) (ht : (pc : Int) + off = (tgt : Int)) (kt : 0 ≤ a → Z x g nL ρ tgt L st σ) (kf : ¬ (0 ≤ a) → Z x g nL ρ (pc + 3) L st σ) : Z x g nL ρ pc L (.int a :: st) σ := by
  obtain ⟨p, l, e, R, s, m, args, below, meth, c⟩ := x
  intro H locs ls hP hS h
  exact lv_if_ge hc.1 hc.2.1 hd ht (fun q => kt q H locs ls hP hS h) (fun q => kf q H locs ls hP hS h)
theorem z_icmp_ge {a b : Int32} {off : Int} {tgt : Nat} (hc : Zc x g cc own nL ret d) (hd : decode cc pc = .ok (.if_icmp .ge off, 3)) (ht : (pc : Int) + off = (tgt : Int)) (kt : b ≤ a → Z x g nL ρ tgt L st σ) (kf : ¬ (b ≤ a) → Z x g nL ρ (pc + 3) L st σ) : Z x g nL ρ pc L (.int b :: .int a :: st) σ := by
  obtain ⟨p, l, e, R, s, m, args, below, meth, c⟩ := x
  intro H locs ls hP hS h
  exact lv_icmp_ge hc.1 hc.2.1 hd ht (fun q => kt q H locs ls hP hS h) (fun q => kf q H locs ls hP hS h)
theorem z_if_gt {a : Int32} {off : Int} {tgt : Nat} (hc : Zc x g cc own nL ret d) (hd : decode cc pc = .ok (.ifCond .gt off, 3)) (ht : (pc : Int) + off = (tgt : Int)) (kt : 0 < a → Z x g nL ρ tgt L st σ) (kf : ¬ (0 < a) → Z x g nL ρ (pc + 3) L st σ) : Z x g nL ρ pc L (.int a :: st) σ := by
  obtain ⟨p, l, e, R, s, m, args, below, meth, c⟩ := x
  intro H locs ls hP hS h
  exact lv_if_gt hc.1 hc.2.1 hd ht (fun q => kt q H locs ls hP hS h) (fun q => kf q H locs ls hP hS h)
theorem z_icmp_gt {a b : Int32} {off : Int} {tgt : Nat} (hc : Zc x g cc own nL ret d) (hd : decode cc pc = .ok (.if_icmp .gt off, 3)) (ht : (pc : Int) + off = (tgt : Int)) (kt : b < a → Z x g nL ρ tgt L st σ) (kf : ¬ (b < a) → Z x g nL ρ (pc + 3) L st σ) : Z x g nL ρ pc L (.int b :: .int a :: st) σ := by
  obtain ⟨p, l, e, R, s, m, args, below, meth, c⟩ := x
  intro H locs ls hP hS h
  exact lv_icmp_gt hc.1 hc.2.1 hd ht (fun q => kt q H locs ls hP hS h) (fun q => kf q H locs ls hP hS h)
theorem z_if_le {a : Int32} {off : Int} {tgt : Nat} (hc : Zc x g cc own nL ret d) (hd : decode cc pc = .ok (.ifCond .le off, 3)) (ht : (pc : Int) + off = (tgt : Int)) (kt : a ≤ 0 → Z x g nL ρ tgt L st σ) (kf : ¬ (a ≤ 0) → Z x g nL ρ (pc + 3) L st σ) : Z x g nL ρ pc L (.int a :: st) σ := by
  obtain ⟨p, l, e, R, s, m, args, below, meth, c⟩ := x
  intro H locs ls hP hS h
  exact lv_if_le hc.1 hc.2.1 hd ht (fun q => kt q H locs ls hP hS h) (fun q => kf q H locs ls hP hS h)
theorem z_icmp_le {a b : Int32} {off : Int} {tgt : Nat} (hc : Zc x g cc own nL ret d) (hd : decode cc pc = .ok (.if_icmp .le off, 3)) (ht : (pc : Int) + off = (tgt : Int)) (kt : a ≤ b → Z x g nL ρ tgt L st σ) (kf : ¬ (a ≤ b) → Z x g nL ρ (pc + 3) L st σ) : Z x g nL ρ pc L (.int b :: .int a :: st) σ := by
  obtain ⟨p, l, e, R, s, m, args, below, meth, c⟩ := x
  intro H locs ls hP hS h
  exact lv_icmp_le hc.1 hc.2.1 hd ht (fun q => kt q H locs ls hP hS h) (fun q => kf q H locs ls hP hS h)
theorem z_tab {a : Int32} {dflt lo hi : Int} {offs : Array Int} {len tgt : Nat} {off : Int} (v : Int32) (hc : Zc x g cc own nL ret d) (hd : decode cc pc = .ok (.tableswitch dflt lo hi offs, len)) (hv : a = v) (h1 : ¬ v.toInt < lo) (h2 : ¬ hi < v.toInt) (ho : offs[(v.toInt - lo).toNat]? = some off) (ht : (pc : Int) + off = (tgt : Int)) (k : Z x g nL ρ tgt L st σ) : Z x g nL ρ pc L (.int a :: st) σ := by
  obtain ⟨p, l, e, R, s, m, args, below, meth, c⟩ := x
  intro H locs ls hP hS h
  subst hv
  exact lv_tableIn hc.1 hc.2.1 hd h1 h2 ho ht (k H locs ls hP hS h)
theorem z_tabD {a : Int32} {dflt lo hi : Int} {offs : Array Int} {len tgt : Nat} (n : Nat) (hn : hi - lo + 1 = (n : Int)) (hc : Zc x g cc own nL ret d) (hd : decode cc pc = .ok (.tableswitch dflt lo hi offs, len)) (hne : ∀ j : Nat, j < n → ¬ a = Int32.ofInt (lo + j)) (ht : (pc : Int) + dflt = (tgt : Int)) (k : Z x g nL ρ tgt L st σ) : Z x g nL ρ pc L (.int a :: st) σ := by
  obtain ⟨p, l, e, R, s, m, args, below, meth, c⟩ := x
  intro H locs ls hP hS h
  refine lv_tableOut hc.1 hc.2.1 hd ?_ ht (k H locs ls hP hS h)
  by_cases q1 : a.toInt < lo
  · exact Or.inl q1
  · by_cases q2 : hi < a.toInt
    · exact Or.inr q2
    · exfalso
      refine hne (a.toInt - lo).toNat (by omega) ?_
      rw [show lo + ((a.toInt - lo).toNat : Int) = a.toInt by omega]
      exact (Int32.ofInt_toInt a).symm
/-- an index of a row of n places -/
def rd (i : Int32) (n : Nat) : Option Nat := if i < 0 ∨ n ≤ i.toNatClampNeg then none else some i.toNatClampNeg
theorem rd_in {i : Int32} {n j : Nat} (h : rd i n = some j) : vp_in i n := by
  unfold rd at h
  split at h
  · cases h
  · assumption
theorem rd_eq {i : Int32} {n j : Nat} (h : rd i n = some j) : i.toNatClampNeg = j := by
  unfold rd at h
  split at h
  · cases h
  · exact Option.some.inj h
theorem rd_lt {i : Int32} {n j : Nat} (h : rd i n = some j) : j < n := by
  have h1 := rd_in h
  have h2 := rd_eq h
  subst h2
  exact Nat.not_le.mp fun q => h1 (Or.inr q)
/-- the cell of an address -/
theorem z_place {σ : Sg} {a : Ad} (ha : a ∈ dom) : ∃ q : Nat, dom[q]? = some a ∧ (W0 g σ)[q]? = some (gAd g a, ent g σ a) := by
  obtain ⟨q, hq⟩ := List.getElem?_of_mem ha
  exact ⟨q, hq, W0_at hq⟩
theorem z_get {C : String} {T : u_T} {N ci idx : Nat} {fs : List Value} {v : Value} (hc : Zc x g cc own nL ret d) (hd : decode cc pc = .ok (.getfield idx, 3)) (hin : ∀ w ∈ u_ws C T N, w ∈ TB) (hcl : classes[ci]? = some (C, T, N)) (f : Nat) (hf : f < N) (hl : Cond.fieldLink own idx (T f).1 (T f).2.1 (T f).2.2.1 ∈ TB) (a : Ad) (ha : a ∈ dom) (he : ent g σ a = .inr (ci, fs)) (hv : fs[f]? = some v) (k : Z x g nL ρ (pc + 3) L (v :: st) σ) : Z x g nL ρ pc L (.ref (gAd g a) :: st) σ := by
  obtain ⟨p, l, e, R, s, m, args, below, meth, c⟩ := x
  intro H locs ls hP hS h
  obtain ⟨hx, hb, hr, hml, hown, hts, hlk, hR, hK, hI, hE, hT⟩ := hc
  obtain ⟨q, hq, hw⟩ := z_place (g := g) (σ := σ) ha
  rw [he] at hw
  exact va_get hx hb hts hin hown hK hP q hw hcl f hf (hts _ hl) (fun _ h9 => h9) hv hd (k H locs ls hP hS h)
theorem z_put {C : String} {T : u_T} {N ci idx : Nat} {fs : List Value} {v : Value} {ty : FieldType} {σ' : Sg} (hc : Zc x g cc own nL ret d) (hd : decode cc pc = .ok (.putfield idx, 3)) (hin : ∀ w ∈ u_ws C T N, w ∈ TB) (ty0 : Nat → FieldType) (hty : ∀ k, k < N → parseFieldDescriptor (T k).2.2.1 = some (ty0 k)) (hnm : ∀ a, a < N → ∀ b, b < N → a ≠ b → (T a).2.1 ≠ (T b).2.1) (hcl : classes[ci]? = some (C, T, N)) (f : Nat) (hf : f < N) (hl : Cond.fieldLink own idx (T f).1 (T f).2.1 (T f).2.2.1 ∈ TB) (hfin : (T f).2.2.2 = false) (hdt : parseFieldDescriptor (T f).2.2.1 = some ty) (hn : narrow ty v = v) (hfit : fits ty v = true) (a : Ad) (ha : a ∈ dom) (he : ent g σ a = .inr (ci, fs)) (hlen : f < fs.length) (hs : ent g σ' a = .inr (ci, fs.set f v)) (ho : ∀ b : Ad, b ≠ a → ent g σ' b = ent g σ b) (k : Z x g nL ρ (pc + 3) L st σ') : Z x g nL ρ pc L (v :: .ref (gAd g a) :: st) σ := by
  obtain ⟨p, l, e, R, s, m, args, below, meth, c⟩ := x
  intro H locs ls hP hS h
  obtain ⟨hx, hb, hr, hml, hown, hts, hlk, hR, hK, hI, hE, hT⟩ := hc
  obtain ⟨q, hq, hw⟩ := z_place (g := g) (σ := σ) ha
  rw [he] at hw
  refine va_put hx hb hts hin ty0 hty hnm hown hK hP (W0_D hI σ s.heap.size) hS q hw hcl f hf (hts _ hl) (fun _ h9 => h9) hfin hdt hn hfit hlen hd (fun H1 locs1 hP1 hD1 hS1 => ?_)
  rw [W0_set hq hs ho] at hP1
  exact k H1 locs1 ls hP1 hS1 h
theorem z_ild {i : Int32} {n j : Nat} {f : Nat → Int32} (hc : Zc x g cc own nL ret d) (hd : decode cc pc = .ok (.iaload, 1)) (a : Ad) (ha : a ∈ dom) (he : ent g σ a = .inl (cInt g, n, .inl f)) (hj : rd i n = some j) (k : Z x g nL ρ (pc + 1) L (.int (f j) :: st) σ) : Z x g nL ρ pc L (.int i :: .ref (gAd g a) :: st) σ := by
  obtain ⟨p, l, e, R, s, m, args, below, meth, c⟩ := x
  intro H locs ls hP hS h
  obtain ⟨hx, hb, hr, hml, hown, hts, hlk, hR, hK, hI, hE, hT⟩ := hc
  obtain ⟨q, hq, hw⟩ := z_place (g := g) (σ := σ) ha
  rw [he] at hw
  refine va_iald hx hb hK hP q 0 hw rfl (rd_in hj) hd ?_
  rw [rd_eq hj]
  exact k H locs ls hP hS h
theorem z_cld {i : Int32} {n j : Nat} {f : Nat → Int32} (hc : Zc x g cc own nL ret d) (hd : decode cc pc = .ok (.caload, 1)) (a : Ad) (ha : a ∈ dom) (he : ent g σ a = .inl (cChar g, n, .inl f)) (hj : rd i n = some j) (k : Z x g nL ρ (pc + 1) L (.int (f j) :: st) σ) : Z x g nL ρ pc L (.int i :: .ref (gAd g a) :: st) σ := by
  obtain ⟨p, l, e, R, s, m, args, below, meth, c⟩ := x
  intro H locs ls hP hS h
  obtain ⟨hx, hb, hr, hml, hown, hts, hlk, hR, hK, hI, hE, hT⟩ := hc
  obtain ⟨q, hq, hw⟩ := z_place (g := g) (σ := σ) ha
  rw [he] at hw
  refine va_cald hx hb hK hP q 2 hw rfl (rd_in hj) hd ?_
  rw [rd_eq hj]
  exact k H locs ls hP hS h
theorem z_lld {i : Int32} {n j : Nat} {f : Nat → Int64} (hc : Zc x g cc own nL ret d) (hd : decode cc pc = .ok (.laload, 1)) (a : Ad) (ha : a ∈ dom) (he : ent g σ a = .inl (cLong g, n, .inr (.inl f))) (hj : rd i n = some j) (k : Z x g nL ρ (pc + 1) L (.long (f j) :: st) σ) : Z x g nL ρ pc L (.int i :: .ref (gAd g a) :: st) σ := by
  obtain ⟨p, l, e, R, s, m, args, below, meth, c⟩ := x
  intro H locs ls hP hS h
  obtain ⟨hx, hb, hr, hml, hown, hts, hlk, hR, hK, hI, hE, hT⟩ := hc
  obtain ⟨q, hq, hw⟩ := z_place (g := g) (σ := σ) ha
  rw [he] at hw
  refine va_lald hx hb hK hP q 1 hw rfl (rd_in hj) hd ?_
  rw [rd_eq hj]
  exact k H locs ls hP hS h
/-- t the place of the row's class in tysG -/
theorem z_ald {i : Int32} {n j t : Nat} {cA : ClassId} {C : String} {f : Nat → Option Nat} {b : Nat} (hc : Zc x g cc own nL ret d) (hd : decode cc pc = .ok (.aaload, 1)) (t : Nat) (ht : (tysG g)[t]? = some (cA, .object C)) (a : Ad) (ha : a ∈ dom) (he : ent g σ a = .inl (cA, n, .inr (.inr (.inr (.inr f))))) (hj : rd i n = some j) (hb : f j = some b) (k : Z x g nL ρ (pc + 1) L (.ref b :: st) σ) : Z x g nL ρ pc L (.int i :: .ref (gAd g a) :: st) σ := by
  obtain ⟨p, l, e, R, s, m, args, below, meth, c⟩ := x
  intro H locs ls hP hS h
  obtain ⟨hx, hbb, hr, hml, hown, hts, hlk, hR, hK, hI, hE, hT⟩ := hc
  obtain ⟨q, hq, hw⟩ := z_place (g := g) (σ := σ) ha
  rw [he] at hw
  refine va_aldq hx hbb hK hP q t hw ht (rd_in hj) hd ?_
  rw [rd_eq hj, hb]
  exact k H locs ls hP hS h
theorem z_alen {y : vp_A} {cA : ClassId} {ty : FieldType} {v : Int32} (hc : Zc x g cc own nL ret d) (hd : decode cc pc = .ok (.arraylength, 1)) (t : Nat) (ht : (tysG g)[t]? = some (cA, ty)) (a : Ad) (ha : a ∈ dom) (he : ent g σ a = .inl (cA, y)) (hv : Int32.ofNat y.1 = v) (k : Z x g nL ρ (pc + 1) L (.int v :: st) σ) : Z x g nL ρ pc L (.ref (gAd g a) :: st) σ := by
  obtain ⟨p, l, e, R, s, m, args, below, meth, c⟩ := x
  intro H locs ls hP hS h
  obtain ⟨hx, hbb, hr, hml, hown, hts, hlk, hR, hK, hI, hE, hT⟩ := hc
  obtain ⟨q, hq, hw⟩ := z_place (g := g) (σ := σ) ha
  rw [he] at hw
  exact va_alen hx hbb hK hP q t hw ht hv hd (k H locs ls hP hS h)
theorem z_ist {i v : Int32} {n j : Nat} {f : Nat → Int32} {σ' : Sg} (hc : Zc x g cc own nL ret d) (hd : decode cc pc = .ok (.iastore, 1)) (a : Ad) (ha : a ∈ dom) (he : ent g σ a = .inl (cInt g, n, .inl f)) (hj : rd i n = some j) (hs : ent g σ' a = .inl (cInt g, n, .inl (upd f j v))) (ho : ∀ b : Ad, b ≠ a → ent g σ' b = ent g σ b) (k : Z x g nL ρ (pc + 1) L st σ') : Z x g nL ρ pc L (.int v :: .int i :: .ref (gAd g a) :: st) σ := by
  obtain ⟨p, l, e, R, s, m, args, below, meth, c⟩ := x
  intro H locs ls hP hS h
  obtain ⟨hx, hb, hr, hml, hown, hts, hlk, hR, hK, hI, hE, hT⟩ := hc
  obtain ⟨q, hq, hw⟩ := z_place (g := g) (σ := σ) ha
  rw [he] at hw
  refine va_iast hx hb hK hP (W0_D hI σ s.heap.size) hS q 0 hw rfl (rd_in hj) hd (fun H1 locs1 hP1 hD1 hS1 => ?_)
  rw [rd_eq hj, W0_set hq hs ho] at hP1
  exact k H1 locs1 ls hP1 hS1 h
theorem z_lst {i : Int32} {v : Int64} {n j : Nat} {f : Nat → Int64} {σ' : Sg} (hc : Zc x g cc own nL ret d) (hd : decode cc pc = .ok (.lastore, 1)) (a : Ad) (ha : a ∈ dom) (he : ent g σ a = .inl (cLong g, n, .inr (.inl f))) (hj : rd i n = some j) (hs : ent g σ' a = .inl (cLong g, n, .inr (.inl (vp_updL f j v)))) (ho : ∀ b : Ad, b ≠ a → ent g σ' b = ent g σ b) (k : Z x g nL ρ (pc + 1) L st σ') : Z x g nL ρ pc L (.long v :: .int i :: .ref (gAd g a) :: st) σ := by
  obtain ⟨p, l, e, R, s, m, args, below, meth, c⟩ := x
  intro H locs ls hP hS h
  obtain ⟨hx, hb, hr, hml, hown, hts, hlk, hR, hK, hI, hE, hT⟩ := hc
  obtain ⟨q, hq, hw⟩ := z_place (g := g) (σ := σ) ha
  rw [he] at hw
  refine va_last hx hb hK hP (W0_D hI σ s.heap.size) hS q 1 hw rfl (rd_in hj) hd (fun H1 locs1 hP1 hD1 hS1 => ?_)
  rw [rd_eq hj, W0_set hq hs ho] at hP1
  exact k H1 locs1 ls hP1 hS1 h
/-- ends -/
theorem z_iret {v : Int32} (hc : Zc x g cc own nL (some .int) d) (hd : decode cc pc = .ok (.ireturn, 1)) (hρ : ρ = (some (.int v), σ)) : Z x g nL ρ pc L [.int v] σ := by
  obtain ⟨p, l, e, R, s, m, args, below, meth, c⟩ := x
  intro H locs ls hP hS h
  subst hρ
  exact W.iret hc.1 hc.2.1 hc.2.2.1 (fun t ht hW => ⟨rfl, by rw [ht]; exact hP, hS.F ht⟩) hS.2.2 hd hc.2.2.2.2.2.2.1
theorem z_zret {v : Int32} {ty : FieldType} (hc : Zc x g cc own nL (some ty) d) (hd : decode cc pc = .ok (.ireturn, 1)) (hn : narrow ty (.int v) = .int v) (hρ : ρ = (some (.int v), σ)) : Z x g nL ρ pc L [.int v] σ := by
  obtain ⟨p, l, e, R, s, m, args, below, meth, c⟩ := x
  intro H locs ls hP hS h
  subst hρ
  exact W.zret hc.1 hc.2.1 hc.2.2.1 hn (fun t ht hW => ⟨rfl, by rw [ht]; exact hP, hS.F ht⟩) hS.2.2 hd hc.2.2.2.2.2.2.1
theorem z_lret {v : Int64} (hc : Zc x g cc own nL (some .long) d) (hd : decode cc pc = .ok (.lreturn, 1)) (hρ : ρ = (some (.long v), σ)) : Z x g nL ρ pc L [.long v] σ := by
  obtain ⟨p, l, e, R, s, m, args, below, meth, c⟩ := x
  intro H locs ls hP hS h
  subst hρ
  exact W.lret hc.1 hc.2.1 hc.2.2.1 (fun t ht hW => ⟨rfl, by rw [ht]; exact hP, hS.F ht⟩) hS.2.2 hd hc.2.2.2.2.2.2.1
theorem z_vret (hc : Zc x g cc own nL none d) (hd : decode cc pc = .ok (.return_, 1)) (hρ : ρ = (none, σ)) : Z x g nL ρ pc L [] σ := by
  obtain ⟨p, l, e, R, s, m, args, below, meth, c⟩ := x
  intro H locs ls hP hS h
  subst hρ
  exact W.vret hc.1 hc.2.1 hc.2.2.1 (fun t ht hW => ⟨rfl, by rw [ht]; exact hP, hS.F ht⟩) hS.2.2 hd hc.2.2.2.2.2.2.1
end ROWS
end
section
/-- what links a call to its method -/
def VL (own : String) (idx : Nat) (y : MethodName) (cc : ByteArray) (nL : Nat) (ret : Option FieldType) (n : Nat) : Prop :=
  Cond.methodLink own idx y ∈ TB ∧ Cond.instanceMethod y ∈ TB ∧ Cond.selects y.cls y y ∈ TB ∧ Cond.initialized y.cls ∈ TB ∧ Cond.code y cc nL ret ∈ TB ∧ y.cls ≠ "java/lang/invoke/MethodHandle" ∧ y.cls ≠ "java/lang/invoke/VarHandle" ∧ (parseMethodDescriptor y.desc).map (fun d => d.parameters.length) = some n ∧ nL ≤ 18
def SL (own : String) (idx : Nat) (y : MethodName) (cc : ByteArray) (nL : Nat) (ret : Option FieldType) (n : Nat) : Prop :=
  Cond.methodLink own idx y ∈ TB ∧ Cond.static y ∈ TB ∧ Cond.initialized y.cls ∈ TB ∧ Cond.code y cc nL ret ∈ TB ∧ y.cls ≠ "java/lang/invoke/MethodHandle" ∧ y.cls ≠ "java/lang/invoke/VarHandle" ∧ (parseMethodDescriptor y.desc).map (fun d => d.parameters.length) = some n ∧ nL ≤ 18
/-- a method of a kind, called on one of class C: x is named, y is run -/
def UL (own : String) (idx : Nat) (C : String) (x y : MethodName) (cc : ByteArray) (nL : Nat) (ret : Option FieldType) (n : Nat) : Prop :=
  Cond.methodLink own idx x ∈ TB ∧ Cond.sameMethod x.cls x.cls x.name x.desc ∈ TB ∧ Cond.instanceMethod x ∈ TB ∧ Cond.selects C x y ∈ TB ∧ Cond.instanceMethod y ∈ TB ∧ Cond.initialized y.cls ∈ TB ∧ Cond.code y cc nL ret ∈ TB ∧ (∃ b0 m0 r0, Cond.code x b0 m0 r0 ∈ TB) ∧ x.cls ≠ "java/lang/invoke/MethodHandle" ∧ x.cls ≠ "java/lang/invoke/VarHandle" ∧ (parseMethodDescriptor x.desc).map (fun d => d.parameters.length) = some n ∧ nL ≤ 18
def PL (own : String) (idx : Nat) (y : MethodName) (cc : ByteArray) (nL : Nat) (ret : Option FieldType) (n : Nat) : Prop :=
  Cond.methodLink own idx y ∈ TB ∧ Cond.sameMethod y.cls y.cls y.name y.desc ∈ TB ∧ Cond.superclass own y.cls ∈ TB ∧ Cond.instanceMethod y ∈ TB ∧ Cond.initialized y.cls ∈ TB ∧ Cond.code y cc nL ret ∈ TB ∧ y.name ≠ "<init>" ∧ (parseMethodDescriptor y.desc).map (fun d => d.parameters.length) = some n ∧ nL ≤ 18
theorem tb_ws {y : MethodName} {cc : ByteArray} {nL : Nat} {ret : Option FieldType} (h : Cond.code y cc nL ret ∈ TB) : ∀ w ∈ Cond.code y cc nL ret :: TB, w ∈ TB := fun w hw => (List.mem_cons.mp hw).elim (fun e => e ▸ h) id
theorem tb_good {y : MethodName} {cc : ByteArray} {nL : Nat} {ret : Option FieldType} (h : Cond.code y cc nL ret ∈ TB) : GoodIn TB (Cond.code y cc nL ret :: TB) := fun w hw => ⟨tb_ws h w hw, tbGood (tb_ws h w hw)⟩
theorem rm_fit {d d' nL : Nat} (h : d' + 1 ≤ d) (hn : nL ≤ 18) {R : Room} (hF : d ≤ R.frames) (hL : 37 * d ≤ R.locals) : (rmD d').frames + 1 ≤ R.frames ∧ 8 + (nL + 11) + (rmD d').locals ≤ R.locals := by
  refine ⟨Nat.le_trans h hF, ?_⟩
  show 8 + (nL + 11) + 37 * d' ≤ R.locals
  omega
section CALLS
variable {p : Program} {l : Launch} {e : Env} {R : Room} {s : State} {m : MethodId} {args : Array Value} {below : List Frame} {meth : Method} {c : Code} {H : Heap} {locs : List Loc} {cells slots : Nat} {Q : State → Prop}
variable {g : Gv} {cc cc' : ByteArray} {own : String} {nL nL' d d' n pc idx : Nat} {ret' : Option FieldType} {σ : Sg} {ρ : Option Value × Sg} {y : MethodName} {As rest st0 st1 : List Value} {ls : Array Slot} {A0 : Nat → Prop} {H0 : Heap}
/-- behind a call -/
theorem w_back {a : Array Value} (hr : va_Run p l e R s m args below meth c H locs cells slots 0 0 (F0 m pc ls st0) rest (Qz g ρ H.size a) (AsG g H.size)) (hS : va_S A0 H0 H locs) (hA : ∀ q, AsG g H.size q → A0 q)
    (kk : ∀ (H1 : Heap) (locs1 : List Loc), va_P g.1 classes (W0 g ρ.2) H1 → H.size ≤ H1.size → (∀ q : Nat, q < H.size → ¬ AsG g H.size q → H1[q]? = H[q]?) → va_S A0 H0 H1 locs1 → W p l e R s m args below meth c H1 locs1 cells slots Q (F0 m (pc + 3) ls (ρ.1.toList ++ rest))) : W p l e R s m args below meth c H locs cells slots Q (F0 m pc ls st0) := by
  intro T hT X
  obtain ⟨v, st₀, t, T', L, h0, X', hL, e1, e2, ⟨hv, hp, hz, hk⟩, st⟩ := hr T hT X
  cases hv
  rw [h0] at hz hk
  obtain ⟨t2, a1, b1⟩ := kk T'.heap (locs ++ L) (by rw [e1]; exact hp) (by rw [e1]; exact hz) (fun q h1 h2 => by rw [e1]; exact hk q h1 h2)
    ⟨Nat.le_trans hS.1 (by rw [e1]; exact hz), fun q h1 h2 => by rw [e1, hk q (Nat.lt_of_lt_of_le h1 hS.1) (fun z => h2 (hA q z))]; exact hS.2.1 q h1 h2, fun q hq => by
      rcases List.mem_append.mp hq with h | h
      · exact hS.2.2 q h
      · exact hA _ (hL q h)⟩ T' rfl X'
  exact ⟨t2, st t2 a1, b1⟩
/-- the callee's start, out of the caller's -/
theorem w_pre (hP : va_P g.1 classes (W0 g σ) H) (hK : va_K g.1 classes (tysG g) s) (hI : Inj g) (hE : Ex g (AsG g H.size) s H) (hR : Sr g s) : ∀ U : State, U.heap = H → s.WarmedH U.vm → va_Pc As (Pre g σ H.size) As.toArray U := by
  intro U hU hW
  refine ⟨rfl, by rw [hU], by rw [hU]; exact hP, va_K.moved hW.alike hK, hI, by rw [hU]; exact hE.moved hW.alike, fun q hq => (hR q hq).warm hW⟩
theorem w_callV {b : Nat} (hx : p.tables.exec = Jvm.exec) (hb : c.code = cc) (hml : c.maxLocals = nL) (hown : s.vm.findClass own = some m.cls) (hts : ∀ w ∈ TB, w.before args s = true) (hF : d ≤ R.frames) (hLo : 37 * d ≤ R.locals) (hrc : cells ≤ R.cells) (hrs : slots ≤ R.slots) (hK : va_K g.1 classes (tysG g) s) (hI : Inj g) (hE : Ex g (AsG g H.size) s H) (hR : Sr g s) (hP : va_P g.1 classes (W0 g σ) H) (hS : va_S A0 H0 H locs) (hA : ∀ q, AsG g H.size q → A0 q)
    (hd : decode cc pc = .ok (.invokevirtual idx, 3)) (hv : VL own idx y cc' nL' ret' n) (hdd : d' + 1 ≤ d) (ho : Ok g y cc' nL' ret' d' (.ref b :: As) σ ρ) (hre : ∃ cell : Cell, H[b]? = some cell ∧ cell.vm.isStatics = false ∧ s.vm.findClass y.cls = some cell.cls) (hn : As.length = n) (hs0 : st0 = As.reverse ++ .ref b :: rest) (hst : (rest.map (fun v => v.category)).sum ≤ 8) (hsz : ls.size = nL)
    (kk : ∀ (H1 : Heap) (locs1 : List Loc), va_P g.1 classes (W0 g ρ.2) H1 → H.size ≤ H1.size → (∀ q : Nat, q < H.size → ¬ AsG g H.size q → H1[q]? = H[q]?) → va_S A0 H0 H1 locs1 → W p l e R s m args below meth c H1 locs1 cells slots Q (F0 m (pc + 3) ls (ρ.1.toList ++ rest))) : W p l e R s m args below meth c H locs cells slots Q (F0 m pc ls st0) := by
  obtain ⟨v1, v2, v3, v4, v5, v6, v7, v8, v9⟩ := hv
  refine w_back (rest := rest) (va_runV (As := As) (rest := rest) (b := b) ⟨hx, hb, hml, hown, hts⟩ (ho l H.size) ⟨callB_of n hts (tb_good v5) rfl rfl rfl (hts _ v4) (hts _ v1) ⟨v6, v7, v8⟩ (rm_fit hdd v9 hF hLo), hts _ v2, hts _ v3⟩ ⟨Pre.blind, hre, w_pre (As := .ref b :: As) hP hK hI hE hR⟩ rfl hn hsz hs0 (lv_room hst) hd ⟨hrc, hrs⟩) hS hA kk
theorem w_callS (hx : p.tables.exec = Jvm.exec) (hb : c.code = cc) (hml : c.maxLocals = nL) (hown : s.vm.findClass own = some m.cls) (hts : ∀ w ∈ TB, w.before args s = true) (hF : d ≤ R.frames) (hLo : 37 * d ≤ R.locals) (hrc : cells ≤ R.cells) (hrs : slots ≤ R.slots) (hK : va_K g.1 classes (tysG g) s) (hI : Inj g) (hE : Ex g (AsG g H.size) s H) (hR : Sr g s) (hP : va_P g.1 classes (W0 g σ) H) (hS : va_S A0 H0 H locs) (hA : ∀ q, AsG g H.size q → A0 q)
    (hd : decode cc pc = .ok (.invokestatic idx, 3)) (hv : SL own idx y cc' nL' ret' n) (hdd : d' + 1 ≤ d) (ho : Ok g y cc' nL' ret' d' As σ ρ) (hn : As.length = n) (hs0 : st0 = As.reverse ++ rest) (hst : (rest.map (fun v => v.category)).sum ≤ 8) (hsz : ls.size = nL)
    (kk : ∀ (H1 : Heap) (locs1 : List Loc), va_P g.1 classes (W0 g ρ.2) H1 → H.size ≤ H1.size → (∀ q : Nat, q < H.size → ¬ AsG g H.size q → H1[q]? = H[q]?) → va_S A0 H0 H1 locs1 → W p l e R s m args below meth c H1 locs1 cells slots Q (F0 m (pc + 3) ls (ρ.1.toList ++ rest))) : W p l e R s m args below meth c H locs cells slots Q (F0 m pc ls st0) := by
  obtain ⟨v1, v2, v4, v5, v6, v7, v8, v9⟩ := hv
  refine w_back (rest := rest) (va_runS (As := As) (rest := rest) ⟨hx, hb, hml, hown, hts⟩ (ho l H.size) ⟨callB_of n hts (tb_good v5) rfl rfl rfl (hts _ v4) (hts _ v1) ⟨v6, v7, v8⟩ (rm_fit hdd v9 hF hLo), hts _ v2⟩ ⟨Pre.blind, w_pre (As := As) hP hK hI hE hR⟩ rfl hn hsz hs0 (lv_room hst) hd ⟨hrc, hrs⟩) hS hA kk
theorem w_callU {b : Nat} {C : String} {x : MethodName} (hx : p.tables.exec = Jvm.exec) (hb : c.code = cc) (hml : c.maxLocals = nL) (hown : s.vm.findClass own = some m.cls) (hts : ∀ w ∈ TB, w.before args s = true) (hF : d ≤ R.frames) (hLo : 37 * d ≤ R.locals) (hrc : cells ≤ R.cells) (hrs : slots ≤ R.slots) (hK : va_K g.1 classes (tysG g) s) (hI : Inj g) (hE : Ex g (AsG g H.size) s H) (hR : Sr g s) (hP : va_P g.1 classes (W0 g σ) H) (hS : va_S A0 H0 H locs) (hA : ∀ q, AsG g H.size q → A0 q)
    (hd : decode cc pc = .ok (.invokevirtual idx, 3)) (hv : UL own idx C x y cc' nL' ret' n) (hdd : d' + 1 ≤ d) (ho : Ok g y cc' nL' ret' d' (.ref b :: As) σ ρ) (hre : ∃ cell : Cell, H[b]? = some cell ∧ cell.vm.isStatics = false ∧ s.vm.findClass C = some cell.cls) (hn : As.length = n) (hs0 : st0 = As.reverse ++ .ref b :: rest) (hst : (rest.map (fun v => v.category)).sum ≤ 8) (hsz : ls.size = nL)
    (kk : ∀ (H1 : Heap) (locs1 : List Loc), va_P g.1 classes (W0 g ρ.2) H1 → H.size ≤ H1.size → (∀ q : Nat, q < H.size → ¬ AsG g H.size q → H1[q]? = H[q]?) → va_S A0 H0 H1 locs1 → W p l e R s m args below meth c H1 locs1 cells slots Q (F0 m (pc + 3) ls (ρ.1.toList ++ rest))) : W p l e R s m args below meth c H locs cells slots Q (F0 m pc ls st0) := by
  obtain ⟨v1, v2, v3, v3', v4, v5, v6, ⟨b0, m0, r0, v7⟩, v8, v9, v10, v11⟩ := hv
  refine w_back (rest := rest) (va_runU (x := x) (C := C) (owner := x.cls) (As := As) (rest := rest) (b := b) ⟨hx, hb, hml, hown, hts⟩ (ho l H.size) ⟨⟨rfl, rfl, (rm_fit hdd v11 hF hLo).1, (rm_fit hdd v11 hF hLo).2, pay_in hts (tb_good v6), List.mem_cons_self⟩, hts _ v6, hts _ v5, ⟨v8, v9⟩, fun sig h => by rw [h] at v10; exact (Option.some.inj v10).symm, hts _ v1, hts _ v2, va_Decl.of (hts _ v3) (hts _ v7), hts _ v3', hts _ v4⟩ ⟨Pre.blind, hre, w_pre (As := .ref b :: As) hP hK hI hE hR⟩ rfl hn hsz hs0 (lv_room hst) hd ⟨hrc, hrs⟩) hS hA kk
theorem w_callP {b : Nat} {C : String} {cC : ClassId} (hat : ClassAt s C cC) (hx : p.tables.exec = Jvm.exec) (hb : c.code = cc) (hml : c.maxLocals = nL) (hown : s.vm.findClass own = some m.cls) (hts : ∀ w ∈ TB, w.before args s = true) (hF : d ≤ R.frames) (hLo : 37 * d ≤ R.locals) (hrc : cells ≤ R.cells) (hrs : slots ≤ R.slots) (hK : va_K g.1 classes (tysG g) s) (hI : Inj g) (hE : Ex g (AsG g H.size) s H) (hR : Sr g s) (hP : va_P g.1 classes (W0 g σ) H) (hS : va_S A0 H0 H locs) (hA : ∀ q, AsG g H.size q → A0 q)
    (hd : decode cc pc = .ok (.invokespecial idx, 3)) (hv : PL own idx y cc' nL' ret' n) (hdd : d' + 1 ≤ d) (ho : Ok g y cc' nL' ret' d' (.ref b :: As) σ ρ) (hre : ∃ cell : Cell, H[b]? = some cell ∧ cell.vm.isStatics = false ∧ s.vm.findClass C = some cell.cls) (hn : As.length = n) (hs0 : st0 = As.reverse ++ .ref b :: rest) (hst : (rest.map (fun v => v.category)).sum ≤ 8) (hsz : ls.size = nL)
    (kk : ∀ (H1 : Heap) (locs1 : List Loc), va_P g.1 classes (W0 g ρ.2) H1 → H.size ≤ H1.size → (∀ q : Nat, q < H.size → ¬ AsG g H.size q → H1[q]? = H[q]?) → va_S A0 H0 H1 locs1 → W p l e R s m args below meth c H1 locs1 cells slots Q (F0 m (pc + 3) ls (ρ.1.toList ++ rest))) : W p l e R s m args below meth c H locs cells slots Q (F0 m pc ls st0) := by
  obtain ⟨v1, v2, v3, v4, v5, v6, v8, v10, v11⟩ := hv
  refine w_back (rest := rest) (va_runSU (C := C) hat (As := As) (rest := rest) (b := b) ⟨hx, hb, hml, hown, hts⟩ (ho l H.size) ⟨⟨rfl, rfl, (rm_fit hdd v11 hF hLo).1, (rm_fit hdd v11 hF hLo).2, pay_in hts (tb_good v6), List.mem_cons_self⟩, hts _ v1, hts _ v2, hts _ v3, hts _ v4, hts _ v5, hts _ v6, v8, fun sig h => by rw [h] at v10; exact (Option.some.inj v10).symm⟩ ⟨Pre.blind, hre, w_pre (As := .ref b :: As) hP hK hI hE hR⟩ rfl hn hsz hs0 (lv_room hst) hd ⟨hrc, hrs⟩) hS hA kk
end CALLS
section ZCALLS
variable {x : Cx} {g : Gv} {cc cc' : ByteArray} {own : String} {nL nL' d d' n pc idx : Nat} {ret ret' : Option FieldType} {ρ : Option Value × Sg} {L L' : List (Nat × Value)} {st st0 st1 : List Value} {σ σ1 : Sg} {y : MethodName} {As : List Value} {rv : Option Value}
theorem z_hE {s : State} {H : Heap} {locs : List Loc} (hE : Ex g (AsG g s.heap.size) s s.heap) (hS : va_S (AsG g s.heap.size) s.heap H locs) : Ex g (AsG g H.size) s H := (hE.kept hS.2.1).narrow (fun _ k => AsG.mono hS.1 k)
theorem z_callV {fs : List Value} {ci N : Nat} {T : u_T} (hc : Zc x g cc own nL ret d) (hd : decode cc pc = .ok (.invokevirtual idx, 3)) (hv : VL own idx y cc' nL' ret' n) (hdd : d' + 1 ≤ d) (a : Ad) (ha : a ∈ dom) (he : ent g σ a = .inr (ci, fs)) (hcl : classes[ci]? = some (y.cls, T, N)) (ho : Ok g y cc' nL' ret' d' (.ref (gAd g a) :: As) σ (rv, σ1)) (hn : As.length = n) (hs0 : st0 = As.reverse ++ .ref (gAd g a) :: st) (hst : (st.map (fun v => v.category)).sum ≤ 8) (hs1 : rv.toList ++ st = st1) (k : Z x g nL ρ (pc + 3) L st1 σ1) : Z x g nL ρ pc L st0 σ := by
  obtain ⟨p, l, e, R, s, m, args, below, meth, c⟩ := x
  intro H locs ls hP hS h
  obtain ⟨hx, hb, hr, hml, hown, hts, hlk, hR, hK, hI, hE, hT⟩ := hc
  obtain ⟨q, hq, hw⟩ := z_place (g := g) (σ := σ) ha
  rw [he] at hw
  subst hs1
  exact w_callV (d := d) hx hb hml hown hts (by rw [hR]; exact Nat.le_refl _) (by rw [hR]; exact Nat.le_refl _) (Nat.zero_le _) (Nat.zero_le _) hK hI (z_hE hE hS) hT hP hS (fun _ z => AsG.mono hS.1 z) hd hv hdd ho (va_recv hK hP hcl hw) hn hs0 hst h.1 (fun H1 locs1 hP1 _ _ hS1 => k H1 locs1 ls hP1 hS1 h)
theorem z_callS (hc : Zc x g cc own nL ret d) (hd : decode cc pc = .ok (.invokestatic idx, 3)) (hv : SL own idx y cc' nL' ret' n) (hdd : d' + 1 ≤ d) (ho : Ok g y cc' nL' ret' d' As σ (rv, σ1)) (hn : As.length = n) (hs0 : st0 = As.reverse ++ st) (hst : (st.map (fun v => v.category)).sum ≤ 8) (hs1 : rv.toList ++ st = st1) (k : Z x g nL ρ (pc + 3) L st1 σ1) : Z x g nL ρ pc L st0 σ := by
  obtain ⟨p, l, e, R, s, m, args, below, meth, c⟩ := x
  intro H locs ls hP hS h
  obtain ⟨hx, hb, hr, hml, hown, hts, hlk, hR, hK, hI, hE, hT⟩ := hc
  subst hs1
  exact w_callS (d := d) hx hb hml hown hts (by rw [hR]; exact Nat.le_refl _) (by rw [hR]; exact Nat.le_refl _) (Nat.zero_le _) (Nat.zero_le _) hK hI (z_hE hE hS) hT hP hS (fun _ z => AsG.mono hS.1 z) hd hv hdd ho hn hs0 hst h.1 (fun H1 locs1 hP1 _ _ hS1 => k H1 locs1 ls hP1 hS1 h)
theorem z_callU {y0 : MethodName} {C : String} {fs : List Value} {ci N : Nat} {T : u_T} (hc : Zc x g cc own nL ret d) (hd : decode cc pc = .ok (.invokevirtual idx, 3)) (hv : UL own idx C y0 y cc' nL' ret' n) (hdd : d' + 1 ≤ d) (a : Ad) (ha : a ∈ dom) (he : ent g σ a = .inr (ci, fs)) (hcl : classes[ci]? = some (C, T, N)) (ho : Ok g y cc' nL' ret' d' (.ref (gAd g a) :: As) σ (rv, σ1)) (hn : As.length = n) (hs0 : st0 = As.reverse ++ .ref (gAd g a) :: st) (hst : (st.map (fun v => v.category)).sum ≤ 8) (hs1 : rv.toList ++ st = st1) (k : Z x g nL ρ (pc + 3) L st1 σ1) : Z x g nL ρ pc L st0 σ := by
  obtain ⟨p, l, e, R, s, m, args, below, meth, c⟩ := x
  intro H locs ls hP hS h
  obtain ⟨hx, hb, hr, hml, hown, hts, hlk, hR, hK, hI, hE, hT⟩ := hc
  obtain ⟨q, hq, hw⟩ := z_place (g := g) (σ := σ) ha
  rw [he] at hw
  subst hs1
  exact w_callU (d := d) hx hb hml hown hts (by rw [hR]; exact Nat.le_refl _) (by rw [hR]; exact Nat.le_refl _) (Nat.zero_le _) (Nat.zero_le _) hK hI (z_hE hE hS) hT hP hS (fun _ z => AsG.mono hS.1 z) hd hv hdd ho (va_recv hK hP hcl hw) hn hs0 hst h.1 (fun H1 locs1 hP1 _ _ hS1 => k H1 locs1 ls hP1 hS1 h)
theorem z_callP {C : String} {fs : List Value} {ci N : Nat} {T : u_T} (hc : Zc x g cc own nL ret d) (hd : decode cc pc = .ok (.invokespecial idx, 3)) (hv : PL own idx y cc' nL' ret' n) (hdd : d' + 1 ≤ d) (a : Ad) (ha : a ∈ dom) (he : ent g σ a = .inr (ci, fs)) (hcl : classes[ci]? = some (C, T, N)) (ho : Ok g y cc' nL' ret' d' (.ref (gAd g a) :: As) σ (rv, σ1)) (hn : As.length = n) (hs0 : st0 = As.reverse ++ .ref (gAd g a) :: st) (hst : (st.map (fun v => v.category)).sum ≤ 8) (hs1 : rv.toList ++ st = st1) (k : Z x g nL ρ (pc + 3) L st1 σ1) : Z x g nL ρ pc L st0 σ := by
  obtain ⟨p, l, e, R, s, m, args, below, meth, c⟩ := x
  intro H locs ls hP hS h
  obtain ⟨hx, hb, hr, hml, hown, hts, hlk, hR, hK, hI, hE, hT⟩ := hc
  obtain ⟨q, hq, hw⟩ := z_place (g := g) (σ := σ) ha
  rw [he] at hw
  subst hs1
  exact w_callP (d := d) (C := C) (hK.1 ci _ hcl).2 hx hb hml hown hts (by rw [hR]; exact Nat.le_refl _) (by rw [hR]; exact Nat.le_refl _) (Nat.zero_le _) (Nat.zero_le _) hK hI (z_hE hE hS) hT hP hS (fun _ z => AsG.mono hS.1 z) hd hv hdd ho (va_recv hK hP hcl hw) hn hs0 hst h.1 (fun H1 locs1 hP1 _ _ hS1 => k H1 locs1 ls hP1 hS1 h)
/-- Math.max, Math.min: links -/
def ML (own : String) (idx : Nat) (y : MethodName) (cc : ByteArray) : Prop := Cond.methodLink own idx y ∈ TB ∧ Cond.static y ∈ TB ∧ Cond.initialized "java/lang/Math" ∈ TB ∧ Cond.code y cc 2 (some .int) ∈ TB
theorem z_max {a b : Int32} (hc : Zc x g cc own nL ret d) (hd : decode cc pc = .ok (.invokestatic idx, 3)) (hv : ML own idx Lib.Math.max.name Lib.Math.max.code) (hdd : 1 ≤ d) (hst : (st.map (fun v => v.category)).sum ≤ 8) (k : Z x g nL ρ (pc + 3) L (.int (if a < b then b else a) :: st) σ) : Z x g nL ρ pc L (.int b :: .int a :: st) σ := by
  obtain ⟨p, l, e, R, s, m, args, below, meth, c⟩ := x
  intro H locs ls hP hS h
  obtain ⟨hx, hb, hr, hml, hown, hts, hlk, hR, hK, hI, hE, hT⟩ := hc
  obtain ⟨v1, v2, v3, v4⟩ := hv
  exact va_mmax hx hb (hml.trans h.1.symm) hown (hts _ v1) (hts _ v2) (hts _ v3) (hts _ v4) (by rw [hR]; exact hdd) (by rw [hR]; show _ ≤ 37 * d; omega) (Nat.zero_le _) (Nat.zero_le _) hd (k H locs ls hP hS h)
theorem z_min {a b : Int32} (hc : Zc x g cc own nL ret d) (hd : decode cc pc = .ok (.invokestatic idx, 3)) (hv : ML own idx Lib.Math.min.name Lib.Math.min.code) (hdd : 1 ≤ d) (hst : (st.map (fun v => v.category)).sum ≤ 8) (k : Z x g nL ρ (pc + 3) L (.int (if b < a then b else a) :: st) σ) : Z x g nL ρ pc L (.int b :: .int a :: st) σ := by
  obtain ⟨p, l, e, R, s, m, args, below, meth, c⟩ := x
  intro H locs ls hP hS h
  obtain ⟨hx, hb, hr, hml, hown, hts, hlk, hR, hK, hI, hE, hT⟩ := hc
  obtain ⟨v1, v2, v3, v4⟩ := hv
  exact va_mmin hx hb (hml.trans h.1.symm) hown (hts _ v1) (hts _ v2) (hts _ v3) (hts _ v4) (by rw [hR]; exact hdd) (by rw [hR]; show _ ≤ 37 * d; omega) (Nat.zero_le _) (Nat.zero_le _) hd (k H locs ls hP hS h)
/-- System.arraycopy -/
def AL (own : String) (idx : Nat) : Prop := Cond.methodLink own idx arraycopyName ∈ TB ∧ Cond.native arraycopyName ∈ TB ∧ Cond.static arraycopyName ∈ TB ∧ Cond.initialized "java/lang/System" ∈ TB
/-- n places of a row of n0 from sp on, of one of n1 from dp on -/
def cpOk (sp dp n : Int32) (n0 n1 : Nat) : Option (Nat × Nat × Nat) := if sp < 0 ∨ dp < 0 ∨ n < 0 ∨ n0 < sp.toNatClampNeg + n.toNatClampNeg ∨ n1 < dp.toNatClampNeg + n.toNatClampNeg then none else some (sp.toNatClampNeg, dp.toNatClampNeg, n.toNatClampNeg)
theorem cpOk_spec {sp dp n : Int32} {n0 n1 : Nat} {q : Nat × Nat × Nat} (h : cpOk sp dp n n0 n1 = some q) : ¬ sp < 0 ∧ ¬ dp < 0 ∧ ¬ n < 0 ∧ sp.toNatClampNeg + n.toNatClampNeg ≤ n0 ∧ dp.toNatClampNeg + n.toNatClampNeg ≤ n1 ∧ q = (sp.toNatClampNeg, dp.toNatClampNeg, n.toNatClampNeg) := by
  unfold cpOk at h
  split at h
  · cases h
  · rename_i hq
    exact ⟨fun z => hq (Or.inl z), fun z => hq (Or.inr (Or.inl z)), fun z => hq (Or.inr (Or.inr (Or.inl z))), Nat.not_lt.mp fun z => hq (Or.inr (Or.inr (Or.inr (Or.inl z)))), Nat.not_lt.mp fun z => hq (Or.inr (Or.inr (Or.inr (Or.inr z)))), (Option.some.inj h).symm⟩
theorem z_cpI {a0 a1 : Ad} {n0 n1 : Nat} {f h : Nat → Int32} {sp dp n : Int32} {q : Nat × Nat × Nat} (hc : Zc x g cc own nL ret d) (hd : decode cc pc = .ok (.invokestatic idx, 3)) (hv : AL own idx) (hdd : 1 ≤ d) (hst : (st.map (fun v => v.category)).sum ≤ 8) (ha0 : a0 ∈ dom) (ha1 : a1 ∈ dom) (he0 : ent g σ a0 = .inl (cInt g, n0, .inl f)) (he1 : ent g σ a1 = .inl (cInt g, n1, .inl h)) (hq : cpOk sp dp n n0 n1 = some q) (hs : ent g σ1 a1 = .inl (cInt g, n1, .inl (va_cpy f h q.1 q.2.1 q.2.2))) (ho : ∀ b : Ad, b ≠ a1 → ent g σ1 b = ent g σ b) (k : Z x g nL ρ (pc + 3) L st σ1) : Z x g nL ρ pc L (.int n :: .int dp :: .ref (gAd g a1) :: .int sp :: .ref (gAd g a0) :: st) σ := by
  obtain ⟨p, l, e, R, s, m, args, below, meth, c⟩ := x
  intro H locs ls hP hS hl
  obtain ⟨hx, hb, hr, hml, hown, hts, hlk, hR, hK, hI, hE, hT⟩ := hc
  obtain ⟨v1, v2, v3, v4⟩ := hv
  obtain ⟨w1, w2, w3, w4, w5, rfl⟩ := cpOk_spec hq
  obtain ⟨q0, hq0, hw0⟩ := z_place (g := g) (σ := σ) ha0
  obtain ⟨q1, hq1, hw1⟩ := z_place (g := g) (σ := σ) ha1
  rw [he0] at hw0
  rw [he1] at hw1
  refine va_copyi hx hb (hml.trans hl.1.symm) hown (hts _ v1) (hts _ v2) (hts _ v3) (hts _ v4) hK hP (W0_D hI σ s.heap.size) hS q0 q1 0 0 hw0 hw1 rfl rfl rfl w1 w2 w3 w4 w5 (fun _ _ => rfl) (by rw [hR]; exact hdd) (by rw [hR]; show _ + (5 + 11) ≤ 37 * d; omega) hd (fun H1 locs1 hP1 hD1 hS1 => ?_)
  rw [W0_set hq1 hs ho] at hP1
  exact k H1 locs1 ls hP1 hS1 hl
theorem z_cpL {a0 a1 : Ad} {n0 n1 : Nat} {f h : Nat → Int64} {sp dp n : Int32} {q : Nat × Nat × Nat} (hc : Zc x g cc own nL ret d) (hd : decode cc pc = .ok (.invokestatic idx, 3)) (hv : AL own idx) (hdd : 1 ≤ d) (hst : (st.map (fun v => v.category)).sum ≤ 8) (ha0 : a0 ∈ dom) (ha1 : a1 ∈ dom) (he0 : ent g σ a0 = .inl (cLong g, n0, .inr (.inl f))) (he1 : ent g σ a1 = .inl (cLong g, n1, .inr (.inl h))) (hq : cpOk sp dp n n0 n1 = some q) (hs : ent g σ1 a1 = .inl (cLong g, n1, .inr (.inl (va_cpy f h q.1 q.2.1 q.2.2)))) (ho : ∀ b : Ad, b ≠ a1 → ent g σ1 b = ent g σ b) (k : Z x g nL ρ (pc + 3) L st σ1) : Z x g nL ρ pc L (.int n :: .int dp :: .ref (gAd g a1) :: .int sp :: .ref (gAd g a0) :: st) σ := by
  obtain ⟨p, l, e, R, s, m, args, below, meth, c⟩ := x
  intro H locs ls hP hS hl
  obtain ⟨hx, hb, hr, hml, hown, hts, hlk, hR, hK, hI, hE, hT⟩ := hc
  obtain ⟨v1, v2, v3, v4⟩ := hv
  obtain ⟨w1, w2, w3, w4, w5, rfl⟩ := cpOk_spec hq
  obtain ⟨q0, hq0, hw0⟩ := z_place (g := g) (σ := σ) ha0
  obtain ⟨q1, hq1, hw1⟩ := z_place (g := g) (σ := σ) ha1
  rw [he0] at hw0
  rw [he1] at hw1
  refine va_copyl hx hb (hml.trans hl.1.symm) hown (hts _ v1) (hts _ v2) (hts _ v3) (hts _ v4) hK hP (W0_D hI σ s.heap.size) hS q0 q1 1 1 hw0 hw1 rfl rfl rfl w1 w2 w3 w4 w5 (fun _ _ => rfl) (by rw [hR]; exact hdd) (by rw [hR]; show _ + (5 + 11) ≤ 37 * d; omega) hd (fun H1 locs1 hP1 hD1 hS1 => ?_)
  rw [W0_set hq1 hs ho] at hP1
  exact k H1 locs1 ls hP1 hS1 hl
end ZCALLS
/-- the state, changed -/
def upI (σ : Sg) (t i j k : Nat) (v : Int32) : Sg := (fun t' i' j' k' => if t' = t ∧ i' = i ∧ j' = j ∧ k' = k then v else σ.1 t' i' j' k', σ.2)
def upL (σ : Sg) (t i j k : Nat) (v : Int64) : Sg := (σ.1, fun t' i' j' k' => if t' = t ∧ i' = i ∧ j' = j ∧ k' = k then v else σ.2.1 t' i' j' k', σ.2.2)
def upK (σ : Sg) (t i j : Nat) (v : Nat) : Sg := (σ.1, σ.2.1, fun t' i' j' => if t' = t ∧ i' = i ∧ j' = j then v else σ.2.2 t' i' j')
def roI (σ : Sg) (t i j : Nat) (f : Nat → Int32) : Sg := (fun t' i' j' k' => if t' = t ∧ i' = i ∧ j' = j then f k' else σ.1 t' i' j' k', σ.2)
def roL (σ : Sg) (t i j : Nat) (f : Nat → Int64) : Sg := (σ.1, fun t' i' j' k' => if t' = t ∧ i' = i ∧ j' = j then f k' else σ.2.1 t' i' j' k', σ.2.2)
theorem ad_ne {b : Ad} {t i j : Nat} (h : b ≠ (t, i, j)) : ¬ (b.1 = t ∧ b.2.1 = i ∧ b.2.2 = j) := fun ⟨h1, h2, h3⟩ => h (by obtain ⟨a, c, e⟩ := b; simp only at h1 h2 h3; rw [h1, h2, h3])
theorem ent_upI {g : Gv} {σ : Sg} {t i j k : Nat} {v : Int32} (b : Ad) (h : b ≠ (t, i, j)) : ent g (upI σ t i j k v) b = ent g σ b := by
  have h0 := ad_ne h
  unfold ent
  congr 1
  funext n
  exact if_neg (fun z => h0 ⟨z.1, z.2.1, z.2.2.1⟩)
theorem ent_upL {g : Gv} {σ : Sg} {t i j k : Nat} {v : Int64} (b : Ad) (h : b ≠ (t, i, j)) : ent g (upL σ t i j k v) b = ent g σ b := by
  have h0 := ad_ne h
  unfold ent
  congr 1
  funext n
  exact if_neg (fun z => h0 ⟨z.1, z.2.1, z.2.2.1⟩)
theorem ent_upK {g : Gv} {σ : Sg} {t i j : Nat} {v : Nat} (b : Ad) (h : b ≠ (t, i, j)) : ent g (upK σ t i j v) b = ent g σ b := by
  have h0 := ad_ne h
  unfold ent
  congr 1
  exact if_neg (fun z => h0 z)
theorem ent_roI {g : Gv} {σ : Sg} {t i j : Nat} {f : Nat → Int32} (b : Ad) (h : b ≠ (t, i, j)) : ent g (roI σ t i j f) b = ent g σ b := by
  have h0 := ad_ne h
  unfold ent
  congr 1
  funext n
  exact if_neg (fun z => h0 z)
theorem ent_roL {g : Gv} {σ : Sg} {t i j : Nat} {f : Nat → Int64} (b : Ad) (h : b ≠ (t, i, j)) : ent g (roL σ t i j f) b = ent g σ b := by
  have h0 := ad_ne h
  unfold ent
  congr 1
  funext n
  exact if_neg (fun z => h0 z)
theorem upI_row {σ : Sg} {t i j k : Nat} {v : Int32} : (upI σ t i j k v).1 t i j = upd (σ.1 t i j) k v := by
  funext n
  show (if t = t ∧ i = i ∧ j = j ∧ n = k then v else σ.1 t i j n) = if n = k then v else σ.1 t i j n
  simp
theorem upL_row {σ : Sg} {t i j k : Nat} {v : Int64} : (upL σ t i j k v).2.1 t i j = vp_updL (σ.2.1 t i j) k v := by
  funext n
  show (if t = t ∧ i = i ∧ j = j ∧ n = k then v else σ.2.1 t i j n) = if n = k then v else σ.2.1 t i j n
  simp
theorem roI_row {σ : Sg} {t i j : Nat} {f : Nat → Int32} : (roI σ t i j f).1 t i j = f := by
  funext n
  show (if t = t ∧ i = i ∧ j = j then f n else σ.1 t i j n) = f n
  simp
theorem roL_row {σ : Sg} {t i j : Nat} {f : Nat → Int64} : (roL σ t i j f).2.1 t i j = f := by
  funext n
  show (if t = t ∧ i = i ∧ j = j then f n else σ.2.1 t i j n) = f n
  simp
/-- a step of a walk in the functions: bind -/
theorem bd {α β : Type} {o : Option α} {f : α → Option β} {r : β} (h : o.bind f = some r) : ∃ q, o = some q ∧ f q = some r := by
  cases o with
  | none => cases h
  | some q => exact ⟨q, rfl, h⟩
/-- a loop: body answers go on (inl) or out (inr) -/
def lp {α β : Type} (body : α → Option (α ⊕ β)) : Nat → α → Option β
  | 0, _ => none
  | n + 1, a => match body a with
    | none => none
    | some (.inl a') => lp body n a'
    | some (.inr b) => some b
/-- the walk of a loop: In a the judgement at its head, Out b behind it -/
theorem lp_walk {α β : Type} {body : α → Option (α ⊕ β)} {In : α → Prop} {Out : β → Prop} (hb : ∀ a r, body a = some r → (∀ a', r = .inl a' → In a') → (∀ b, r = .inr b → Out b) → In a) : ∀ (n : Nat) (a : α) (b : β), lp body n a = some b → Out b → In a := by
  intro n
  induction n with
  | zero => intro a b h; cases h
  | succ n ih =>
    intro a b h ho
    unfold lp at h
    cases hr : body a with
    | none => rw [hr] at h; cases h
    | some r =>
      rw [hr] at h
      cases r with
      | inl a' => exact hb a _ hr (fun a2 e => by cases e; exact ih a' b h ho) (fun b2 e => by cases e)
      | inr b' => exact hb a _ hr (fun a2 e => by cases e) (fun b2 e => by cases e; cases h; exact ho)
/-- a boolean answer -/
def bo (r : Int32) : Option Int32 := if r = 0 ∨ r = 1 then some r else none
theorem bo_spec {r q : Int32} (h : bo r = some q) : q = r ∧ narrow .boolean (.int r) = .int r := by
  unfold bo at h
  split at h
  · rename_i hq
    refine ⟨(Option.some.inj h).symm, ?_⟩
    rcases hq with e | e <;> subst e <;> decide
  · cases h
end
