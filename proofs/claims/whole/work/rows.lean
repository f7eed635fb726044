section
-- ===== PART A: goes FIRST, ahead of the names: the tables' words, and 'selects' of the private methods out of them =====
/-- a private method of a class that the tables say can be made, by its rows of tables_1 -/
def lw_okq (q : MethodName × Nat) : Prop := (q.1.cls ≠ "java/lang/invoke/MethodHandle" ∧ q.1.cls ≠ "java/lang/invoke/VarHandle") ∧ Cond.instantiable q.1.cls q.2 ∈ tables_1 ∧ Cond.privateMethod q.1 ∈ tables_1 ∧ Cond.instanceMethod q.1 ∈ tables_1
theorem lw_p0 : lw_okq (⟨"CarpetRealms", "found", "(I)I"⟩, 9) := ⟨⟨by decide +kernel, by decide +kernel⟩, List.mem_of_getElem? (i := 23) (by decide +kernel), List.mem_of_getElem? (i := 281) (by decide +kernel), List.mem_of_getElem? (i := 282) (by decide +kernel)⟩
theorem lw_p1 : lw_okq (⟨"CarpetRealms$World", "addLayer", "(I)V"⟩, 8) := ⟨⟨by decide +kernel, by decide +kernel⟩, List.mem_of_getElem? (i := 107) (by decide +kernel), List.mem_of_getElem? (i := 360) (by decide +kernel), List.mem_of_getElem? (i := 361) (by decide +kernel)⟩
theorem lw_p2 : lw_okq (⟨"CarpetRealms", "isRug", "(I)Z"⟩, 9) := ⟨⟨by decide +kernel, by decide +kernel⟩, List.mem_of_getElem? (i := 23) (by decide +kernel), List.mem_of_getElem? (i := 423) (by decide +kernel), List.mem_of_getElem? (i := 424) (by decide +kernel)⟩
theorem lw_p3 : lw_okq (⟨"CarpetRealms", "passProbe", "(I)V"⟩, 9) := ⟨⟨by decide +kernel, by decide +kernel⟩, List.mem_of_getElem? (i := 23) (by decide +kernel), List.mem_of_getElem? (i := 573) (by decide +kernel), List.mem_of_getElem? (i := 574) (by decide +kernel)⟩
theorem lw_p4 : lw_okq (⟨"CarpetRealms", "daysProbeLies", "()I"⟩, 9) := ⟨⟨by decide +kernel, by decide +kernel⟩, List.mem_of_getElem? (i := 23) (by decide +kernel), List.mem_of_getElem? (i := 594) (by decide +kernel), List.mem_of_getElem? (i := 595) (by decide +kernel)⟩
theorem lw_p5 : lw_okq (⟨"CarpetRealms", "bestYardInTrial", "(LCarpetRealms$Rug;)I"⟩, 9) := ⟨⟨by decide +kernel, by decide +kernel⟩, List.mem_of_getElem? (i := 23) (by decide +kernel), List.mem_of_getElem? (i := 611) (by decide +kernel), List.mem_of_getElem? (i := 612) (by decide +kernel)⟩
theorem lw_p6 : lw_okq (⟨"CarpetRealms", "isSheet", "(I)Z"⟩, 9) := ⟨⟨by decide +kernel, by decide +kernel⟩, List.mem_of_getElem? (i := 23) (by decide +kernel), List.mem_of_getElem? (i := 767) (by decide +kernel), List.mem_of_getElem? (i := 768) (by decide +kernel)⟩
theorem lw_p7 : lw_okq (⟨"CarpetRealms", "sheetFinding", "(I)I"⟩, 9) := ⟨⟨by decide +kernel, by decide +kernel⟩, List.mem_of_getElem? (i := 23) (by decide +kernel), List.mem_of_getElem? (i := 802) (by decide +kernel), List.mem_of_getElem? (i := 803) (by decide +kernel)⟩
theorem lw_p8 : lw_okq (⟨"CarpetRealms", "sheetAndRugFinding", "(II)I"⟩, 9) := ⟨⟨by decide +kernel, by decide +kernel⟩, List.mem_of_getElem? (i := 23) (by decide +kernel), List.mem_of_getElem? (i := 811) (by decide +kernel), List.mem_of_getElem? (i := 812) (by decide +kernel)⟩
theorem lw_p9 : lw_okq (⟨"CarpetRealms", "probeWearsAs", "(LCarpetRealms$Sheet;)Z"⟩, 9) := ⟨⟨by decide +kernel, by decide +kernel⟩, List.mem_of_getElem? (i := 23) (by decide +kernel), List.mem_of_getElem? (i := 819) (by decide +kernel), List.mem_of_getElem? (i := 820) (by decide +kernel)⟩
theorem lw_p10 : lw_okq (⟨"CarpetRealmsModel", "no", "(I)I"⟩, 18) := ⟨⟨by decide +kernel, by decide +kernel⟩, List.mem_of_getElem? (i := 847) (by decide +kernel), List.mem_of_getElem? (i := 916) (by decide +kernel), List.mem_of_getElem? (i := 917) (by decide +kernel)⟩
theorem lw_p11 : lw_okq (⟨"CarpetRealmsModel", "liesOn", "(II)Z"⟩, 18) := ⟨⟨by decide +kernel, by decide +kernel⟩, List.mem_of_getElem? (i := 847) (by decide +kernel), List.mem_of_getElem? (i := 928) (by decide +kernel), List.mem_of_getElem? (i := 929) (by decide +kernel)⟩
theorem lw_p12 : lw_okq (⟨"CarpetRealmsModel", "get", "(II)I"⟩, 18) := ⟨⟨by decide +kernel, by decide +kernel⟩, List.mem_of_getElem? (i := 847) (by decide +kernel), List.mem_of_getElem? (i := 932) (by decide +kernel), List.mem_of_getElem? (i := 933) (by decide +kernel)⟩
theorem lw_p13 : lw_okq (⟨"CarpetRealmsModel", "reachOf", "(I)I"⟩, 18) := ⟨⟨by decide +kernel, by decide +kernel⟩, List.mem_of_getElem? (i := 847) (by decide +kernel), List.mem_of_getElem? (i := 936) (by decide +kernel), List.mem_of_getElem? (i := 937) (by decide +kernel)⟩
theorem lw_p14 : lw_okq (⟨"CarpetRealmsModel", "whoseIs", "(I)I"⟩, 18) := ⟨⟨by decide +kernel, by decide +kernel⟩, List.mem_of_getElem? (i := 847) (by decide +kernel), List.mem_of_getElem? (i := 940) (by decide +kernel), List.mem_of_getElem? (i := 941) (by decide +kernel)⟩
theorem lw_p15 : lw_okq (⟨"CarpetRealmsModel", "topOf", "(I)I"⟩, 18) := ⟨⟨by decide +kernel, by decide +kernel⟩, List.mem_of_getElem? (i := 847) (by decide +kernel), List.mem_of_getElem? (i := 944) (by decide +kernel), List.mem_of_getElem? (i := 945) (by decide +kernel)⟩
def lw_privs_1 : List (MethodName × Nat) := [(⟨"CarpetRealms", "found", "(I)I"⟩, 9), (⟨"CarpetRealms$World", "addLayer", "(I)V"⟩, 8), (⟨"CarpetRealms", "isRug", "(I)Z"⟩, 9), (⟨"CarpetRealms", "passProbe", "(I)V"⟩, 9), (⟨"CarpetRealms", "daysProbeLies", "()I"⟩, 9), (⟨"CarpetRealms", "bestYardInTrial", "(LCarpetRealms$Rug;)I"⟩, 9), (⟨"CarpetRealms", "isSheet", "(I)Z"⟩, 9), (⟨"CarpetRealms", "sheetFinding", "(I)I"⟩, 9), (⟨"CarpetRealms", "sheetAndRugFinding", "(II)I"⟩, 9), (⟨"CarpetRealms", "probeWearsAs", "(LCarpetRealms$Sheet;)Z"⟩, 9), (⟨"CarpetRealmsModel", "no", "(I)I"⟩, 18), (⟨"CarpetRealmsModel", "liesOn", "(II)Z"⟩, 18), (⟨"CarpetRealmsModel", "get", "(II)I"⟩, 18), (⟨"CarpetRealmsModel", "reachOf", "(I)I"⟩, 18), (⟨"CarpetRealmsModel", "whoseIs", "(I)I"⟩, 18), (⟨"CarpetRealmsModel", "topOf", "(I)I"⟩, 18)]
theorem lw_r1 : ∀ q ∈ lw_privs_1, lw_okq q := List.forall_mem_cons.mpr ⟨lw_p0, List.forall_mem_cons.mpr ⟨lw_p1, List.forall_mem_cons.mpr ⟨lw_p2, List.forall_mem_cons.mpr ⟨lw_p3, List.forall_mem_cons.mpr ⟨lw_p4, List.forall_mem_cons.mpr ⟨lw_p5, List.forall_mem_cons.mpr ⟨lw_p6, List.forall_mem_cons.mpr ⟨lw_p7, List.forall_mem_cons.mpr ⟨lw_p8, List.forall_mem_cons.mpr ⟨lw_p9, List.forall_mem_cons.mpr ⟨lw_p10, List.forall_mem_cons.mpr ⟨lw_p11, List.forall_mem_cons.mpr ⟨lw_p12, List.forall_mem_cons.mpr ⟨lw_p13, List.forall_mem_cons.mpr ⟨lw_p14, List.forall_mem_cons.mpr ⟨lw_p15, fun _ h => absurd h List.not_mem_nil⟩⟩⟩⟩⟩⟩⟩⟩⟩⟩⟩⟩⟩⟩⟩⟩
theorem lw_p16 : lw_okq (⟨"CarpetRealmsModel", "yardsOf", "(I)I"⟩, 18) := ⟨⟨by decide +kernel, by decide +kernel⟩, List.mem_of_getElem? (i := 847) (by decide +kernel), List.mem_of_getElem? (i := 952) (by decide +kernel), List.mem_of_getElem? (i := 953) (by decide +kernel)⟩
theorem lw_p17 : lw_okq (⟨"CarpetRealmsModel", "rains", "()Z"⟩, 18) := ⟨⟨by decide +kernel, by decide +kernel⟩, List.mem_of_getElem? (i := 847) (by decide +kernel), List.mem_of_getElem? (i := 968) (by decide +kernel), List.mem_of_getElem? (i := 969) (by decide +kernel)⟩
theorem lw_p18 : lw_okq (⟨"CarpetRealmsModel", "rolledOut", "()I"⟩, 18) := ⟨⟨by decide +kernel, by decide +kernel⟩, List.mem_of_getElem? (i := 847) (by decide +kernel), List.mem_of_getElem? (i := 972) (by decide +kernel), List.mem_of_getElem? (i := 973) (by decide +kernel)⟩
theorem lw_p19 : lw_okq (⟨"CarpetRealmsModel", "sumOf", "(I)I"⟩, 18) := ⟨⟨by decide +kernel, by decide +kernel⟩, List.mem_of_getElem? (i := 847) (by decide +kernel), List.mem_of_getElem? (i := 976) (by decide +kernel), List.mem_of_getElem? (i := 977) (by decide +kernel)⟩
theorem lw_p20 : lw_okq (⟨"CarpetRealmsModel", "addsCarpet", "(II)V"⟩, 18) := ⟨⟨by decide +kernel, by decide +kernel⟩, List.mem_of_getElem? (i := 847) (by decide +kernel), List.mem_of_getElem? (i := 984) (by decide +kernel), List.mem_of_getElem? (i := 985) (by decide +kernel)⟩
theorem lw_p21 : lw_okq (⟨"CarpetRealmsModel", "puts", "(III)V"⟩, 18) := ⟨⟨by decide +kernel, by decide +kernel⟩, List.mem_of_getElem? (i := 847) (by decide +kernel), List.mem_of_getElem? (i := 988) (by decide +kernel), List.mem_of_getElem? (i := 989) (by decide +kernel)⟩
theorem lw_p22 : lw_okq (⟨"CarpetRealmsModel", "isCarpet", "(I)Z"⟩, 18) := ⟨⟨by decide +kernel, by decide +kernel⟩, List.mem_of_getElem? (i := 847) (by decide +kernel), List.mem_of_getElem? (i := 996) (by decide +kernel), List.mem_of_getElem? (i := 997) (by decide +kernel)⟩
theorem lw_p23 : lw_okq (⟨"CarpetRealmsModel", "wearsOf", "(I)I"⟩, 18) := ⟨⟨by decide +kernel, by decide +kernel⟩, List.mem_of_getElem? (i := 847) (by decide +kernel), List.mem_of_getElem? (i := 1000) (by decide +kernel), List.mem_of_getElem? (i := 1001) (by decide +kernel)⟩
theorem lw_p24 : lw_okq (⟨"CarpetRealmsModel", "breedsOf", "(I)I"⟩, 18) := ⟨⟨by decide +kernel, by decide +kernel⟩, List.mem_of_getElem? (i := 847) (by decide +kernel), List.mem_of_getElem? (i := 1004) (by decide +kernel), List.mem_of_getElem? (i := 1005) (by decide +kernel)⟩
theorem lw_p25 : lw_okq (⟨"CarpetRealmsModel", "beatenOf", "(I)I"⟩, 18) := ⟨⟨by decide +kernel, by decide +kernel⟩, List.mem_of_getElem? (i := 847) (by decide +kernel), List.mem_of_getElem? (i := 1008) (by decide +kernel), List.mem_of_getElem? (i := 1009) (by decide +kernel)⟩
theorem lw_p26 : lw_okq (⟨"CarpetRealmsModel", "rollsOut", "(II)V"⟩, 18) := ⟨⟨by decide +kernel, by decide +kernel⟩, List.mem_of_getElem? (i := 847) (by decide +kernel), List.mem_of_getElem? (i := 1028) (by decide +kernel), List.mem_of_getElem? (i := 1029) (by decide +kernel)⟩
theorem lw_p27 : lw_okq (⟨"CarpetRealmsModel", "goes", "(I)V"⟩, 18) := ⟨⟨by decide +kernel, by decide +kernel⟩, List.mem_of_getElem? (i := 847) (by decide +kernel), List.mem_of_getElem? (i := 1048) (by decide +kernel), List.mem_of_getElem? (i := 1049) (by decide +kernel)⟩
theorem lw_p28 : lw_okq (⟨"CarpetRealmsModel", "ages", "(I)V"⟩, 18) := ⟨⟨by decide +kernel, by decide +kernel⟩, List.mem_of_getElem? (i := 847) (by decide +kernel), List.mem_of_getElem? (i := 1052) (by decide +kernel), List.mem_of_getElem? (i := 1053) (by decide +kernel)⟩
theorem lw_p29 : lw_okq (⟨"CarpetRealmsModel", "setsAside", "()V"⟩, 18) := ⟨⟨by decide +kernel, by decide +kernel⟩, List.mem_of_getElem? (i := 847) (by decide +kernel), List.mem_of_getElem? (i := 1060) (by decide +kernel), List.mem_of_getElem? (i := 1061) (by decide +kernel)⟩
theorem lw_p30 : lw_okq (⟨"CarpetRealmsModel", "laysBack", "()V"⟩, 18) := ⟨⟨by decide +kernel, by decide +kernel⟩, List.mem_of_getElem? (i := 847) (by decide +kernel), List.mem_of_getElem? (i := 1064) (by decide +kernel), List.mem_of_getElem? (i := 1065) (by decide +kernel)⟩
theorem lw_p31 : lw_okq (⟨"CarpetRealmsModel", "hasThen", "(II)I"⟩, 18) := ⟨⟨by decide +kernel, by decide +kernel⟩, List.mem_of_getElem? (i := 847) (by decide +kernel), List.mem_of_getElem? (i := 1072) (by decide +kernel), List.mem_of_getElem? (i := 1073) (by decide +kernel)⟩
def lw_privs_2 : List (MethodName × Nat) := [(⟨"CarpetRealmsModel", "yardsOf", "(I)I"⟩, 18), (⟨"CarpetRealmsModel", "rains", "()Z"⟩, 18), (⟨"CarpetRealmsModel", "rolledOut", "()I"⟩, 18), (⟨"CarpetRealmsModel", "sumOf", "(I)I"⟩, 18), (⟨"CarpetRealmsModel", "addsCarpet", "(II)V"⟩, 18), (⟨"CarpetRealmsModel", "puts", "(III)V"⟩, 18), (⟨"CarpetRealmsModel", "isCarpet", "(I)Z"⟩, 18), (⟨"CarpetRealmsModel", "wearsOf", "(I)I"⟩, 18), (⟨"CarpetRealmsModel", "breedsOf", "(I)I"⟩, 18), (⟨"CarpetRealmsModel", "beatenOf", "(I)I"⟩, 18), (⟨"CarpetRealmsModel", "rollsOut", "(II)V"⟩, 18), (⟨"CarpetRealmsModel", "goes", "(I)V"⟩, 18), (⟨"CarpetRealmsModel", "ages", "(I)V"⟩, 18), (⟨"CarpetRealmsModel", "setsAside", "()V"⟩, 18), (⟨"CarpetRealmsModel", "laysBack", "()V"⟩, 18), (⟨"CarpetRealmsModel", "hasThen", "(II)I"⟩, 18)]
theorem lw_r2 : ∀ q ∈ lw_privs_2, lw_okq q := List.forall_mem_cons.mpr ⟨lw_p16, List.forall_mem_cons.mpr ⟨lw_p17, List.forall_mem_cons.mpr ⟨lw_p18, List.forall_mem_cons.mpr ⟨lw_p19, List.forall_mem_cons.mpr ⟨lw_p20, List.forall_mem_cons.mpr ⟨lw_p21, List.forall_mem_cons.mpr ⟨lw_p22, List.forall_mem_cons.mpr ⟨lw_p23, List.forall_mem_cons.mpr ⟨lw_p24, List.forall_mem_cons.mpr ⟨lw_p25, List.forall_mem_cons.mpr ⟨lw_p26, List.forall_mem_cons.mpr ⟨lw_p27, List.forall_mem_cons.mpr ⟨lw_p28, List.forall_mem_cons.mpr ⟨lw_p29, List.forall_mem_cons.mpr ⟨lw_p30, List.forall_mem_cons.mpr ⟨lw_p31, fun _ h => absurd h List.not_mem_nil⟩⟩⟩⟩⟩⟩⟩⟩⟩⟩⟩⟩⟩⟩⟩⟩
theorem lw_p32 : lw_okq (⟨"CarpetRealmsModel", "firstBy", "(III)I"⟩, 18) := ⟨⟨by decide +kernel, by decide +kernel⟩, List.mem_of_getElem? (i := 847) (by decide +kernel), List.mem_of_getElem? (i := 1080) (by decide +kernel), List.mem_of_getElem? (i := 1081) (by decide +kernel)⟩
theorem lw_p33 : lw_okq (⟨"CarpetRealmsModel", "orNone", "(I)I"⟩, 18) := ⟨⟨by decide +kernel, by decide +kernel⟩, List.mem_of_getElem? (i := 847) (by decide +kernel), List.mem_of_getElem? (i := 1084) (by decide +kernel), List.mem_of_getElem? (i := 1085) (by decide +kernel)⟩
theorem lw_p34 : lw_okq (⟨"CarpetRealmsModel", "hasWithout", "(II)I"⟩, 18) := ⟨⟨by decide +kernel, by decide +kernel⟩, List.mem_of_getElem? (i := 847) (by decide +kernel), List.mem_of_getElem? (i := 1123) (by decide +kernel), List.mem_of_getElem? (i := 1124) (by decide +kernel)⟩
theorem lw_p35 : lw_okq (⟨"CarpetRealmsModel", "nextToken", "()V"⟩, 18) := ⟨⟨by decide +kernel, by decide +kernel⟩, List.mem_of_getElem? (i := 847) (by decide +kernel), List.mem_of_getElem? (i := 1139) (by decide +kernel), List.mem_of_getElem? (i := 1140) (by decide +kernel)⟩
theorem lw_p36 : lw_okq (⟨"CarpetRealmsModel", "readsItem", "()Z"⟩, 18) := ⟨⟨by decide +kernel, by decide +kernel⟩, List.mem_of_getElem? (i := 847) (by decide +kernel), List.mem_of_getElem? (i := 1155) (by decide +kernel), List.mem_of_getElem? (i := 1156) (by decide +kernel)⟩
theorem lw_p37 : lw_okq (⟨"CarpetRealmsModel", "wordOf", "([C)I"⟩, 18) := ⟨⟨by decide +kernel, by decide +kernel⟩, List.mem_of_getElem? (i := 847) (by decide +kernel), List.mem_of_getElem? (i := 1159) (by decide +kernel), List.mem_of_getElem? (i := 1160) (by decide +kernel)⟩
theorem lw_p38 : lw_okq (⟨"CarpetRealmsModel", "readsCarpet", "(I)Z"⟩, 18) := ⟨⟨by decide +kernel, by decide +kernel⟩, List.mem_of_getElem? (i := 847) (by decide +kernel), List.mem_of_getElem? (i := 1163) (by decide +kernel), List.mem_of_getElem? (i := 1164) (by decide +kernel)⟩
theorem lw_p39 : lw_okq (⟨"CarpetRealmsModel", "takesNumber", "(II)I"⟩, 18) := ⟨⟨by decide +kernel, by decide +kernel⟩, List.mem_of_getElem? (i := 847) (by decide +kernel), List.mem_of_getElem? (i := 1167) (by decide +kernel), List.mem_of_getElem? (i := 1168) (by decide +kernel)⟩
theorem lw_p40 : lw_okq (⟨"CarpetRealmsModel", "isUpTold", "()Z"⟩, 18) := ⟨⟨by decide +kernel, by decide +kernel⟩, List.mem_of_getElem? (i := 847) (by decide +kernel), List.mem_of_getElem? (i := 1171) (by decide +kernel), List.mem_of_getElem? (i := 1172) (by decide +kernel)⟩
theorem lw_p41 : lw_okq (⟨"CarpetRealmsModel", "readsUp", "()Z"⟩, 18) := ⟨⟨by decide +kernel, by decide +kernel⟩, List.mem_of_getElem? (i := 847) (by decide +kernel), List.mem_of_getElem? (i := 1175) (by decide +kernel), List.mem_of_getElem? (i := 1176) (by decide +kernel)⟩
theorem lw_p42 : lw_okq (⟨"CarpetRealmsModel", "wrongSheet", "(I)I"⟩, 18) := ⟨⟨by decide +kernel, by decide +kernel⟩, List.mem_of_getElem? (i := 847) (by decide +kernel), List.mem_of_getElem? (i := 1190) (by decide +kernel), List.mem_of_getElem? (i := 1191) (by decide +kernel)⟩
theorem lw_p43 : lw_okq (⟨"CarpetRealmsModel", "told", "(II)J"⟩, 18) := ⟨⟨by decide +kernel, by decide +kernel⟩, List.mem_of_getElem? (i := 847) (by decide +kernel), List.mem_of_getElem? (i := 1194) (by decide +kernel), List.mem_of_getElem? (i := 1195) (by decide +kernel)⟩
theorem lw_p44 : lw_okq (⟨"CarpetRealmsModel", "tells", "(IIJ)V"⟩, 18) := ⟨⟨by decide +kernel, by decide +kernel⟩, List.mem_of_getElem? (i := 847) (by decide +kernel), List.mem_of_getElem? (i := 1198) (by decide +kernel), List.mem_of_getElem? (i := 1199) (by decide +kernel)⟩
theorem lw_p45 : lw_okq (⟨"CarpetRealmsModel", "wrongWith", "(II)I"⟩, 18) := ⟨⟨by decide +kernel, by decide +kernel⟩, List.mem_of_getElem? (i := 847) (by decide +kernel), List.mem_of_getElem? (i := 1215) (by decide +kernel), List.mem_of_getElem? (i := 1216) (by decide +kernel)⟩
theorem lw_p46 : lw_okq (⟨"CarpetRealmsModel", "isSo", "(II)Z"⟩, 18) := ⟨⟨by decide +kernel, by decide +kernel⟩, List.mem_of_getElem? (i := 847) (by decide +kernel), List.mem_of_getElem? (i := 1223) (by decide +kernel), List.mem_of_getElem? (i := 1224) (by decide +kernel)⟩
def lw_privs_3 : List (MethodName × Nat) := [(⟨"CarpetRealmsModel", "firstBy", "(III)I"⟩, 18), (⟨"CarpetRealmsModel", "orNone", "(I)I"⟩, 18), (⟨"CarpetRealmsModel", "hasWithout", "(II)I"⟩, 18), (⟨"CarpetRealmsModel", "nextToken", "()V"⟩, 18), (⟨"CarpetRealmsModel", "readsItem", "()Z"⟩, 18), (⟨"CarpetRealmsModel", "wordOf", "([C)I"⟩, 18), (⟨"CarpetRealmsModel", "readsCarpet", "(I)Z"⟩, 18), (⟨"CarpetRealmsModel", "takesNumber", "(II)I"⟩, 18), (⟨"CarpetRealmsModel", "isUpTold", "()Z"⟩, 18), (⟨"CarpetRealmsModel", "readsUp", "()Z"⟩, 18), (⟨"CarpetRealmsModel", "wrongSheet", "(I)I"⟩, 18), (⟨"CarpetRealmsModel", "told", "(II)J"⟩, 18), (⟨"CarpetRealmsModel", "tells", "(IIJ)V"⟩, 18), (⟨"CarpetRealmsModel", "wrongWith", "(II)I"⟩, 18), (⟨"CarpetRealmsModel", "isSo", "(II)Z"⟩, 18)]
theorem lw_r3 : ∀ q ∈ lw_privs_3, lw_okq q := List.forall_mem_cons.mpr ⟨lw_p32, List.forall_mem_cons.mpr ⟨lw_p33, List.forall_mem_cons.mpr ⟨lw_p34, List.forall_mem_cons.mpr ⟨lw_p35, List.forall_mem_cons.mpr ⟨lw_p36, List.forall_mem_cons.mpr ⟨lw_p37, List.forall_mem_cons.mpr ⟨lw_p38, List.forall_mem_cons.mpr ⟨lw_p39, List.forall_mem_cons.mpr ⟨lw_p40, List.forall_mem_cons.mpr ⟨lw_p41, List.forall_mem_cons.mpr ⟨lw_p42, List.forall_mem_cons.mpr ⟨lw_p43, List.forall_mem_cons.mpr ⟨lw_p44, List.forall_mem_cons.mpr ⟨lw_p45, List.forall_mem_cons.mpr ⟨lw_p46, fun _ h => absurd h List.not_mem_nil⟩⟩⟩⟩⟩⟩⟩⟩⟩⟩⟩⟩⟩⟩⟩
def lw_privs : List (MethodName × Nat) := lw_privs_1 ++ (lw_privs_2 ++ (lw_privs_3))
def lw_tbl : List Cond := k2_sels lw_privs ++ tables_1
theorem lw_privs_ok : ∀ q ∈ lw_privs, lw_okq q := by
  show ∀ q ∈ lw_privs_1 ++ (lw_privs_2 ++ (lw_privs_3)), lw_okq q
  exact List.forall_mem_append.mpr ⟨lw_r1, List.forall_mem_append.mpr ⟨lw_r2, lw_r3⟩⟩
end
section
/-- the words that hold on: what every method of ours takes as given -/
def TB : List Cond := lw_tbl.filter goodWord
theorem tbm {w : Cond} (h : w ∈ lw_tbl) (hg : goodWord w = true) : w ∈ TB := List.mem_filter.mpr ⟨h, hg⟩
theorem tbGood {w : Cond} (h : w ∈ TB) : (w.onTables && w.keeps) = true ∨ ∃ ty, w = .arrayClass ty := good_of_word (List.mem_filter.mp h).2
theorem tbAll {w : Cond} (h : w ∈ TB) : w ∈ lw_tbl := (List.mem_filter.mp h).1
theorem tbp (i : Nat) {w : Cond} (h : ((k2_sels lw_privs)[i]? == some w && goodWord w) = true) : w ∈ TB := by
  rw [Bool.and_eq_true] at h
  exact tbm (List.mem_append_left _ (List.mem_of_getElem? (eq_of_beq h.1))) h.2
theorem tb1 (i : Nat) {w : Cond} (h : tables_1_1[i]? = some w) (hg : goodWord w = true) : w ∈ TB := tbm (List.mem_append_right _ (List.mem_append_left _ (List.mem_of_getElem? h))) hg
theorem tb2 (i : Nat) {w : Cond} (h : tables_1_2[i]? = some w) (hg : goodWord w = true) : w ∈ TB := tbm (List.mem_append_right _ (List.mem_append_right _ (List.mem_append_left _ (List.mem_of_getElem? h)))) hg
theorem tb3 (i : Nat) {w : Cond} (h : tables_1_3[i]? = some w) (hg : goodWord w = true) : w ∈ TB := tbm (List.mem_append_right _ (List.mem_append_right _ (List.mem_append_right _ (List.mem_append_left _ (List.mem_of_getElem? h))))) hg
theorem tb4 (i : Nat) {w : Cond} (h : tables_1_4[i]? = some w) (hg : goodWord w = true) : w ∈ TB := tbm (List.mem_append_right _ (List.mem_append_right _ (List.mem_append_right _ (List.mem_append_right _ (List.mem_append_left _ (List.mem_of_getElem? h)))))) hg
theorem tb5 (i : Nat) {w : Cond} (h : tables_1_5[i]? = some w) (hg : goodWord w = true) : w ∈ TB := tbm (List.mem_append_right _ (List.mem_append_right _ (List.mem_append_right _ (List.mem_append_right _ (List.mem_append_right _ (List.mem_append_left _ (List.mem_of_getElem? h))))))) hg
theorem tb6 (i : Nat) {w : Cond} (h : tables_1_6[i]? = some w) (hg : goodWord w = true) : w ∈ TB := tbm (List.mem_append_right _ (List.mem_append_right _ (List.mem_append_right _ (List.mem_append_right _ (List.mem_append_right _ (List.mem_append_right _ (List.mem_of_getElem? h))))))) hg
def R_Kind : String := "CarpetRealms$Kind"
def R_Mat : String := "CarpetRealms$Mat"
def R_PalaceReader : String := "CarpetRealms$PalaceReader"
def R_Rug : String := "CarpetRealms$Rug"
def R_Runner : String := "CarpetRealms$Runner"
def R_Shag : String := "CarpetRealms$Shag"
def R_Sheet : String := "CarpetRealms$Sheet"
def R_Stair : String := "CarpetRealms$Stair"
def R_Tape : String := "CarpetRealms$Tape"
def R_Velvet : String := "CarpetRealms$Velvet"
def R_World : String := "CarpetRealms$World"
def R_X : String := "CarpetRealms"
def R_M : String := "CarpetRealmsModel"
def R_Integer : String := "java/lang/Integer"
def R_Long : String := "java/lang/Long"
def R_Math : String := "java/lang/Math"
def R_String : String := "java/lang/String"
def R_StringLatin1 : String := "java/lang/StringLatin1"
def R_StringUTF16 : String := "java/lang/StringUTF16"
def R_System : String := "java/lang/System"
def R_Preconditions : String := "jdk/internal/util/Preconditions"
def T_Kind : u_T := fun k => match k with
  | 0 => ("CarpetRealms$Kind", "number", "I", true)
  | 1 => ("CarpetRealms$Kind", "name", "Ljava/lang/String;", true)
  | _ => ("CarpetRealms$Kind", "above", "LCarpetRealms$Kind;", true)
def ty_Kind : Nat → FieldType := fun k => match k with
  | 0 => .int
  | 1 => .object "java/lang/String"
  | _ => .object "CarpetRealms$Kind"
theorem nm_Kind : ∀ a, a < 3 → ∀ b, b < 3 → a ≠ b → (T_Kind a).2.1 ≠ (T_Kind b).2.1 := by decide +kernel
theorem tyok_Kind : ∀ k, k < 3 → parseFieldDescriptor (T_Kind k).2.2.1 = some (ty_Kind k) := by decide +kernel
theorem in_Kind : ∀ w ∈ u_ws R_Kind T_Kind 3, w ∈ TB := by
  intro w h
  obtain ⟨i, hi⟩ := List.getElem?_of_mem h
  match i, hi with
  | 0, hi => exact (Option.some.inj hi) ▸ (tb1 42 (by decide +kernel) (by decide +kernel))
  | 1, hi => exact (Option.some.inj hi) ▸ (tb1 44 (by decide +kernel) (by decide +kernel))
  | 2, hi => exact (Option.some.inj hi) ▸ (tb1 46 (by decide +kernel) (by decide +kernel))
  | i + 3, hi => exact absurd hi (by simp [u_ws])
def T_Mat : u_T := fun k => match k with
  | 0 => ("CarpetRealms$Kind", "number", "I", true)
  | 1 => ("CarpetRealms$Kind", "name", "Ljava/lang/String;", true)
  | _ => ("CarpetRealms$Kind", "above", "LCarpetRealms$Kind;", true)
def ty_Mat : Nat → FieldType := fun k => match k with
  | 0 => .int
  | 1 => .object "java/lang/String"
  | _ => .object "CarpetRealms$Kind"
theorem nm_Mat : ∀ a, a < 3 → ∀ b, b < 3 → a ≠ b → (T_Mat a).2.1 ≠ (T_Mat b).2.1 := by decide +kernel
theorem tyok_Mat : ∀ k, k < 3 → parseFieldDescriptor (T_Mat k).2.2.1 = some (ty_Mat k) := by decide +kernel
theorem in_Mat : ∀ w ∈ u_ws R_Mat T_Mat 3, w ∈ TB := by
  intro w h
  obtain ⟨i, hi⟩ := List.getElem?_of_mem h
  match i, hi with
  | 0, hi => exact (Option.some.inj hi) ▸ (tb1 79 (by decide +kernel) (by decide +kernel))
  | 1, hi => exact (Option.some.inj hi) ▸ (tb1 80 (by decide +kernel) (by decide +kernel))
  | 2, hi => exact (Option.some.inj hi) ▸ (tb1 81 (by decide +kernel) (by decide +kernel))
  | i + 3, hi => exact absurd hi (by simp [u_ws])
def T_Rug : u_T := fun k => match k with
  | 0 => ("CarpetRealms$Rug", "kind", "LCarpetRealms$Kind;", false)
  | 1 => ("CarpetRealms$Rug", "realm", "I", false)
  | 2 => ("CarpetRealms$Rug", "yardsLong", "I", false)
  | 3 => ("CarpetRealms$Rug", "pile", "I", false)
  | 4 => ("CarpetRealms$Rug", "moths", "I", false)
  | 5 => ("CarpetRealms$Rug", "from", "I", false)
  | _ => ("CarpetRealms$Rug", "rolledAt", "I", false)
def ty_Rug : Nat → FieldType := fun k => match k with
  | 0 => .object "CarpetRealms$Kind"
  | 1 => .int
  | 2 => .int
  | 3 => .int
  | 4 => .int
  | 5 => .int
  | _ => .int
theorem nm_Rug : ∀ a, a < 7 → ∀ b, b < 7 → a ≠ b → (T_Rug a).2.1 ≠ (T_Rug b).2.1 := by decide +kernel
theorem tyok_Rug : ∀ k, k < 7 → parseFieldDescriptor (T_Rug k).2.2.1 = some (ty_Rug k) := by decide +kernel
theorem in_Rug : ∀ w ∈ u_ws R_Rug T_Rug 7, w ∈ TB := by
  intro w h
  obtain ⟨i, hi⟩ := List.getElem?_of_mem h
  match i, hi with
  | 0, hi => exact (Option.some.inj hi) ▸ (tb1 144 (by decide +kernel) (by decide +kernel))
  | 1, hi => exact (Option.some.inj hi) ▸ (tb1 146 (by decide +kernel) (by decide +kernel))
  | 2, hi => exact (Option.some.inj hi) ▸ (tb1 148 (by decide +kernel) (by decide +kernel))
  | 3, hi => exact (Option.some.inj hi) ▸ (tb1 150 (by decide +kernel) (by decide +kernel))
  | 4, hi => exact (Option.some.inj hi) ▸ (tb1 152 (by decide +kernel) (by decide +kernel))
  | 5, hi => exact (Option.some.inj hi) ▸ (tb1 154 (by decide +kernel) (by decide +kernel))
  | 6, hi => exact (Option.some.inj hi) ▸ (tb1 156 (by decide +kernel) (by decide +kernel))
  | i + 7, hi => exact absurd hi (by simp [u_ws])
def T_Runner : u_T := fun k => match k with
  | 0 => ("CarpetRealms$Kind", "number", "I", true)
  | 1 => ("CarpetRealms$Kind", "name", "Ljava/lang/String;", true)
  | _ => ("CarpetRealms$Kind", "above", "LCarpetRealms$Kind;", true)
def ty_Runner : Nat → FieldType := fun k => match k with
  | 0 => .int
  | 1 => .object "java/lang/String"
  | _ => .object "CarpetRealms$Kind"
theorem nm_Runner : ∀ a, a < 3 → ∀ b, b < 3 → a ≠ b → (T_Runner a).2.1 ≠ (T_Runner b).2.1 := by decide +kernel
theorem tyok_Runner : ∀ k, k < 3 → parseFieldDescriptor (T_Runner k).2.2.1 = some (ty_Runner k) := by decide +kernel
theorem in_Runner : ∀ w ∈ u_ws R_Runner T_Runner 3, w ∈ TB := by
  intro w h
  obtain ⟨i, hi⟩ := List.getElem?_of_mem h
  match i, hi with
  | 0, hi => exact (Option.some.inj hi) ▸ (tb1 57 (by decide +kernel) (by decide +kernel))
  | 1, hi => exact (Option.some.inj hi) ▸ (tb1 58 (by decide +kernel) (by decide +kernel))
  | 2, hi => exact (Option.some.inj hi) ▸ (tb1 59 (by decide +kernel) (by decide +kernel))
  | i + 3, hi => exact absurd hi (by simp [u_ws])
def T_Shag : u_T := fun k => match k with
  | 0 => ("CarpetRealms$Kind", "number", "I", true)
  | 1 => ("CarpetRealms$Kind", "name", "Ljava/lang/String;", true)
  | _ => ("CarpetRealms$Kind", "above", "LCarpetRealms$Kind;", true)
def ty_Shag : Nat → FieldType := fun k => match k with
  | 0 => .int
  | 1 => .object "java/lang/String"
  | _ => .object "CarpetRealms$Kind"
theorem nm_Shag : ∀ a, a < 3 → ∀ b, b < 3 → a ≠ b → (T_Shag a).2.1 ≠ (T_Shag b).2.1 := by decide +kernel
theorem tyok_Shag : ∀ k, k < 3 → parseFieldDescriptor (T_Shag k).2.2.1 = some (ty_Shag k) := by decide +kernel
theorem in_Shag : ∀ w ∈ u_ws R_Shag T_Shag 3, w ∈ TB := by
  intro w h
  obtain ⟨i, hi⟩ := List.getElem?_of_mem h
  match i, hi with
  | 0, hi => exact (Option.some.inj hi) ▸ (tb1 101 (by decide +kernel) (by decide +kernel))
  | 1, hi => exact (Option.some.inj hi) ▸ (tb1 102 (by decide +kernel) (by decide +kernel))
  | 2, hi => exact (Option.some.inj hi) ▸ (tb1 103 (by decide +kernel) (by decide +kernel))
  | i + 3, hi => exact absurd hi (by simp [u_ws])
def T_Sheet : u_T := fun k => match k with
  | 0 => ("CarpetRealms$Sheet", "numbers", "[J", true)
  | 1 => ("CarpetRealms$Sheet", "bits", "I", false)
  | _ => ("CarpetRealms$Sheet", "length", "I", false)
def ty_Sheet : Nat → FieldType := fun k => match k with
  | 0 => .array (.long)
  | 1 => .int
  | _ => .int
theorem nm_Sheet : ∀ a, a < 3 → ∀ b, b < 3 → a ≠ b → (T_Sheet a).2.1 ≠ (T_Sheet b).2.1 := by decide +kernel
theorem tyok_Sheet : ∀ k, k < 3 → parseFieldDescriptor (T_Sheet k).2.2.1 = some (ty_Sheet k) := by decide +kernel
theorem in_Sheet : ∀ w ∈ u_ws R_Sheet T_Sheet 3, w ∈ TB := by
  intro w h
  obtain ⟨i, hi⟩ := List.getElem?_of_mem h
  match i, hi with
  | 0, hi => exact (Option.some.inj hi) ▸ (tb1 237 (by decide +kernel) (by decide +kernel))
  | 1, hi => exact (Option.some.inj hi) ▸ (tb1 239 (by decide +kernel) (by decide +kernel))
  | 2, hi => exact (Option.some.inj hi) ▸ (tb2 1 (by decide +kernel) (by decide +kernel))
  | i + 3, hi => exact absurd hi (by simp [u_ws])
def T_Stair : u_T := fun k => match k with
  | 0 => ("CarpetRealms$Kind", "number", "I", true)
  | 1 => ("CarpetRealms$Kind", "name", "Ljava/lang/String;", true)
  | _ => ("CarpetRealms$Kind", "above", "LCarpetRealms$Kind;", true)
def ty_Stair : Nat → FieldType := fun k => match k with
  | 0 => .int
  | 1 => .object "java/lang/String"
  | _ => .object "CarpetRealms$Kind"
theorem nm_Stair : ∀ a, a < 3 → ∀ b, b < 3 → a ≠ b → (T_Stair a).2.1 ≠ (T_Stair b).2.1 := by decide +kernel
theorem tyok_Stair : ∀ k, k < 3 → parseFieldDescriptor (T_Stair k).2.2.1 = some (ty_Stair k) := by decide +kernel
theorem in_Stair : ∀ w ∈ u_ws R_Stair T_Stair 3, w ∈ TB := by
  intro w h
  obtain ⟨i, hi⟩ := List.getElem?_of_mem h
  match i, hi with
  | 0, hi => exact (Option.some.inj hi) ▸ (tb1 90 (by decide +kernel) (by decide +kernel))
  | 1, hi => exact (Option.some.inj hi) ▸ (tb1 91 (by decide +kernel) (by decide +kernel))
  | 2, hi => exact (Option.some.inj hi) ▸ (tb1 92 (by decide +kernel) (by decide +kernel))
  | i + 3, hi => exact absurd hi (by simp [u_ws])
def T_Tape : u_T := fun k => match k with
  | 0 => ("CarpetRealms$Tape", "bytes", "[I", true)
  | 1 => ("CarpetRealms$Tape", "length", "I", false)
  | 2 => ("CarpetRealms$Tape", "token", "I", false)
  | 3 => ("CarpetRealms$Tape", "start", "I", false)
  | 4 => ("CarpetRealms$Tape", "end", "I", false)
  | _ => ("CarpetRealms$Tape", "value", "I", false)
def ty_Tape : Nat → FieldType := fun k => match k with
  | 0 => .array (.int)
  | 1 => .int
  | 2 => .int
  | 3 => .int
  | 4 => .int
  | _ => .int
theorem nm_Tape : ∀ a, a < 6 → ∀ b, b < 6 → a ≠ b → (T_Tape a).2.1 ≠ (T_Tape b).2.1 := by decide +kernel
theorem tyok_Tape : ∀ k, k < 6 → parseFieldDescriptor (T_Tape k).2.2.1 = some (ty_Tape k) := by decide +kernel
theorem in_Tape : ∀ w ∈ u_ws R_Tape T_Tape 6, w ∈ TB := by
  intro w h
  obtain ⟨i, hi⟩ := List.getElem?_of_mem h
  match i, hi with
  | 0, hi => exact (Option.some.inj hi) ▸ (tb1 211 (by decide +kernel) (by decide +kernel))
  | 1, hi => exact (Option.some.inj hi) ▸ (tb1 213 (by decide +kernel) (by decide +kernel))
  | 2, hi => exact (Option.some.inj hi) ▸ (tb1 215 (by decide +kernel) (by decide +kernel))
  | 3, hi => exact (Option.some.inj hi) ▸ (tb1 217 (by decide +kernel) (by decide +kernel))
  | 4, hi => exact (Option.some.inj hi) ▸ (tb1 219 (by decide +kernel) (by decide +kernel))
  | 5, hi => exact (Option.some.inj hi) ▸ (tb1 221 (by decide +kernel) (by decide +kernel))
  | i + 6, hi => exact absurd hi (by simp [u_ws])
def T_Velvet : u_T := fun k => match k with
  | 0 => ("CarpetRealms$Kind", "number", "I", true)
  | 1 => ("CarpetRealms$Kind", "name", "Ljava/lang/String;", true)
  | _ => ("CarpetRealms$Kind", "above", "LCarpetRealms$Kind;", true)
def ty_Velvet : Nat → FieldType := fun k => match k with
  | 0 => .int
  | 1 => .object "java/lang/String"
  | _ => .object "CarpetRealms$Kind"
theorem nm_Velvet : ∀ a, a < 3 → ∀ b, b < 3 → a ≠ b → (T_Velvet a).2.1 ≠ (T_Velvet b).2.1 := by decide +kernel
theorem tyok_Velvet : ∀ k, k < 3 → parseFieldDescriptor (T_Velvet k).2.2.1 = some (ty_Velvet k) := by decide +kernel
theorem in_Velvet : ∀ w ∈ u_ws R_Velvet T_Velvet 3, w ∈ TB := by
  intro w h
  obtain ⟨i, hi⟩ := List.getElem?_of_mem h
  match i, hi with
  | 0, hi => exact (Option.some.inj hi) ▸ (tb1 68 (by decide +kernel) (by decide +kernel))
  | 1, hi => exact (Option.some.inj hi) ▸ (tb1 69 (by decide +kernel) (by decide +kernel))
  | 2, hi => exact (Option.some.inj hi) ▸ (tb1 70 (by decide +kernel) (by decide +kernel))
  | i + 3, hi => exact absurd hi (by simp [u_ws])
def T_World : u_T := fun k => match k with
  | 0 => ("CarpetRealms$World", "rugs", "[LCarpetRealms$Rug;", true)
  | 1 => ("CarpetRealms$World", "rain", "[I", true)
  | 2 => ("CarpetRealms$World", "count", "I", false)
  | 3 => ("CarpetRealms$World", "day", "I", false)
  | 4 => ("CarpetRealms$World", "rolls", "I", false)
  | 5 => ("CarpetRealms$World", "layers", "[I", true)
  | 6 => ("CarpetRealms$World", "spans", "[J", true)
  | _ => ("CarpetRealms$World", "layerCount", "I", false)
def ty_World : Nat → FieldType := fun k => match k with
  | 0 => .array (.object "CarpetRealms$Rug")
  | 1 => .array (.int)
  | 2 => .int
  | 3 => .int
  | 4 => .int
  | 5 => .array (.int)
  | 6 => .array (.long)
  | _ => .int
theorem nm_World : ∀ a, a < 8 → ∀ b, b < 8 → a ≠ b → (T_World a).2.1 ≠ (T_World b).2.1 := by decide +kernel
theorem tyok_World : ∀ k, k < 8 → parseFieldDescriptor (T_World k).2.2.1 = some (ty_World k) := by decide +kernel
theorem in_World : ∀ w ∈ u_ws R_World T_World 8, w ∈ TB := by
  intro w h
  obtain ⟨i, hi⟩ := List.getElem?_of_mem h
  match i, hi with
  | 0, hi => exact (Option.some.inj hi) ▸ (tb1 175 (by decide +kernel) (by decide +kernel))
  | 1, hi => exact (Option.some.inj hi) ▸ (tb1 177 (by decide +kernel) (by decide +kernel))
  | 2, hi => exact (Option.some.inj hi) ▸ (tb1 179 (by decide +kernel) (by decide +kernel))
  | 3, hi => exact (Option.some.inj hi) ▸ (tb1 181 (by decide +kernel) (by decide +kernel))
  | 4, hi => exact (Option.some.inj hi) ▸ (tb1 183 (by decide +kernel) (by decide +kernel))
  | 5, hi => exact (Option.some.inj hi) ▸ (tb1 185 (by decide +kernel) (by decide +kernel))
  | 6, hi => exact (Option.some.inj hi) ▸ (tb1 187 (by decide +kernel) (by decide +kernel))
  | 7, hi => exact (Option.some.inj hi) ▸ (tb1 189 (by decide +kernel) (by decide +kernel))
  | i + 8, hi => exact absurd hi (by simp [u_ws])
def T_X : u_T := fun k => match k with
  | 0 => ("CarpetRealms", "kinds", "[LCarpetRealms$Kind;", true)
  | 1 => ("CarpetRealms", "world", "LCarpetRealms$World;", true)
  | 2 => ("CarpetRealms", "kept", "LCarpetRealms$World;", true)
  | 3 => ("CarpetRealms", "trial", "LCarpetRealms$World;", true)
  | 4 => ("CarpetRealms", "probe", "LCarpetRealms$Rug;", true)
  | 5 => ("CarpetRealms", "tape", "LCarpetRealms$Tape;", true)
  | 6 => ("CarpetRealms", "sheets", "[LCarpetRealms$Sheet;", true)
  | 7 => ("CarpetRealms", "tallies", "[I", true)
  | _ => ("CarpetRealms", "hasImage", "Z", false)
def ty_X : Nat → FieldType := fun k => match k with
  | 0 => .array (.object "CarpetRealms$Kind")
  | 1 => .object "CarpetRealms$World"
  | 2 => .object "CarpetRealms$World"
  | 3 => .object "CarpetRealms$World"
  | 4 => .object "CarpetRealms$Rug"
  | 5 => .object "CarpetRealms$Tape"
  | 6 => .array (.object "CarpetRealms$Sheet")
  | 7 => .array (.int)
  | _ => .boolean
theorem nm_X : ∀ a, a < 9 → ∀ b, b < 9 → a ≠ b → (T_X a).2.1 ≠ (T_X b).2.1 := by decide +kernel
theorem tyok_X : ∀ k, k < 9 → parseFieldDescriptor (T_X k).2.2.1 = some (ty_X k) := by decide +kernel
theorem in_X : ∀ w ∈ u_ws R_X T_X 9, w ∈ TB := by
  intro w h
  obtain ⟨i, hi⟩ := List.getElem?_of_mem h
  match i, hi with
  | 0, hi => exact (Option.some.inj hi) ▸ (tb2 13 (by decide +kernel) (by decide +kernel))
  | 1, hi => exact (Option.some.inj hi) ▸ (tb2 15 (by decide +kernel) (by decide +kernel))
  | 2, hi => exact (Option.some.inj hi) ▸ (tb2 17 (by decide +kernel) (by decide +kernel))
  | 3, hi => exact (Option.some.inj hi) ▸ (tb2 19 (by decide +kernel) (by decide +kernel))
  | 4, hi => exact (Option.some.inj hi) ▸ (tb2 21 (by decide +kernel) (by decide +kernel))
  | 5, hi => exact (Option.some.inj hi) ▸ (tb2 23 (by decide +kernel) (by decide +kernel))
  | 6, hi => exact (Option.some.inj hi) ▸ (tb2 25 (by decide +kernel) (by decide +kernel))
  | 7, hi => exact (Option.some.inj hi) ▸ (tb2 27 (by decide +kernel) (by decide +kernel))
  | 8, hi => exact (Option.some.inj hi) ▸ (tb2 29 (by decide +kernel) (by decide +kernel))
  | i + 9, hi => exact absurd hi (by simp [u_ws])
def T_M : u_T := fun k => match k with
  | 0 => ("CarpetRealmsModel", "s", "[I", true)
  | 1 => ("CarpetRealmsModel", "kept", "[I", true)
  | 2 => ("CarpetRealmsModel", "aside", "[I", true)
  | 3 => ("CarpetRealmsModel", "isKept", "Z", false)
  | 4 => ("CarpetRealmsModel", "found", "[I", true)
  | 5 => ("CarpetRealmsModel", "tape", "[I", true)
  | 6 => ("CarpetRealmsModel", "taped", "I", false)
  | 7 => ("CarpetRealmsModel", "token", "I", false)
  | 8 => ("CarpetRealmsModel", "begun", "I", false)
  | 9 => ("CarpetRealmsModel", "ended", "I", false)
  | 10 => ("CarpetRealmsModel", "value", "J", false)
  | 11 => ("CarpetRealmsModel", "letters", "[C", true)
  | 12 => ("CarpetRealmsModel", "more", "[C", true)
  | 13 => ("CarpetRealmsModel", "others", "[C", true)
  | 14 => ("CarpetRealmsModel", "widths", "[I", true)
  | 15 => ("CarpetRealmsModel", "sizes", "[I", true)
  | 16 => ("CarpetRealmsModel", "cells", "[J", true)
  | _ => ("CarpetRealmsModel", "carried", "[J", true)
def ty_M : Nat → FieldType := fun k => match k with
  | 0 => .array (.int)
  | 1 => .array (.int)
  | 2 => .array (.int)
  | 3 => .boolean
  | 4 => .array (.int)
  | 5 => .array (.int)
  | 6 => .int
  | 7 => .int
  | 8 => .int
  | 9 => .int
  | 10 => .long
  | 11 => .array (.char)
  | 12 => .array (.char)
  | 13 => .array (.char)
  | 14 => .array (.int)
  | 15 => .array (.int)
  | 16 => .array (.long)
  | _ => .array (.long)
theorem nm_M : ∀ a, a < 18 → ∀ b, b < 18 → a ≠ b → (T_M a).2.1 ≠ (T_M b).2.1 := by decide +kernel
theorem tyok_M : ∀ k, k < 18 → parseFieldDescriptor (T_M k).2.2.1 = some (ty_M k) := by decide +kernel
theorem in_M : ∀ w ∈ u_ws R_M T_M 18, w ∈ TB := by
  intro w h
  obtain ⟨i, hi⟩ := List.getElem?_of_mem h
  match i, hi with
  | 0, hi => exact (Option.some.inj hi) ▸ (tb4 150 (by decide +kernel) (by decide +kernel))
  | 1, hi => exact (Option.some.inj hi) ▸ (tb4 152 (by decide +kernel) (by decide +kernel))
  | 2, hi => exact (Option.some.inj hi) ▸ (tb4 154 (by decide +kernel) (by decide +kernel))
  | 3, hi => exact (Option.some.inj hi) ▸ (tb4 156 (by decide +kernel) (by decide +kernel))
  | 4, hi => exact (Option.some.inj hi) ▸ (tb4 158 (by decide +kernel) (by decide +kernel))
  | 5, hi => exact (Option.some.inj hi) ▸ (tb4 160 (by decide +kernel) (by decide +kernel))
  | 6, hi => exact (Option.some.inj hi) ▸ (tb4 162 (by decide +kernel) (by decide +kernel))
  | 7, hi => exact (Option.some.inj hi) ▸ (tb4 164 (by decide +kernel) (by decide +kernel))
  | 8, hi => exact (Option.some.inj hi) ▸ (tb4 166 (by decide +kernel) (by decide +kernel))
  | 9, hi => exact (Option.some.inj hi) ▸ (tb4 168 (by decide +kernel) (by decide +kernel))
  | 10, hi => exact (Option.some.inj hi) ▸ (tb4 170 (by decide +kernel) (by decide +kernel))
  | 11, hi => exact (Option.some.inj hi) ▸ (tb4 172 (by decide +kernel) (by decide +kernel))
  | 12, hi => exact (Option.some.inj hi) ▸ (tb4 174 (by decide +kernel) (by decide +kernel))
  | 13, hi => exact (Option.some.inj hi) ▸ (tb4 176 (by decide +kernel) (by decide +kernel))
  | 14, hi => exact (Option.some.inj hi) ▸ (tb4 178 (by decide +kernel) (by decide +kernel))
  | 15, hi => exact (Option.some.inj hi) ▸ (tb4 180 (by decide +kernel) (by decide +kernel))
  | 16, hi => exact (Option.some.inj hi) ▸ (tb4 182 (by decide +kernel) (by decide +kernel))
  | 17, hi => exact (Option.some.inj hi) ▸ (tb4 184 (by decide +kernel) (by decide +kernel))
  | i + 18, hi => exact absurd hi (by simp [u_ws])
abbrev classes : List vw_C := [(R_Kind, T_Kind, 3), (R_Mat, T_Mat, 3), (R_Rug, T_Rug, 7), (R_Runner, T_Runner, 3), (R_Shag, T_Shag, 3), (R_Sheet, T_Sheet, 3), (R_Stair, T_Stair, 3), (R_Tape, T_Tape, 6), (R_Velvet, T_Velvet, 3), (R_World, T_World, 8), (R_X, T_X, 9), (R_M, T_M, 18)]
def y_Kind_init : MethodName := ⟨R_Kind, "<init>", "(ILjava/lang/String;LCarpetRealms$Kind;)V"⟩
abbrev c_Kind_init : ByteArray := prog_2_method_1_code
theorem k_Kind_init : Cond.code y_Kind_init c_Kind_init 4 none ∈ TB := tb1 35 rfl rfl
def y_Kind_isOrIsUnder : MethodName := ⟨R_Kind, "isOrIsUnder", "(I)Z"⟩
abbrev c_Kind_isOrIsUnder : ByteArray := prog_2_method_2_code
theorem k_Kind_isOrIsUnder : Cond.code y_Kind_isOrIsUnder c_Kind_isOrIsUnder 3 (some .boolean) ∈ TB := tb3 42 rfl rfl
def y_Kind_reaches : MethodName := ⟨R_Kind, "reaches", "(LCarpetRealms$Rug;)I"⟩
abbrev c_Kind_reaches : ByteArray := prog_2_method_3_code
theorem k_Kind_reaches : Cond.code y_Kind_reaches c_Kind_reaches 2 (some .int) ∈ TB := tb2 93 rfl rfl
def y_Kind_wears : MethodName := ⟨R_Kind, "wears", "(LCarpetRealms$Rug;I)I"⟩
abbrev c_Kind_wears : ByteArray := prog_2_method_4_code
theorem k_Kind_wears : Cond.code y_Kind_wears c_Kind_wears 3 (some .int) ∈ TB := tb2 214 rfl rfl
def y_Kind_breeds : MethodName := ⟨R_Kind, "breeds", "(I)I"⟩
abbrev c_Kind_breeds : ByteArray := prog_2_method_5_code
theorem k_Kind_breeds : Cond.code y_Kind_breeds c_Kind_breeds 2 (some .int) ∈ TB := tb2 232 rfl rfl
def y_Kind_gains : MethodName := ⟨R_Kind, "gains", "(LCarpetRealms$Rug;)I"⟩
abbrev c_Kind_gains : ByteArray := prog_2_method_6_code
theorem k_Kind_gains : Cond.code y_Kind_gains c_Kind_gains 2 (some .int) ∈ TB := tb3 13 rfl rfl
def y_Mat_init : MethodName := ⟨R_Mat, "<init>", "(ILjava/lang/String;LCarpetRealms$Kind;)V"⟩
abbrev c_Mat_init : ByteArray := prog_3_method_1_code
theorem k_Mat_init : Cond.code y_Mat_init c_Mat_init 4 none ∈ TB := tb1 77 rfl rfl
def y_Mat_reaches : MethodName := ⟨R_Mat, "reaches", "(LCarpetRealms$Rug;)I"⟩
abbrev c_Mat_reaches : ByteArray := prog_3_method_2_code
theorem k_Mat_reaches : Cond.code y_Mat_reaches c_Mat_reaches 2 (some .int) ∈ TB := tb2 74 rfl rfl
def y_Mat_wears : MethodName := ⟨R_Mat, "wears", "(LCarpetRealms$Rug;I)I"⟩
abbrev c_Mat_wears : ByteArray := prog_3_method_3_code
theorem k_Mat_wears : Cond.code y_Mat_wears c_Mat_wears 3 (some .int) ∈ TB := tb2 197 rfl rfl
def y_Mat_breeds : MethodName := ⟨R_Mat, "breeds", "(I)I"⟩
abbrev c_Mat_breeds : ByteArray := prog_3_method_4_code
theorem k_Mat_breeds : Cond.code y_Mat_breeds c_Mat_breeds 2 (some .int) ∈ TB := tb2 221 rfl rfl
def y_Mat_gains : MethodName := ⟨R_Mat, "gains", "(LCarpetRealms$Rug;)I"⟩
abbrev c_Mat_gains : ByteArray := prog_3_method_5_code
theorem k_Mat_gains : Cond.code y_Mat_gains c_Mat_gains 2 (some .int) ∈ TB := tb2 239 rfl rfl
def y_PalaceReader_tell : MethodName := ⟨R_PalaceReader, "tell", "(LCarpetRealms$Tape;LCarpetRealms$World;[LCarpetRealms$Kind;)I"⟩
abbrev c_PalaceReader_tell : ByteArray := prog_4_method_2_code
theorem k_PalaceReader_tell : Cond.code y_PalaceReader_tell c_PalaceReader_tell 4 (some .int) ∈ TB := tb3 180 rfl rfl
def y_PalaceReader_readItem : MethodName := ⟨R_PalaceReader, "readItem", "(LCarpetRealms$Tape;LCarpetRealms$World;[LCarpetRealms$Kind;)Z"⟩
abbrev c_PalaceReader_readItem : ByteArray := prog_4_method_3_code
theorem k_PalaceReader_readItem : Cond.code y_PalaceReader_readItem c_PalaceReader_readItem 4 (some .boolean) ∈ TB := tb3 195 rfl rfl
def y_PalaceReader_readUp : MethodName := ⟨R_PalaceReader, "readUp", "(LCarpetRealms$Tape;LCarpetRealms$World;)Z"⟩
abbrev c_PalaceReader_readUp : ByteArray := prog_4_method_4_code
theorem k_PalaceReader_readUp : Cond.code y_PalaceReader_readUp c_PalaceReader_readUp 3 (some .boolean) ∈ TB := tb4 15 rfl rfl
def y_PalaceReader_readPlace : MethodName := ⟨R_PalaceReader, "readPlace", "(LCarpetRealms$Tape;LCarpetRealms$World;I)Z"⟩
abbrev c_PalaceReader_readPlace : ByteArray := prog_4_method_5_code
theorem k_PalaceReader_readPlace : Cond.code y_PalaceReader_readPlace c_PalaceReader_readPlace 4 (some .boolean) ∈ TB := tb4 26 rfl rfl
def y_PalaceReader_readRug : MethodName := ⟨R_PalaceReader, "readRug", "(LCarpetRealms$Tape;LCarpetRealms$World;LCarpetRealms$Kind;)Z"⟩
abbrev c_PalaceReader_readRug : ByteArray := prog_4_method_6_code
theorem k_PalaceReader_readRug : Cond.code y_PalaceReader_readRug c_PalaceReader_readRug 6 (some .boolean) ∈ TB := tb4 36 rfl rfl
def y_Rug_init : MethodName := ⟨R_Rug, "<init>", "(LCarpetRealms$Kind;)V"⟩
abbrev c_Rug_init : ByteArray := prog_5_method_1_code
theorem k_Rug_init : Cond.code y_Rug_init c_Rug_init 2 none ∈ TB := tb1 117 rfl rfl
def y_Rug_begin : MethodName := ⟨R_Rug, "begin", "(LCarpetRealms$Kind;I)V"⟩
abbrev c_Rug_begin : ByteArray := prog_5_method_2_code
theorem k_Rug_begin : Cond.code y_Rug_begin c_Rug_begin 3 none ∈ TB := tb2 172 rfl rfl
def y_Rug_become : MethodName := ⟨R_Rug, "become", "(LCarpetRealms$Rug;)V"⟩
abbrev c_Rug_become : ByteArray := prog_5_method_3_code
theorem k_Rug_become : Cond.code y_Rug_become c_Rug_become 2 none ∈ TB := tb3 91 rfl rfl
def y_Rug_valueOf : MethodName := ⟨R_Rug, "valueOf", "(I)I"⟩
abbrev c_Rug_valueOf : ByteArray := prog_5_method_4_code
theorem k_Rug_valueOf : Cond.code y_Rug_valueOf c_Rug_valueOf 2 (some .int) ∈ TB := tb2 189 rfl rfl
def y_Rug_putValue : MethodName := ⟨R_Rug, "putValue", "(II)V"⟩
abbrev c_Rug_putValue : ByteArray := prog_5_method_5_code
theorem k_Rug_putValue : Cond.code y_Rug_putValue c_Rug_putValue 3 none ∈ TB := tb3 24 rfl rfl
def y_Rug_isOut : MethodName := ⟨R_Rug, "isOut", "()Z"⟩
abbrev c_Rug_isOut : ByteArray := prog_5_method_6_code
theorem k_Rug_isOut : Cond.code y_Rug_isOut c_Rug_isOut 1 (some .boolean) ∈ TB := tb2 63 rfl rfl
def y_Rug_putAway : MethodName := ⟨R_Rug, "putAway", "()V"⟩
abbrev c_Rug_putAway : ByteArray := prog_5_method_7_code
theorem k_Rug_putAway : Cond.code y_Rug_putAway c_Rug_putAway 1 none ∈ TB := tb2 176 rfl rfl
def y_Rug_yardsCovered : MethodName := ⟨R_Rug, "yardsCovered", "()I"⟩
abbrev c_Rug_yardsCovered : ByteArray := prog_5_method_8_code
theorem k_Rug_yardsCovered : Cond.code y_Rug_yardsCovered c_Rug_yardsCovered 1 (some .int) ∈ TB := tb2 67 rfl rfl
def y_Rug_covers : MethodName := ⟨R_Rug, "covers", "(I)Z"⟩
abbrev c_Rug_covers : ByteArray := prog_5_method_9_code
theorem k_Rug_covers : Cond.code y_Rug_covers c_Rug_covers 2 (some .boolean) ∈ TB := tb2 59 rfl rfl
def y_Rug_span : MethodName := ⟨R_Rug, "span", "()J"⟩
abbrev c_Rug_span : ByteArray := prog_5_method_10_code
theorem k_Rug_span : Cond.code y_Rug_span c_Rug_span 1 (some .long) ∈ TB := tb2 118 rfl rfl
def y_Rug_passDay : MethodName := ⟨R_Rug, "passDay", "(I)V"⟩
abbrev c_Rug_passDay : ByteArray := prog_5_method_11_code
theorem k_Rug_passDay : Cond.code y_Rug_passDay c_Rug_passDay 2 none ∈ TB := tb3 80 rfl rfl
def y_Runner_init : MethodName := ⟨R_Runner, "<init>", "(ILjava/lang/String;LCarpetRealms$Kind;)V"⟩
abbrev c_Runner_init : ByteArray := prog_6_method_1_code
theorem k_Runner_init : Cond.code y_Runner_init c_Runner_init 4 none ∈ TB := tb1 55 rfl rfl
def y_Runner_reaches : MethodName := ⟨R_Runner, "reaches", "(LCarpetRealms$Rug;)I"⟩
abbrev c_Runner_reaches : ByteArray := prog_6_method_2_code
theorem k_Runner_reaches : Cond.code y_Runner_reaches c_Runner_reaches 2 (some .int) ∈ TB := tb2 77 rfl rfl
def y_Runner_wears : MethodName := ⟨R_Runner, "wears", "(LCarpetRealms$Rug;I)I"⟩
abbrev c_Runner_wears : ByteArray := prog_6_method_3_code
theorem k_Runner_wears : Cond.code y_Runner_wears c_Runner_wears 3 (some .int) ∈ TB := tb2 200 rfl rfl
def y_Runner_gains : MethodName := ⟨R_Runner, "gains", "(LCarpetRealms$Rug;)I"⟩
abbrev c_Runner_gains : ByteArray := prog_6_method_4_code
theorem k_Runner_gains : Cond.code y_Runner_gains c_Runner_gains 2 (some .int) ∈ TB := tb3 2 rfl rfl
def y_Shag_init : MethodName := ⟨R_Shag, "<init>", "(ILjava/lang/String;LCarpetRealms$Kind;)V"⟩
abbrev c_Shag_init : ByteArray := prog_7_method_1_code
theorem k_Shag_init : Cond.code y_Shag_init c_Shag_init 4 none ∈ TB := tb1 99 rfl rfl
def y_Shag_reaches : MethodName := ⟨R_Shag, "reaches", "(LCarpetRealms$Rug;)I"⟩
abbrev c_Shag_reaches : ByteArray := prog_7_method_2_code
theorem k_Shag_reaches : Cond.code y_Shag_reaches c_Shag_reaches 3 (some .int) ∈ TB := tb2 80 rfl rfl
def y_Shag_wears : MethodName := ⟨R_Shag, "wears", "(LCarpetRealms$Rug;I)I"⟩
abbrev c_Shag_wears : ByteArray := prog_7_method_3_code
theorem k_Shag_wears : Cond.code y_Shag_wears c_Shag_wears 3 (some .int) ∈ TB := tb2 204 rfl rfl
def y_Shag_breeds : MethodName := ⟨R_Shag, "breeds", "(I)I"⟩
abbrev c_Shag_breeds : ByteArray := prog_7_method_4_code
theorem k_Shag_breeds : Cond.code y_Shag_breeds c_Shag_breeds 2 (some .int) ∈ TB := tb2 225 rfl rfl
def y_Shag_gains : MethodName := ⟨R_Shag, "gains", "(LCarpetRealms$Rug;)I"⟩
abbrev c_Shag_gains : ByteArray := prog_7_method_5_code
theorem k_Shag_gains : Cond.code y_Shag_gains c_Shag_gains 2 (some .int) ∈ TB := tb3 6 rfl rfl
def y_Sheet_init : MethodName := ⟨R_Sheet, "<init>", "()V"⟩
abbrev c_Sheet_init : ByteArray := prog_8_method_1_code
theorem k_Sheet_init : Cond.code y_Sheet_init c_Sheet_init 1 none ∈ TB := tb1 229 rfl rfl
def y_Sheet_begin : MethodName := ⟨R_Sheet, "begin", "(II)V"⟩
abbrev c_Sheet_begin : ByteArray := prog_8_method_2_code
theorem k_Sheet_begin : Cond.code y_Sheet_begin c_Sheet_begin 4 none ∈ TB := tb4 54 rfl rfl
def y_Sheet_isMissing : MethodName := ⟨R_Sheet, "isMissing", "()Z"⟩
abbrev c_Sheet_isMissing : ByteArray := prog_8_method_3_code
theorem k_Sheet_isMissing : Cond.code y_Sheet_isMissing c_Sheet_isMissing 1 (some .boolean) ∈ TB := tb4 62 rfl rfl
def y_Sheet_hasRow : MethodName := ⟨R_Sheet, "hasRow", "(II)Z"⟩
abbrev c_Sheet_hasRow : ByteArray := prog_8_method_4_code
theorem k_Sheet_hasRow : Cond.code y_Sheet_hasRow c_Sheet_hasRow 3 (some .boolean) ∈ TB := tb4 75 rfl rfl
def y_Sheet_putNumber : MethodName := ⟨R_Sheet, "putNumber", "(IJ)V"⟩
abbrev c_Sheet_putNumber : ByteArray := prog_8_method_5_code
theorem k_Sheet_putNumber : Cond.code y_Sheet_putNumber c_Sheet_putNumber 4 none ∈ TB := tb4 67 rfl rfl
def y_Stair_init : MethodName := ⟨R_Stair, "<init>", "(ILjava/lang/String;LCarpetRealms$Kind;)V"⟩
abbrev c_Stair_init : ByteArray := prog_9_method_1_code
theorem k_Stair_init : Cond.code y_Stair_init c_Stair_init 4 none ∈ TB := tb1 88 rfl rfl
def y_Stair_reaches : MethodName := ⟨R_Stair, "reaches", "(LCarpetRealms$Rug;)I"⟩
abbrev c_Stair_reaches : ByteArray := prog_9_method_2_code
theorem k_Stair_reaches : Cond.code y_Stair_reaches c_Stair_reaches 2 (some .int) ∈ TB := tb2 89 rfl rfl
def y_Stair_wears : MethodName := ⟨R_Stair, "wears", "(LCarpetRealms$Rug;I)I"⟩
abbrev c_Stair_wears : ByteArray := prog_9_method_3_code
theorem k_Stair_wears : Cond.code y_Stair_wears c_Stair_wears 3 (some .int) ∈ TB := tb2 211 rfl rfl
def y_Tape_init : MethodName := ⟨R_Tape, "<init>", "()V"⟩
abbrev c_Tape_init : ByteArray := prog_10_method_1_code
theorem k_Tape_init : Cond.code y_Tape_init c_Tape_init 1 none ∈ TB := tb1 200 rfl rfl
def y_Tape_addByte : MethodName := ⟨R_Tape, "addByte", "(I)V"⟩
abbrev c_Tape_addByte : ByteArray := prog_10_method_2_code
theorem k_Tape_addByte : Cond.code y_Tape_addByte c_Tape_addByte 2 none ∈ TB := tb3 169 rfl rfl
def y_Tape_toFirstToken : MethodName := ⟨R_Tape, "toFirstToken", "()V"⟩
abbrev c_Tape_toFirstToken : ByteArray := prog_10_method_3_code
theorem k_Tape_toFirstToken : Cond.code y_Tape_toFirstToken c_Tape_toFirstToken 1 none ∈ TB := tb3 184 rfl rfl
def y_Tape_toNextToken : MethodName := ⟨R_Tape, "toNextToken", "()V"⟩
abbrev c_Tape_toNextToken : ByteArray := prog_10_method_4_code
theorem k_Tape_toNextToken : Cond.code y_Tape_toNextToken c_Tape_toNextToken 2 none ∈ TB := tb3 188 rfl rfl
def y_Tape_tokenBegunBy : MethodName := ⟨R_Tape, "tokenBegunBy", "(I)I"⟩
abbrev c_Tape_tokenBegunBy : ByteArray := prog_10_method_5_code
theorem k_Tape_tokenBegunBy : Cond.code y_Tape_tokenBegunBy c_Tape_tokenBegunBy 1 (some .int) ∈ TB := tb3 191 rfl rfl
def y_Tape_isWord : MethodName := ⟨R_Tape, "isWord", "(Ljava/lang/String;)Z"⟩
abbrev c_Tape_isWord : ByteArray := prog_10_method_6_code
theorem k_Tape_isWord : Cond.code y_Tape_isWord c_Tape_isWord 3 (some .boolean) ∈ TB := tb3 204 rfl rfl
def y_Tape_passesWord : MethodName := ⟨R_Tape, "passesWord", "(Ljava/lang/String;)Z"⟩
abbrev c_Tape_passesWord : ByteArray := prog_10_method_7_code
theorem k_Tape_passesWord : Cond.code y_Tape_passesWord c_Tape_passesWord 2 (some .boolean) ∈ TB := tb3 200 rfl rfl
def y_Tape_numberHere : MethodName := ⟨R_Tape, "numberHere", "(II)I"⟩
abbrev c_Tape_numberHere : ByteArray := prog_10_method_8_code
theorem k_Tape_numberHere : Cond.code y_Tape_numberHere c_Tape_numberHere 3 (some .int) ∈ TB := tb4 19 rfl rfl
def y_Tape_passNumber : MethodName := ⟨R_Tape, "passNumber", "(II)I"⟩
abbrev c_Tape_passNumber : ByteArray := prog_10_method_9_code
theorem k_Tape_passNumber : Cond.code y_Tape_passNumber c_Tape_passNumber 4 (some .int) ∈ TB := tb4 30 rfl rfl
def y_Velvet_init : MethodName := ⟨R_Velvet, "<init>", "(ILjava/lang/String;LCarpetRealms$Kind;)V"⟩
abbrev c_Velvet_init : ByteArray := prog_11_method_1_code
theorem k_Velvet_init : Cond.code y_Velvet_init c_Velvet_init 4 none ∈ TB := tb1 66 rfl rfl
def y_Velvet_wears : MethodName := ⟨R_Velvet, "wears", "(LCarpetRealms$Rug;I)I"⟩
abbrev c_Velvet_wears : ByteArray := prog_11_method_2_code
theorem k_Velvet_wears : Cond.code y_Velvet_wears c_Velvet_wears 3 (some .int) ∈ TB := tb2 207 rfl rfl
def y_Velvet_breeds : MethodName := ⟨R_Velvet, "breeds", "(I)I"⟩
abbrev c_Velvet_breeds : ByteArray := prog_11_method_3_code
theorem k_Velvet_breeds : Cond.code y_Velvet_breeds c_Velvet_breeds 2 (some .int) ∈ TB := tb2 228 rfl rfl
def y_Velvet_gains : MethodName := ⟨R_Velvet, "gains", "(LCarpetRealms$Rug;)I"⟩
abbrev c_Velvet_gains : ByteArray := prog_11_method_4_code
theorem k_Velvet_gains : Cond.code y_Velvet_gains c_Velvet_gains 2 (some .int) ∈ TB := tb3 9 rfl rfl
def y_World_init : MethodName := ⟨R_World, "<init>", "(LCarpetRealms$Kind;)V"⟩
abbrev c_World_init : ByteArray := prog_12_method_1_code
theorem k_World_init : Cond.code y_World_init c_World_init 3 none ∈ TB := tb1 110 rfl rfl
def y_World_become : MethodName := ⟨R_World, "become", "(LCarpetRealms$World;)V"⟩
abbrev c_World_become : ByteArray := prog_12_method_2_code
theorem k_World_become : Cond.code y_World_become c_World_become 3 none ∈ TB := tb3 104 rfl rfl
def y_World_addRug : MethodName := ⟨R_World, "addRug", "(LCarpetRealms$Kind;I)I"⟩
abbrev c_World_addRug : ByteArray := prog_12_method_3_code
theorem k_World_addRug : Cond.code y_World_addRug c_World_addRug 3 (some .int) ∈ TB := tb2 168 rfl rfl
def y_World_layOut : MethodName := ⟨R_World, "layOut", "(LCarpetRealms$Rug;I)V"⟩
abbrev c_World_layOut : ByteArray := prog_12_method_4_code
theorem k_World_layOut : Cond.code y_World_layOut c_World_layOut 3 none ∈ TB := tb3 52 rfl rfl
def y_World_wetAhead : MethodName := ⟨R_World, "wetAhead", "(I)I"⟩
abbrev c_World_wetAhead : ByteArray := prog_12_method_5_code
theorem k_World_wetAhead : Cond.code y_World_wetAhead c_World_wetAhead 2 (some .int) ∈ TB := tb2 149 rfl rfl
def y_World_passDays : MethodName := ⟨R_World, "passDays", "(I)V"⟩
abbrev c_World_passDays : ByteArray := prog_12_method_6_code
theorem k_World_passDays : Cond.code y_World_passDays c_World_passDays 5 none ∈ TB := tb3 75 rfl rfl
def y_World_topAt : MethodName := ⟨R_World, "topAt", "(I)I"⟩
abbrev c_World_topAt : ByteArray := prog_12_method_7_code
theorem k_World_topAt : Cond.code y_World_topAt c_World_topAt 4 (some .int) ∈ TB := tb2 55 rfl rfl
def y_World_ownerAt : MethodName := ⟨R_World, "ownerAt", "(I)I"⟩
abbrev c_World_ownerAt : ByteArray := prog_12_method_8_code
theorem k_World_ownerAt : Cond.code y_World_ownerAt c_World_ownerAt 3 (some .int) ∈ TB := tb2 51 rfl rfl
def y_World_setAt : MethodName := ⟨R_World, "setAt", "(I)I"⟩
abbrev c_World_setAt : ByteArray := prog_12_method_9_code
theorem k_World_setAt : Cond.code y_World_setAt c_World_setAt 4 (some .int) ∈ TB := tb2 101 rfl rfl
def y_World_setOut : MethodName := ⟨R_World, "setOut", "()I"⟩
abbrev c_World_setOut : ByteArray := prog_12_method_10_code
theorem k_World_setOut : Cond.code y_World_setOut c_World_setOut 3 (some .int) ∈ TB := tb2 156 rfl rfl
def y_World_allPiles : MethodName := ⟨R_World, "allPiles", "()I"⟩
abbrev c_World_allPiles : ByteArray := prog_12_method_11_code
theorem k_World_allPiles : Cond.code y_World_allPiles c_World_allPiles 3 (some .int) ∈ TB := tb2 160 rfl rfl
def y_World_allMoths : MethodName := ⟨R_World, "allMoths", "()I"⟩
abbrev c_World_allMoths : ByteArray := prog_12_method_12_code
theorem k_World_allMoths : Cond.code y_World_allMoths c_World_allMoths 3 (some .int) ∈ TB := tb4 121 rfl rfl
def y_World_yardsOf : MethodName := ⟨R_World, "yardsOf", "(I)I"⟩
abbrev c_World_yardsOf : ByteArray := prog_12_method_13_code
theorem k_World_yardsOf : Cond.code y_World_yardsOf c_World_yardsOf 2 (some .int) ∈ TB := tb2 109 rfl rfl
def y_World_survey : MethodName := ⟨R_World, "survey", "()V"⟩
abbrev c_World_survey : ByteArray := prog_12_method_14_code
theorem k_World_survey : Cond.code y_World_survey c_World_survey 2 none ∈ TB := tb2 113 rfl rfl
def y_World_addLayer : MethodName := ⟨R_World, "addLayer", "(I)V"⟩
abbrev c_World_addLayer : ByteArray := prog_12_method_15_code
theorem k_World_addLayer : Cond.code y_World_addLayer c_World_addLayer 3 none ∈ TB := tb2 122 rfl rfl
def y_World_yardsWithout : MethodName := ⟨R_World, "yardsWithout", "(II)I"⟩
abbrev c_World_yardsWithout : ByteArray := prog_12_method_16_code
theorem k_World_yardsWithout : Cond.code y_World_yardsWithout c_World_yardsWithout 11 (some .int) ∈ TB := tb2 126 rfl rfl
def y_X_init : MethodName := ⟨R_X, "<init>", "()V"⟩
abbrev c_X_init : ByteArray := prog_1_method_1_code
theorem k_X_init : Cond.code y_X_init c_X_init 8 none ∈ TB := tb1 26 rfl rfl
def y_X_rain : MethodName := ⟨R_X, "rain", "(II)I"⟩
abbrev c_X_rain : ByteArray := prog_1_method_2_code
theorem k_X_rain : Cond.code y_X_rain c_X_rain 4 (some .int) ∈ TB := tb2 35 rfl rfl
def y_X_yard : MethodName := ⟨R_X, "yard", "(II)I"⟩
abbrev c_X_yard : ByteArray := prog_1_method_3_code
theorem k_X_yard : Cond.code y_X_yard c_X_yard 3 (some .int) ∈ TB := tb2 47 rfl rfl
def y_X_owns : MethodName := ⟨R_X, "owns", "(I)I"⟩
abbrev c_X_owns : ByteArray := prog_1_method_4_code
theorem k_X_owns : Cond.code y_X_owns c_X_owns 2 (some .int) ∈ TB := tb2 105 rfl rfl
def y_X_borders : MethodName := ⟨R_X, "borders", "()I"⟩
abbrev c_X_borders : ByteArray := prog_1_method_5_code
theorem k_X_borders : Cond.code y_X_borders c_X_borders 3 (some .int) ∈ TB := tb2 137 rfl rfl
def y_X_walk : MethodName := ⟨R_X, "walk", "(I)I"⟩
abbrev c_X_walk : ByteArray := prog_1_method_6_code
theorem k_X_walk : Cond.code y_X_walk c_X_walk 5 (some .int) ∈ TB := tb2 141 rfl rfl
def y_X_now : MethodName := ⟨R_X, "now", "(I)I"⟩
abbrev c_X_now : ByteArray := prog_1_method_7_code
theorem k_X_now : Cond.code y_X_now c_X_now 2 (some .int) ∈ TB := tb2 145 rfl rfl
def y_X_carpet : MethodName := ⟨R_X, "carpet", "(II)I"⟩
abbrev c_X_carpet : ByteArray := prog_1_method_8_code
theorem k_X_carpet : Cond.code y_X_carpet c_X_carpet 4 (some .int) ∈ TB := tb2 164 rfl rfl
def y_X_of : MethodName := ⟨R_X, "of", "(II)I"⟩
abbrev c_X_of : ByteArray := prog_1_method_9_code
theorem k_X_of : Cond.code y_X_of c_X_of 4 (some .int) ∈ TB := tb2 181 rfl rfl
def y_X_set : MethodName := ⟨R_X, "set", "(III)I"⟩
abbrev c_X_set : ByteArray := prog_1_method_10_code
theorem k_X_set : Cond.code y_X_set c_X_set 6 (some .int) ∈ TB := tb3 17 rfl rfl
def y_X_turn : MethodName := ⟨R_X, "turn", "(II)I"⟩
abbrev c_X_turn : ByteArray := prog_1_method_11_code
theorem k_X_turn : Cond.code y_X_turn c_X_turn 5 (some .int) ∈ TB := tb3 28 rfl rfl
def y_X_as : MethodName := ⟨R_X, "as", "(II)I"⟩
abbrev c_X_as : ByteArray := prog_1_method_12_code
theorem k_X_as : Cond.code y_X_as c_X_as 4 (some .int) ∈ TB := tb3 32 rfl rfl
def y_X_roll : MethodName := ⟨R_X, "roll", "(II)I"⟩
abbrev c_X_roll : ByteArray := prog_1_method_13_code
theorem k_X_roll : Cond.code y_X_roll c_X_roll 4 (some .int) ∈ TB := tb3 47 rfl rfl
def y_X_up : MethodName := ⟨R_X, "up", "(I)I"⟩
abbrev c_X_up : ByteArray := prog_1_method_14_code
theorem k_X_up : Cond.code y_X_up c_X_up 4 (some .int) ∈ TB := tb3 59 rfl rfl
def y_X_beat : MethodName := ⟨R_X, "beat", "(I)I"⟩
abbrev c_X_beat : ByteArray := prog_1_method_15_code
theorem k_X_beat : Cond.code y_X_beat c_X_beat 3 (some .int) ∈ TB := tb3 65 rfl rfl
def y_X_days : MethodName := ⟨R_X, "days", "(I)I"⟩
abbrev c_X_days : ByteArray := prog_1_method_16_code
theorem k_X_days : Cond.code y_X_days c_X_days 2 (some .int) ∈ TB := tb3 71 rfl rfl
def y_X_on : MethodName := ⟨R_X, "on", "(III)I"⟩
abbrev c_X_on : ByteArray := prog_1_method_17_code
theorem k_X_on : Cond.code y_X_on c_X_on 4 (some .int) ∈ TB := tb3 87 rfl rfl
def y_X_ownsOn : MethodName := ⟨R_X, "ownsOn", "(II)I"⟩
abbrev c_X_ownsOn : ByteArray := prog_1_method_18_code
theorem k_X_ownsOn : Cond.code y_X_ownsOn c_X_ownsOn 3 (some .int) ∈ TB := tb3 100 rfl rfl
def y_X_ends : MethodName := ⟨R_X, "ends", "(I)I"⟩
abbrev c_X_ends : ByteArray := prog_1_method_19_code
theorem k_X_ends : Cond.code y_X_ends c_X_ends 3 (some .int) ∈ TB := tb3 112 rfl rfl
def y_X_bare : MethodName := ⟨R_X, "bare", "(I)I"⟩
abbrev c_X_bare : ByteArray := prog_1_method_20_code
theorem k_X_bare : Cond.code y_X_bare c_X_bare 3 (some .int) ∈ TB := tb3 121 rfl rfl
def y_X_changes : MethodName := ⟨R_X, "changes", "(I)I"⟩
abbrev c_X_changes : ByteArray := prog_1_method_21_code
theorem k_X_changes : Cond.code y_X_changes c_X_changes 4 (some .int) ∈ TB := tb3 125 rfl rfl
def y_X_best : MethodName := ⟨R_X, "best", "(II)I"⟩
abbrev c_X_best : ByteArray := prog_1_method_22_code
theorem k_X_best : Cond.code y_X_best c_X_best 4 (some .int) ∈ TB := tb3 129 rfl rfl
def y_X_take : MethodName := ⟨R_X, "take", "(II)I"⟩
abbrev c_X_take : ByteArray := prog_1_method_23_code
theorem k_X_take : Cond.code y_X_take c_X_take 7 (some .int) ∈ TB := tb3 139 rfl rfl
def y_X_kind : MethodName := ⟨R_X, "kind", "(I)I"⟩
abbrev c_X_kind : ByteArray := prog_1_method_24_code
theorem k_X_kind : Cond.code y_X_kind c_X_kind 6 (some .int) ∈ TB := tb3 143 rfl rfl
def y_X_enough : MethodName := ⟨R_X, "enough", "(II)I"⟩
abbrev c_X_enough : ByteArray := prog_1_method_25_code
theorem k_X_enough : Cond.code y_X_enough c_X_enough 4 (some .int) ∈ TB := tb3 147 rfl rfl
def y_X_weather : MethodName := ⟨R_X, "weather", "(I)I"⟩
abbrev c_X_weather : ByteArray := prog_1_method_26_code
theorem k_X_weather : Cond.code y_X_weather c_X_weather 6 (some .int) ∈ TB := tb3 151 rfl rfl
def y_X_fewest : MethodName := ⟨R_X, "fewest", "(II)I"⟩
abbrev c_X_fewest : ByteArray := prog_1_method_27_code
theorem k_X_fewest : Cond.code y_X_fewest c_X_fewest 8 (some .int) ∈ TB := tb3 155 rfl rfl
def y_X_feed : MethodName := ⟨R_X, "feed", "(II)I"⟩
abbrev c_X_feed : ByteArray := prog_1_method_28_code
theorem k_X_feed : Cond.code y_X_feed c_X_feed 4 (some .int) ∈ TB := tb3 165 rfl rfl
def y_X_wipe : MethodName := ⟨R_X, "wipe", "()I"⟩
abbrev c_X_wipe : ByteArray := prog_1_method_29_code
theorem k_X_wipe : Cond.code y_X_wipe c_X_wipe 2 (some .int) ∈ TB := tb3 173 rfl rfl
def y_X_palace : MethodName := ⟨R_X, "palace", "()I"⟩
abbrev c_X_palace : ByteArray := prog_1_method_30_code
theorem k_X_palace : Cond.code y_X_palace c_X_palace 2 (some .int) ∈ TB := tb3 177 rfl rfl
def y_X_sheet : MethodName := ⟨R_X, "sheet", "(III)I"⟩
abbrev c_X_sheet : ByteArray := prog_1_method_31_code
theorem k_X_sheet : Cond.code y_X_sheet c_X_sheet 4 (some .int) ∈ TB := tb4 45 rfl rfl
def y_X_write : MethodName := ⟨R_X, "write", "(IIJ)J"⟩
abbrev c_X_write : ByteArray := prog_1_method_32_code
theorem k_X_write : Cond.code y_X_write c_X_write 8 (some .long) ∈ TB := tb4 58 rfl rfl
def y_X_copy : MethodName := ⟨R_X, "copy", "(IIIII)I"⟩
abbrev c_X_copy : ByteArray := prog_1_method_33_code
theorem k_X_copy : Cond.code y_X_copy c_X_copy 8 (some .int) ∈ TB := tb4 71 rfl rfl
def y_X_lays : MethodName := ⟨R_X, "lays", "(I)I"⟩
abbrev c_X_lays : ByteArray := prog_1_method_34_code
theorem k_X_lays : Cond.code y_X_lays c_X_lays 8 (some .int) ∈ TB := tb4 80 rfl rfl
def y_X_book : MethodName := ⟨R_X, "book", "(II)I"⟩
abbrev c_X_book : ByteArray := prog_1_method_35_code
theorem k_X_book : Cond.code y_X_book c_X_book 6 (some .int) ∈ TB := tb4 89 rfl rfl
def y_X_read : MethodName := ⟨R_X, "read", "(II)I"⟩
abbrev c_X_read : ByteArray := prog_1_method_36_code
theorem k_X_read : Cond.code y_X_read c_X_read 7 (some .int) ∈ TB := tb4 97 rfl rfl
def y_X_image : MethodName := ⟨R_X, "image", "()I"⟩
abbrev c_X_image : ByteArray := prog_1_method_37_code
theorem k_X_image : Cond.code y_X_image c_X_image 1 (some .int) ∈ TB := tb4 105 rfl rfl
def y_X_undo : MethodName := ⟨R_X, "undo", "()I"⟩
abbrev c_X_undo : ByteArray := prog_1_method_38_code
theorem k_X_undo : Cond.code y_X_undo c_X_undo 1 (some .int) ∈ TB := tb4 109 rfl rfl
def y_X_tear : MethodName := ⟨R_X, "tear", "()I"⟩
abbrev c_X_tear : ByteArray := prog_1_method_39_code
theorem k_X_tear : Cond.code y_X_tear c_X_tear 2 (some .int) ∈ TB := tb4 113 rfl rfl
def y_X_count : MethodName := ⟨R_X, "count", "(I)I"⟩
abbrev c_X_count : ByteArray := prog_1_method_40_code
theorem k_X_count : Cond.code y_X_count c_X_count 2 (some .int) ∈ TB := tb4 117 rfl rfl
def y_X_status : MethodName := ⟨R_X, "status", "(I)I"⟩
abbrev c_X_status : ByteArray := prog_1_method_41_code
theorem k_X_status : Cond.code y_X_status c_X_status 4 (some .int) ∈ TB := tb4 125 rfl rfl
def y_X_within : MethodName := ⟨R_X, "within", "(III)Z"⟩
abbrev c_X_within : ByteArray := prog_1_method_42_code
theorem k_X_within : Cond.code y_X_within c_X_within 3 (some .boolean) ∈ TB := tb2 38 rfl rfl
def y_X_found : MethodName := ⟨R_X, "found", "(I)I"⟩
abbrev c_X_found : ByteArray := prog_1_method_43_code
theorem k_X_found : Cond.code y_X_found c_X_found 3 (some .int) ∈ TB := tb2 43 rfl rfl
def y_X_isRug : MethodName := ⟨R_X, "isRug", "(I)Z"⟩
abbrev c_X_isRug : ByteArray := prog_1_method_44_code
theorem k_X_isRug : Cond.code y_X_isRug c_X_isRug 2 (some .boolean) ∈ TB := tb2 185 rfl rfl
def y_X_isSheet : MethodName := ⟨R_X, "isSheet", "(I)Z"⟩
abbrev c_X_isSheet : ByteArray := prog_1_method_45_code
theorem k_X_isSheet : Cond.code y_X_isSheet c_X_isSheet 2 (some .boolean) ∈ TB := tb4 49 rfl rfl
def y_X_maySet : MethodName := ⟨R_X, "maySet", "(II)Z"⟩
abbrev c_X_maySet : ByteArray := prog_1_method_46_code
theorem k_X_maySet : Cond.code y_X_maySet c_X_maySet 2 (some .boolean) ∈ TB := tb3 20 rfl rfl
def y_X_sheetFinding : MethodName := ⟨R_X, "sheetFinding", "(I)I"⟩
abbrev c_X_sheetFinding : ByteArray := prog_1_method_47_code
theorem k_X_sheetFinding : Cond.code y_X_sheetFinding c_X_sheetFinding 2 (some .int) ∈ TB := tb4 84 rfl rfl
def y_X_sheetAndRugFinding : MethodName := ⟨R_X, "sheetAndRugFinding", "(II)I"⟩
abbrev c_X_sheetAndRugFinding : ByteArray := prog_1_method_48_code
theorem k_X_sheetAndRugFinding : Cond.code y_X_sheetAndRugFinding c_X_sheetAndRugFinding 4 (some .int) ∈ TB := tb4 93 rfl rfl
def y_X_passProbe : MethodName := ⟨R_X, "passProbe", "(I)V"⟩
abbrev c_X_passProbe : ByteArray := prog_1_method_49_code
theorem k_X_passProbe : Cond.code y_X_passProbe c_X_passProbe 3 none ∈ TB := tb3 95 rfl rfl
def y_X_daysProbeLies : MethodName := ⟨R_X, "daysProbeLies", "()I"⟩
abbrev c_X_daysProbeLies : ByteArray := prog_1_method_50_code
theorem k_X_daysProbeLies : Cond.code y_X_daysProbeLies c_X_daysProbeLies 2 (some .int) ∈ TB := tb3 116 rfl rfl
def y_X_probeWearsAs : MethodName := ⟨R_X, "probeWearsAs", "(LCarpetRealms$Sheet;)Z"⟩
abbrev c_X_probeWearsAs : ByteArray := prog_1_method_51_code
theorem k_X_probeWearsAs : Cond.code y_X_probeWearsAs c_X_probeWearsAs 3 (some .boolean) ∈ TB := tb4 101 rfl rfl
def y_X_bestYardInTrial : MethodName := ⟨R_X, "bestYardInTrial", "(LCarpetRealms$Rug;)I"⟩
abbrev c_X_bestYardInTrial : ByteArray := prog_1_method_52_code
theorem k_X_bestYardInTrial : Cond.code y_X_bestYardInTrial c_X_bestYardInTrial 6 (some .int) ∈ TB := tb3 133 rfl rfl
def y_M_init : MethodName := ⟨R_M, "<init>", "()V"⟩
abbrev c_M_init : ByteArray := prog_14_method_1_code
theorem k_M_init : Cond.code y_M_init c_M_init 1 none ∈ TB := tb4 130 rfl rfl
def y_M_no : MethodName := ⟨R_M, "no", "(I)I"⟩
abbrev c_M_no : ByteArray := prog_14_method_2_code
theorem k_M_no : Cond.code y_M_no c_M_no 2 (some .int) ∈ TB := tb4 198 rfl rfl
def y_M_in1 : MethodName := ⟨R_M, "in1", "(III)Z"⟩
abbrev c_M_in1 : ByteArray := prog_14_method_3_code
theorem k_M_in1 : Cond.code y_M_in1 c_M_in1 3 (some .boolean) ∈ TB := tb4 194 rfl rfl
def y_M_less : MethodName := ⟨R_M, "less", "(II)I"⟩
abbrev c_M_less : ByteArray := prog_14_method_4_code
theorem k_M_less : Cond.code y_M_less c_M_less 2 (some .int) ∈ TB := tb5 74 rfl rfl
def y_M_bits : MethodName := ⟨R_M, "bits", "(I)I"⟩
abbrev c_M_bits : ByteArray := prog_14_method_5_code
theorem k_M_bits : Cond.code y_M_bits c_M_bits 3 (some .int) ∈ TB := tb5 161 rfl rfl
def y_M_isCarpet : MethodName := ⟨R_M, "isCarpet", "(I)Z"⟩
abbrev c_M_isCarpet : ByteArray := prog_14_method_6_code
theorem k_M_isCarpet : Cond.code y_M_isCarpet c_M_isCarpet 2 (some .boolean) ∈ TB := tb5 38 rfl rfl
def y_M_isYard : MethodName := ⟨R_M, "isYard", "(I)Z"⟩
abbrev c_M_isYard : ByteArray := prog_14_method_7_code
theorem k_M_isYard : Cond.code y_M_isYard c_M_isYard 1 (some .boolean) ∈ TB := tb4 206 rfl rfl
def y_M_get : MethodName := ⟨R_M, "get", "(II)I"⟩
abbrev c_M_get : ByteArray := prog_14_method_8_code
theorem k_M_get : Cond.code y_M_get c_M_get 3 (some .int) ∈ TB := tb4 214 rfl rfl
def y_M_puts : MethodName := ⟨R_M, "puts", "(III)V"⟩
abbrev c_M_puts : ByteArray := prog_14_method_9_code
theorem k_M_puts : Cond.code y_M_puts c_M_puts 4 none ∈ TB := tb5 30 rfl rfl
def y_M_setsAside : MethodName := ⟨R_M, "setsAside", "()V"⟩
abbrev c_M_setsAside : ByteArray := prog_14_method_10_code
theorem k_M_setsAside : Cond.code y_M_setsAside c_M_setsAside 2 none ∈ TB := tb5 102 rfl rfl
def y_M_laysBack : MethodName := ⟨R_M, "laysBack", "()V"⟩
abbrev c_M_laysBack : ByteArray := prog_14_method_11_code
theorem k_M_laysBack : Cond.code y_M_laysBack c_M_laysBack 2 none ∈ TB := tb5 106 rfl rfl
def y_M_rains : MethodName := ⟨R_M, "rains", "()Z"⟩
abbrev c_M_rains : ByteArray := prog_14_method_12_code
theorem k_M_rains : Cond.code y_M_rains c_M_rains 1 (some .boolean) ∈ TB := tb5 10 rfl rfl
def y_M_reachOf : MethodName := ⟨R_M, "reachOf", "(I)I"⟩
abbrev c_M_reachOf : ByteArray := prog_14_method_13_code
theorem k_M_reachOf : Cond.code y_M_reachOf c_M_reachOf 3 (some .int) ∈ TB := tb4 218 rfl rfl
def y_M_wearsOf : MethodName := ⟨R_M, "wearsOf", "(I)I"⟩
abbrev c_M_wearsOf : ByteArray := prog_14_method_14_code
theorem k_M_wearsOf : Cond.code y_M_wearsOf c_M_wearsOf 3 (some .int) ∈ TB := tb5 42 rfl rfl
def y_M_breedsOf : MethodName := ⟨R_M, "breedsOf", "(I)I"⟩
abbrev c_M_breedsOf : ByteArray := prog_14_method_15_code
theorem k_M_breedsOf : Cond.code y_M_breedsOf c_M_breedsOf 3 (some .int) ∈ TB := tb5 46 rfl rfl
def y_M_beatenOf : MethodName := ⟨R_M, "beatenOf", "(I)I"⟩
abbrev c_M_beatenOf : ByteArray := prog_14_method_16_code
theorem k_M_beatenOf : Cond.code y_M_beatenOf c_M_beatenOf 3 (some .int) ∈ TB := tb5 50 rfl rfl
def y_M_liesOn : MethodName := ⟨R_M, "liesOn", "(II)Z"⟩
abbrev c_M_liesOn : ByteArray := prog_14_method_17_code
theorem k_M_liesOn : Cond.code y_M_liesOn c_M_liesOn 4 (some .boolean) ∈ TB := tb4 210 rfl rfl
def y_M_topOf : MethodName := ⟨R_M, "topOf", "(I)I"⟩
abbrev c_M_topOf : ByteArray := prog_14_method_18_code
theorem k_M_topOf : Cond.code y_M_topOf c_M_topOf 4 (some .int) ∈ TB := tb4 226 rfl rfl
def y_M_whoseIs : MethodName := ⟨R_M, "whoseIs", "(I)I"⟩
abbrev c_M_whoseIs : ByteArray := prog_14_method_19_code
theorem k_M_whoseIs : Cond.code y_M_whoseIs c_M_whoseIs 3 (some .int) ∈ TB := tb4 222 rfl rfl
def y_M_yardsOf : MethodName := ⟨R_M, "yardsOf", "(I)I"⟩
abbrev c_M_yardsOf : ByteArray := prog_14_method_20_code
theorem k_M_yardsOf : Cond.code y_M_yardsOf c_M_yardsOf 4 (some .int) ∈ TB := tb4 234 rfl rfl
def y_M_rolledOut : MethodName := ⟨R_M, "rolledOut", "()I"⟩
abbrev c_M_rolledOut : ByteArray := prog_14_method_21_code
theorem k_M_rolledOut : Cond.code y_M_rolledOut c_M_rolledOut 3 (some .int) ∈ TB := tb5 14 rfl rfl
def y_M_sumOf : MethodName := ⟨R_M, "sumOf", "(I)I"⟩
abbrev c_M_sumOf : ByteArray := prog_14_method_22_code
theorem k_M_sumOf : Cond.code y_M_sumOf c_M_sumOf 4 (some .int) ∈ TB := tb5 18 rfl rfl
def y_M_ages : MethodName := ⟨R_M, "ages", "(I)V"⟩
abbrev c_M_ages : ByteArray := prog_14_method_23_code
theorem k_M_ages : Cond.code y_M_ages c_M_ages 3 none ∈ TB := tb5 94 rfl rfl
def y_M_goes : MethodName := ⟨R_M, "goes", "(I)V"⟩
abbrev c_M_goes : ByteArray := prog_14_method_24_code
theorem k_M_goes : Cond.code y_M_goes c_M_goes 4 none ∈ TB := tb5 90 rfl rfl
def y_M_rain : MethodName := ⟨R_M, "rain", "(II)I"⟩
abbrev c_M_rain : ByteArray := prog_14_method_25_code
theorem k_M_rain : Cond.code y_M_rain c_M_rain 4 (some .int) ∈ TB := tb4 191 rfl rfl
def y_M_yard : MethodName := ⟨R_M, "yard", "(II)I"⟩
abbrev c_M_yard : ByteArray := prog_14_method_26_code
theorem k_M_yard : Cond.code y_M_yard c_M_yard 5 (some .int) ∈ TB := tb4 203 rfl rfl
def y_M_owns : MethodName := ⟨R_M, "owns", "(I)I"⟩
abbrev c_M_owns : ByteArray := prog_14_method_27_code
theorem k_M_owns : Cond.code y_M_owns c_M_owns 2 (some .int) ∈ TB := tb4 230 rfl rfl
def y_M_borders : MethodName := ⟨R_M, "borders", "()I"⟩
abbrev c_M_borders : ByteArray := prog_14_method_28_code
theorem k_M_borders : Cond.code y_M_borders c_M_borders 3 (some .int) ∈ TB := tb4 238 rfl rfl
def y_M_walk : MethodName := ⟨R_M, "walk", "(I)I"⟩
abbrev c_M_walk : ByteArray := prog_14_method_29_code
theorem k_M_walk : Cond.code y_M_walk c_M_walk 5 (some .int) ∈ TB := tb5 2 rfl rfl
def y_M_now : MethodName := ⟨R_M, "now", "(I)I"⟩
abbrev c_M_now : ByteArray := prog_14_method_30_code
theorem k_M_now : Cond.code y_M_now c_M_now 2 (some .int) ∈ TB := tb5 6 rfl rfl
def y_M_addsCarpet : MethodName := ⟨R_M, "addsCarpet", "(II)V"⟩
abbrev c_M_addsCarpet : ByteArray := prog_14_method_31_code
theorem k_M_addsCarpet : Cond.code y_M_addsCarpet c_M_addsCarpet 4 none ∈ TB := tb5 26 rfl rfl
def y_M_carpet : MethodName := ⟨R_M, "carpet", "(II)I"⟩
abbrev c_M_carpet : ByteArray := prog_14_method_32_code
theorem k_M_carpet : Cond.code y_M_carpet c_M_carpet 3 (some .int) ∈ TB := tb5 22 rfl rfl
def y_M_of : MethodName := ⟨R_M, "of", "(II)I"⟩
abbrev c_M_of : ByteArray := prog_14_method_33_code
theorem k_M_of : Cond.code y_M_of c_M_of 3 (some .int) ∈ TB := tb5 34 rfl rfl
def y_M_set : MethodName := ⟨R_M, "set", "(III)I"⟩
abbrev c_M_set : ByteArray := prog_14_method_34_code
theorem k_M_set : Cond.code y_M_set c_M_set 6 (some .int) ∈ TB := tb5 54 rfl rfl
def y_M_turn : MethodName := ⟨R_M, "turn", "(II)I"⟩
abbrev c_M_turn : ByteArray := prog_14_method_35_code
theorem k_M_turn : Cond.code y_M_turn c_M_turn 4 (some .int) ∈ TB := tb5 58 rfl rfl
def y_M_as : MethodName := ⟨R_M, "as", "(II)I"⟩
abbrev c_M_as : ByteArray := prog_14_method_36_code
theorem k_M_as : Cond.code y_M_as c_M_as 4 (some .int) ∈ TB := tb5 62 rfl rfl
def y_M_rollsOut : MethodName := ⟨R_M, "rollsOut", "(II)V"⟩
abbrev c_M_rollsOut : ByteArray := prog_14_method_37_code
theorem k_M_rollsOut : Cond.code y_M_rollsOut c_M_rollsOut 3 none ∈ TB := tb5 70 rfl rfl
def y_M_roll : MethodName := ⟨R_M, "roll", "(II)I"⟩
abbrev c_M_roll : ByteArray := prog_14_method_38_code
theorem k_M_roll : Cond.code y_M_roll c_M_roll 3 (some .int) ∈ TB := tb5 66 rfl rfl
def y_M_up : MethodName := ⟨R_M, "up", "(I)I"⟩
abbrev c_M_up : ByteArray := prog_14_method_39_code
theorem k_M_up : Cond.code y_M_up c_M_up 3 (some .int) ∈ TB := tb5 78 rfl rfl
def y_M_beat : MethodName := ⟨R_M, "beat", "(I)I"⟩
abbrev c_M_beat : ByteArray := prog_14_method_40_code
theorem k_M_beat : Cond.code y_M_beat c_M_beat 2 (some .int) ∈ TB := tb5 82 rfl rfl
def y_M_days : MethodName := ⟨R_M, "days", "(I)I"⟩
abbrev c_M_days : ByteArray := prog_14_method_41_code
theorem k_M_days : Cond.code y_M_days c_M_days 2 (some .int) ∈ TB := tb5 86 rfl rfl
def y_M_on : MethodName := ⟨R_M, "on", "(III)I"⟩
abbrev c_M_on : ByteArray := prog_14_method_42_code
theorem k_M_on : Cond.code y_M_on c_M_on 5 (some .int) ∈ TB := tb5 98 rfl rfl
def y_M_hasThen : MethodName := ⟨R_M, "hasThen", "(II)I"⟩
abbrev c_M_hasThen : ByteArray := prog_14_method_43_code
theorem k_M_hasThen : Cond.code y_M_hasThen c_M_hasThen 4 (some .int) ∈ TB := tb5 114 rfl rfl
def y_M_ownsOn : MethodName := ⟨R_M, "ownsOn", "(II)I"⟩
abbrev c_M_ownsOn : ByteArray := prog_14_method_44_code
theorem k_M_ownsOn : Cond.code y_M_ownsOn c_M_ownsOn 3 (some .int) ∈ TB := tb5 110 rfl rfl
def y_M_firstBy : MethodName := ⟨R_M, "firstBy", "(III)I"⟩
abbrev c_M_firstBy : ByteArray := prog_14_method_45_code
theorem k_M_firstBy : Cond.code y_M_firstBy c_M_firstBy 6 (some .int) ∈ TB := tb5 122 rfl rfl
def y_M_orNone : MethodName := ⟨R_M, "orNone", "(I)I"⟩
abbrev c_M_orNone : ByteArray := prog_14_method_46_code
theorem k_M_orNone : Cond.code y_M_orNone c_M_orNone 2 (some .int) ∈ TB := tb5 126 rfl rfl
def y_M_ends : MethodName := ⟨R_M, "ends", "(I)I"⟩
abbrev c_M_ends : ByteArray := prog_14_method_47_code
theorem k_M_ends : Cond.code y_M_ends c_M_ends 2 (some .int) ∈ TB := tb5 118 rfl rfl
def y_M_bare : MethodName := ⟨R_M, "bare", "(I)I"⟩
abbrev c_M_bare : ByteArray := prog_14_method_48_code
theorem k_M_bare : Cond.code y_M_bare c_M_bare 2 (some .int) ∈ TB := tb5 130 rfl rfl
def y_M_changes : MethodName := ⟨R_M, "changes", "(I)I"⟩
abbrev c_M_changes : ByteArray := prog_14_method_49_code
theorem k_M_changes : Cond.code y_M_changes c_M_changes 2 (some .int) ∈ TB := tb5 134 rfl rfl
def y_M_best : MethodName := ⟨R_M, "best", "(II)I"⟩
abbrev c_M_best : ByteArray := prog_14_method_50_code
theorem k_M_best : Cond.code y_M_best c_M_best 7 (some .int) ∈ TB := tb5 138 rfl rfl
def y_M_take : MethodName := ⟨R_M, "take", "(II)I"⟩
abbrev c_M_take : ByteArray := prog_14_method_51_code
theorem k_M_take : Cond.code y_M_take c_M_take 9 (some .int) ∈ TB := tb5 142 rfl rfl
def y_M_kind : MethodName := ⟨R_M, "kind", "(I)I"⟩
abbrev c_M_kind : ByteArray := prog_14_method_52_code
theorem k_M_kind : Cond.code y_M_kind c_M_kind 6 (some .int) ∈ TB := tb5 146 rfl rfl
def y_M_enough : MethodName := ⟨R_M, "enough", "(II)I"⟩
abbrev c_M_enough : ByteArray := prog_14_method_53_code
theorem k_M_enough : Cond.code y_M_enough c_M_enough 5 (some .int) ∈ TB := tb5 150 rfl rfl
def y_M_weather : MethodName := ⟨R_M, "weather", "(I)I"⟩
abbrev c_M_weather : ByteArray := prog_14_method_54_code
theorem k_M_weather : Cond.code y_M_weather c_M_weather 6 (some .int) ∈ TB := tb5 154 rfl rfl
def y_M_hasWithout : MethodName := ⟨R_M, "hasWithout", "(II)I"⟩
abbrev c_M_hasWithout : ByteArray := prog_14_method_55_code
theorem k_M_hasWithout : Cond.code y_M_hasWithout c_M_hasWithout 4 (some .int) ∈ TB := tb5 165 rfl rfl
def y_M_fewest : MethodName := ⟨R_M, "fewest", "(II)I"⟩
abbrev c_M_fewest : ByteArray := prog_14_method_56_code
theorem k_M_fewest : Cond.code y_M_fewest c_M_fewest 7 (some .int) ∈ TB := tb5 158 rfl rfl
def y_M_feed : MethodName := ⟨R_M, "feed", "(II)I"⟩
abbrev c_M_feed : ByteArray := prog_14_method_57_code
theorem k_M_feed : Cond.code y_M_feed c_M_feed 4 (some .int) ∈ TB := tb5 169 rfl rfl
def y_M_wipe : MethodName := ⟨R_M, "wipe", "()I"⟩
abbrev c_M_wipe : ByteArray := prog_14_method_58_code
theorem k_M_wipe : Cond.code y_M_wipe c_M_wipe 2 (some .int) ∈ TB := tb5 173 rfl rfl
def y_M_isLetter : MethodName := ⟨R_M, "isLetter", "(I)Z"⟩
abbrev c_M_isLetter : ByteArray := prog_14_method_59_code
theorem k_M_isLetter : Cond.code y_M_isLetter c_M_isLetter 1 (some .boolean) ∈ TB := tb5 184 rfl rfl
def y_M_isDigit : MethodName := ⟨R_M, "isDigit", "(I)Z"⟩
abbrev c_M_isDigit : ByteArray := prog_14_method_60_code
theorem k_M_isDigit : Cond.code y_M_isDigit c_M_isDigit 1 (some .boolean) ∈ TB := tb5 190 rfl rfl
def y_M_nextToken : MethodName := ⟨R_M, "nextToken", "()V"⟩
abbrev c_M_nextToken : ByteArray := prog_14_method_61_code
theorem k_M_nextToken : Cond.code y_M_nextToken c_M_nextToken 1 none ∈ TB := tb5 181 rfl rfl
def y_M_wordOf : MethodName := ⟨R_M, "wordOf", "([C)I"⟩
abbrev c_M_wordOf : ByteArray := prog_14_method_62_code
theorem k_M_wordOf : Cond.code y_M_wordOf c_M_wordOf 7 (some .int) ∈ TB := tb5 201 rfl rfl
def y_M_takesNumber : MethodName := ⟨R_M, "takesNumber", "(II)I"⟩
abbrev c_M_takesNumber : ByteArray := prog_14_method_63_code
theorem k_M_takesNumber : Cond.code y_M_takesNumber c_M_takesNumber 4 (some .int) ∈ TB := tb5 209 rfl rfl
def y_M_readsCarpet : MethodName := ⟨R_M, "readsCarpet", "(I)Z"⟩
abbrev c_M_readsCarpet : ByteArray := prog_14_method_64_code
theorem k_M_readsCarpet : Cond.code y_M_readsCarpet c_M_readsCarpet 6 (some .boolean) ∈ TB := tb5 205 rfl rfl
def y_M_readsUp : MethodName := ⟨R_M, "readsUp", "()Z"⟩
abbrev c_M_readsUp : ByteArray := prog_14_method_65_code
theorem k_M_readsUp : Cond.code y_M_readsUp c_M_readsUp 2 (some .boolean) ∈ TB := tb5 217 rfl rfl
def y_M_isUpTold : MethodName := ⟨R_M, "isUpTold", "()Z"⟩
abbrev c_M_isUpTold : ByteArray := prog_14_method_66_code
theorem k_M_isUpTold : Cond.code y_M_isUpTold c_M_isUpTold 1 (some .boolean) ∈ TB := tb5 213 rfl rfl
def y_M_readsItem : MethodName := ⟨R_M, "readsItem", "()Z"⟩
abbrev c_M_readsItem : ByteArray := prog_14_method_67_code
theorem k_M_readsItem : Cond.code y_M_readsItem c_M_readsItem 4 (some .boolean) ∈ TB := tb5 197 rfl rfl
def y_M_palace : MethodName := ⟨R_M, "palace", "()I"⟩
abbrev c_M_palace : ByteArray := prog_14_method_68_code
theorem k_M_palace : Cond.code y_M_palace c_M_palace 3 (some .int) ∈ TB := tb5 177 rfl rfl
def y_M_isSheet : MethodName := ⟨R_M, "isSheet", "(I)Z"⟩
abbrev c_M_isSheet : ByteArray := prog_14_method_69_code
theorem k_M_isSheet : Cond.code y_M_isSheet c_M_isSheet 1 (some .boolean) ∈ TB := tb5 224 rfl rfl
def y_M_wrongSheet : MethodName := ⟨R_M, "wrongSheet", "(I)I"⟩
abbrev c_M_wrongSheet : ByteArray := prog_14_method_70_code
theorem k_M_wrongSheet : Cond.code y_M_wrongSheet c_M_wrongSheet 2 (some .int) ∈ TB := tb5 232 rfl rfl
def y_M_told : MethodName := ⟨R_M, "told", "(II)J"⟩
abbrev c_M_told : ByteArray := prog_14_method_71_code
theorem k_M_told : Cond.code y_M_told c_M_told 3 (some .long) ∈ TB := tb5 236 rfl rfl
def y_M_tells : MethodName := ⟨R_M, "tells", "(IIJ)V"⟩
abbrev c_M_tells : ByteArray := prog_14_method_72_code
theorem k_M_tells : Cond.code y_M_tells c_M_tells 5 none ∈ TB := tb6 0 rfl rfl
def y_M_sheet : MethodName := ⟨R_M, "sheet", "(III)I"⟩
abbrev c_M_sheet : ByteArray := prog_14_method_73_code
theorem k_M_sheet : Cond.code y_M_sheet c_M_sheet 5 (some .int) ∈ TB := tb5 221 rfl rfl
def y_M_write : MethodName := ⟨R_M, "write", "(IIJ)J"⟩
abbrev c_M_write : ByteArray := prog_14_method_74_code
theorem k_M_write : Cond.code y_M_write c_M_write 8 (some .long) ∈ TB := tb5 228 rfl rfl
def y_M_copy : MethodName := ⟨R_M, "copy", "(IIIII)I"⟩
abbrev c_M_copy : ByteArray := prog_14_method_75_code
theorem k_M_copy : Cond.code y_M_copy c_M_copy 7 (some .int) ∈ TB := tb6 4 rfl rfl
def y_M_lays : MethodName := ⟨R_M, "lays", "(I)I"⟩
abbrev c_M_lays : ByteArray := prog_14_method_76_code
theorem k_M_lays : Cond.code y_M_lays c_M_lays 6 (some .int) ∈ TB := tb6 8 rfl rfl
def y_M_wrongWith : MethodName := ⟨R_M, "wrongWith", "(II)I"⟩
abbrev c_M_wrongWith : ByteArray := prog_14_method_77_code
theorem k_M_wrongWith : Cond.code y_M_wrongWith c_M_wrongWith 4 (some .int) ∈ TB := tb6 17 rfl rfl
def y_M_book : MethodName := ⟨R_M, "book", "(II)I"⟩
abbrev c_M_book : ByteArray := prog_14_method_78_code
theorem k_M_book : Cond.code y_M_book c_M_book 5 (some .int) ∈ TB := tb6 13 rfl rfl
def y_M_isSo : MethodName := ⟨R_M, "isSo", "(II)Z"⟩
abbrev c_M_isSo : ByteArray := prog_14_method_79_code
theorem k_M_isSo : Cond.code y_M_isSo c_M_isSo 5 (some .boolean) ∈ TB := tb6 25 rfl rfl
def y_M_read : MethodName := ⟨R_M, "read", "(II)I"⟩
abbrev c_M_read : ByteArray := prog_14_method_80_code
theorem k_M_read : Cond.code y_M_read c_M_read 6 (some .int) ∈ TB := tb6 21 rfl rfl
def y_M_image : MethodName := ⟨R_M, "image", "()I"⟩
abbrev c_M_image : ByteArray := prog_14_method_81_code
theorem k_M_image : Cond.code y_M_image c_M_image 2 (some .int) ∈ TB := tb6 29 rfl rfl
def y_M_undo : MethodName := ⟨R_M, "undo", "()I"⟩
abbrev c_M_undo : ByteArray := prog_14_method_82_code
theorem k_M_undo : Cond.code y_M_undo c_M_undo 2 (some .int) ∈ TB := tb6 33 rfl rfl
def y_M_tear : MethodName := ⟨R_M, "tear", "()I"⟩
abbrev c_M_tear : ByteArray := prog_14_method_83_code
theorem k_M_tear : Cond.code y_M_tear c_M_tear 2 (some .int) ∈ TB := tb6 37 rfl rfl
def y_M_count : MethodName := ⟨R_M, "count", "(I)I"⟩
abbrev c_M_count : ByteArray := prog_14_method_84_code
theorem k_M_count : Cond.code y_M_count c_M_count 2 (some .int) ∈ TB := tb6 41 rfl rfl
def y_M_status : MethodName := ⟨R_M, "status", "(I)I"⟩
abbrev c_M_status : ByteArray := prog_14_method_85_code
theorem k_M_status : Cond.code y_M_status c_M_status 4 (some .int) ∈ TB := tb6 45 rfl rfl
def y_Integer_bitCount_0f7a4 : MethodName := ⟨R_Integer, "bitCount", "(I)I"⟩
abbrev c_Integer_bitCount_0f7a4 : ByteArray := prog_15_method_49_code
theorem k_Integer_bitCount_0f7a4 : Cond.code y_Integer_bitCount_0f7a4 c_Integer_bitCount_0f7a4 1 (some .int) ∈ TB := tb3 158 rfl rfl
def y_Long_bitCount_95d88 : MethodName := ⟨R_Long, "bitCount", "(J)I"⟩
abbrev c_Long_bitCount_95d88 : ByteArray := prog_16_method_50_code
theorem k_Long_bitCount_95d88 : Cond.code y_Long_bitCount_95d88 c_Long_bitCount_95d88 2 (some .int) ∈ TB := tb2 130 rfl rfl
def y_Math_floorMod_7cf53 : MethodName := ⟨R_Math, "floorMod", "(II)I"⟩
abbrev c_Math_floorMod_7cf53 : ByteArray := prog_17_method_50_code
theorem k_Math_floorMod_7cf53 : Cond.code y_Math_floorMod_7cf53 c_Math_floorMod_7cf53 3 (some .int) ∈ TB := tb2 152 rfl rfl
def y_Math_max_7cf53 : MethodName := ⟨R_Math, "max", "(II)I"⟩
abbrev c_Math_max_7cf53 : ByteArray := prog_17_method_65_code
theorem k_Math_max_7cf53 : Cond.code y_Math_max_7cf53 c_Math_max_7cf53 2 (some .int) ∈ TB := tb2 86 rfl rfl
def y_Math_min_7cf53 : MethodName := ⟨R_Math, "min", "(II)I"⟩
abbrev c_Math_min_7cf53 : ByteArray := prog_17_method_69_code
theorem k_Math_min_7cf53 : Cond.code y_Math_min_7cf53 c_Math_min_7cf53 2 (some .int) ∈ TB := tb2 96 rfl rfl
def y_String_length_8abf5 : MethodName := ⟨R_String, "length", "()I"⟩
abbrev c_String_length_8abf5 : ByteArray := prog_18_method_54_code
theorem k_String_length_8abf5 : Cond.code y_String_length_8abf5 c_String_length_8abf5 1 (some .int) ∈ TB := tb3 208 rfl rfl
def y_String_charAt_5068e : MethodName := ⟨R_String, "charAt", "(I)C"⟩
abbrev c_String_charAt_5068e : ByteArray := prog_18_method_56_code
theorem k_String_charAt_5068e : Cond.code y_String_charAt_5068e c_String_charAt_5068e 2 (some .char) ∈ TB := tb3 218 rfl rfl
def y_String_coder_7d493 : MethodName := ⟨R_String, "coder", "()B"⟩
abbrev c_String_coder_7d493 : ByteArray := prog_18_method_152_code
theorem k_String_coder_7d493 : Cond.code y_String_coder_7d493 c_String_coder_7d493 1 (some .byte) ∈ TB := tb3 212 rfl rfl
def y_String_isLatin1_aae02 : MethodName := ⟨R_String, "isLatin1", "()Z"⟩
abbrev c_String_isLatin1_aae02 : ByteArray := prog_18_method_154_code
theorem k_String_isLatin1_aae02 : Cond.code y_String_isLatin1_aae02 c_String_isLatin1_aae02 1 (some .boolean) ∈ TB := tb3 222 rfl rfl
def y_String_checkIndex_df160 : MethodName := ⟨R_String, "checkIndex", "(II)V"⟩
abbrev c_String_checkIndex_df160 : ByteArray := prog_18_method_155_code
theorem k_String_checkIndex_df160 : Cond.code y_String_checkIndex_df160 c_String_checkIndex_df160 2 none ∈ TB := tb3 228 rfl rfl
def y_StringLatin1_charAt_3b067 : MethodName := ⟨R_StringLatin1, "charAt", "([BI)C"⟩
abbrev c_StringLatin1_charAt_3b067 : ByteArray := prog_19_method_2_code
theorem k_StringLatin1_charAt_3b067 : Cond.code y_StringLatin1_charAt_3b067 c_StringLatin1_charAt_3b067 2 (some .char) ∈ TB := tb3 225 rfl rfl
def y_StringUTF16_getChar_3b067 : MethodName := ⟨R_StringUTF16, "getChar", "([BI)C"⟩
abbrev c_StringUTF16_getChar_3b067 : ByteArray := prog_20_method_5_code
theorem k_StringUTF16_getChar_3b067 : Cond.code y_StringUTF16_getChar_3b067 c_StringUTF16_getChar_3b067 2 (some .char) ∈ TB := tb4 6 rfl rfl
def y_StringUTF16_length_9d52b : MethodName := ⟨R_StringUTF16, "length", "([B)I"⟩
abbrev c_StringUTF16_length_9d52b : ByteArray := prog_20_method_6_code
theorem k_StringUTF16_length_9d52b : Cond.code y_StringUTF16_length_9d52b c_StringUTF16_length_9d52b 1 (some .int) ∈ TB := tb4 2 rfl rfl
def y_StringUTF16_charAt_3b067 : MethodName := ⟨R_StringUTF16, "charAt", "([BI)C"⟩
abbrev c_StringUTF16_charAt_3b067 : ByteArray := prog_20_method_83_code
theorem k_StringUTF16_charAt_3b067 : Cond.code y_StringUTF16_charAt_3b067 c_StringUTF16_charAt_3b067 2 (some .char) ∈ TB := tb3 236 rfl rfl
def y_StringUTF16_checkIndex_2214a : MethodName := ⟨R_StringUTF16, "checkIndex", "(I[B)V"⟩
abbrev c_StringUTF16_checkIndex_2214a : ByteArray := prog_20_method_91_code
theorem k_StringUTF16_checkIndex_2214a : Cond.code y_StringUTF16_checkIndex_2214a c_StringUTF16_checkIndex_2214a 2 none ∈ TB := tb3 239 rfl rfl
def y_Preconditions_checkIndex_8e157 : MethodName := ⟨R_Preconditions, "checkIndex", "(IILjava/util/function/BiFunction;)I"⟩
abbrev c_Preconditions_checkIndex_8e157 : ByteArray := prog_22_method_11_code
theorem k_Preconditions_checkIndex_8e157 : Cond.code y_Preconditions_checkIndex_8e157 c_Preconditions_checkIndex_8e157 3 (some .int) ∈ TB := tb3 233 rfl rfl
end
