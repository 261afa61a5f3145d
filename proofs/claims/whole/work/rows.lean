section
-- ===== PART A: goes FIRST, ahead of the names: the tables' words, and 'selects' of the private methods out of them =====
/-- a private method of a class that the tables say can be made, by its rows of tables_1 -/
def lw_okq (q : MethodName × Nat) : Prop := (q.1.cls ≠ "java/lang/invoke/MethodHandle" ∧ q.1.cls ≠ "java/lang/invoke/VarHandle") ∧ Cond.instantiable q.1.cls q.2 ∈ tables_1 ∧ Cond.privateMethod q.1 ∈ tables_1 ∧ Cond.instanceMethod q.1 ∈ tables_1
theorem lw_p0 : lw_okq (⟨"PawnLane", "found", "(I)I"⟩, 11) := ⟨⟨by decide +kernel, by decide +kernel⟩, List.mem_of_getElem? (i := 13) (by decide +kernel), List.mem_of_getElem? (i := 193) (by decide +kernel), List.mem_of_getElem? (i := 194) (by decide +kernel)⟩
theorem lw_p1 : lw_okq (⟨"PawnLane", "refusalOfPlace", "(LPawnLane$Sheets;II)I"⟩, 11) := ⟨⟨by decide +kernel, by decide +kernel⟩, List.mem_of_getElem? (i := 13) (by decide +kernel), List.mem_of_getElem? (i := 209) (by decide +kernel), List.mem_of_getElem? (i := 210) (by decide +kernel)⟩
theorem lw_p2 : lw_okq (⟨"PawnLane", "refusalOfSheet", "(LPawnLane$Sheets;I)I"⟩, 11) := ⟨⟨by decide +kernel, by decide +kernel⟩, List.mem_of_getElem? (i := 13) (by decide +kernel), List.mem_of_getElem? (i := 213) (by decide +kernel), List.mem_of_getElem? (i := 214) (by decide +kernel)⟩
theorem lw_p3 : lw_okq (⟨"PawnLane$Reader", "takes", "(I)Z"⟩, 5) := ⟨⟨by decide +kernel, by decide +kernel⟩, List.mem_of_getElem? (i := 41) (by decide +kernel), List.mem_of_getElem? (i := 288) (by decide +kernel), List.mem_of_getElem? (i := 289) (by decide +kernel)⟩
theorem lw_p4 : lw_okq (⟨"PawnLane$Reader", "beginsItem", "(I)Z"⟩, 5) := ⟨⟨by decide +kernel, by decide +kernel⟩, List.mem_of_getElem? (i := 41) (by decide +kernel), List.mem_of_getElem? (i := 292) (by decide +kernel), List.mem_of_getElem? (i := 293) (by decide +kernel)⟩
theorem lw_p5 : lw_okq (⟨"PawnLane$Reader", "takesOfShop", "(I)Z"⟩, 5) := ⟨⟨by decide +kernel, by decide +kernel⟩, List.mem_of_getElem? (i := 41) (by decide +kernel), List.mem_of_getElem? (i := 311) (by decide +kernel), List.mem_of_getElem? (i := 312) (by decide +kernel)⟩
theorem lw_p6 : lw_okq (⟨"PawnLane$Reader", "takesOfTicket", "(I)Z"⟩, 5) := ⟨⟨by decide +kernel, by decide +kernel⟩, List.mem_of_getElem? (i := 41) (by decide +kernel), List.mem_of_getElem? (i := 315) (by decide +kernel), List.mem_of_getElem? (i := 316) (by decide +kernel)⟩
theorem lw_p7 : lw_okq (⟨"PawnLane", "toldOfShop", "(II)I"⟩, 11) := ⟨⟨by decide +kernel, by decide +kernel⟩, List.mem_of_getElem? (i := 13) (by decide +kernel), List.mem_of_getElem? (i := 348) (by decide +kernel), List.mem_of_getElem? (i := 349) (by decide +kernel)⟩
theorem lw_p8 : lw_okq (⟨"PawnLane$Orders", "isLeft", "(II)Z"⟩, 6) := ⟨⟨by decide +kernel, by decide +kernel⟩, List.mem_of_getElem? (i := 126) (by decide +kernel), List.mem_of_getElem? (i := 406) (by decide +kernel), List.mem_of_getElem? (i := 407) (by decide +kernel)⟩
theorem lw_p9 : lw_okq (⟨"PawnLane$Lane", "pay", "(III)V"⟩, 8) := ⟨⟨by decide +kernel, by decide +kernel⟩, List.mem_of_getElem? (i := 47) (by decide +kernel), List.mem_of_getElem? (i := 442) (by decide +kernel), List.mem_of_getElem? (i := 443) (by decide +kernel)⟩
theorem lw_p10 : lw_okq (⟨"PawnLane$Lane", "ageTickets", "(I)V"⟩, 8) := ⟨⟨by decide +kernel, by decide +kernel⟩, List.mem_of_getElem? (i := 47) (by decide +kernel), List.mem_of_getElem? (i := 472) (by decide +kernel), List.mem_of_getElem? (i := 473) (by decide +kernel)⟩
theorem lw_p11 : lw_okq (⟨"PawnLane", "firstOrderTo", "(II)I"⟩, 11) := ⟨⟨by decide +kernel, by decide +kernel⟩, List.mem_of_getElem? (i := 13) (by decide +kernel), List.mem_of_getElem? (i := 589) (by decide +kernel), List.mem_of_getElem? (i := 590) (by decide +kernel)⟩
theorem lw_p12 : lw_okq (⟨"PawnLane$Orders", "stepsBy", "(II)I"⟩, 6) := ⟨⟨by decide +kernel, by decide +kernel⟩, List.mem_of_getElem? (i := 126) (by decide +kernel), List.mem_of_getElem? (i := 598) (by decide +kernel), List.mem_of_getElem? (i := 599) (by decide +kernel)⟩
theorem lw_p13 : lw_okq (⟨"PawnLane", "tell", "(JJ)V"⟩, 11) := ⟨⟨by decide +kernel, by decide +kernel⟩, List.mem_of_getElem? (i := 13) (by decide +kernel), List.mem_of_getElem? (i := 627) (by decide +kernel), List.mem_of_getElem? (i := 628) (by decide +kernel)⟩
theorem lw_p14 : lw_okq (⟨"PawnLane$Orders", "spreadNeed", "(II)V"⟩, 6) := ⟨⟨by decide +kernel, by decide +kernel⟩, List.mem_of_getElem? (i := 126) (by decide +kernel), List.mem_of_getElem? (i := 654) (by decide +kernel), List.mem_of_getElem? (i := 655) (by decide +kernel)⟩
theorem lw_p15 : lw_okq (⟨"PawnLane", "refusalOfOrder", "(I)I"⟩, 11) := ⟨⟨by decide +kernel, by decide +kernel⟩, List.mem_of_getElem? (i := 13) (by decide +kernel), List.mem_of_getElem? (i := 671) (by decide +kernel), List.mem_of_getElem? (i := 672) (by decide +kernel)⟩
def lw_privs_1 : List (MethodName × Nat) := [(⟨"PawnLane", "found", "(I)I"⟩, 11), (⟨"PawnLane", "refusalOfPlace", "(LPawnLane$Sheets;II)I"⟩, 11), (⟨"PawnLane", "refusalOfSheet", "(LPawnLane$Sheets;I)I"⟩, 11), (⟨"PawnLane$Reader", "takes", "(I)Z"⟩, 5), (⟨"PawnLane$Reader", "beginsItem", "(I)Z"⟩, 5), (⟨"PawnLane$Reader", "takesOfShop", "(I)Z"⟩, 5), (⟨"PawnLane$Reader", "takesOfTicket", "(I)Z"⟩, 5), (⟨"PawnLane", "toldOfShop", "(II)I"⟩, 11), (⟨"PawnLane$Orders", "isLeft", "(II)Z"⟩, 6), (⟨"PawnLane$Lane", "pay", "(III)V"⟩, 8), (⟨"PawnLane$Lane", "ageTickets", "(I)V"⟩, 8), (⟨"PawnLane", "firstOrderTo", "(II)I"⟩, 11), (⟨"PawnLane$Orders", "stepsBy", "(II)I"⟩, 6), (⟨"PawnLane", "tell", "(JJ)V"⟩, 11), (⟨"PawnLane$Orders", "spreadNeed", "(II)V"⟩, 6), (⟨"PawnLane", "refusalOfOrder", "(I)I"⟩, 11)]
theorem lw_r1 : ∀ q ∈ lw_privs_1, lw_okq q := List.forall_mem_cons.mpr ⟨lw_p0, List.forall_mem_cons.mpr ⟨lw_p1, List.forall_mem_cons.mpr ⟨lw_p2, List.forall_mem_cons.mpr ⟨lw_p3, List.forall_mem_cons.mpr ⟨lw_p4, List.forall_mem_cons.mpr ⟨lw_p5, List.forall_mem_cons.mpr ⟨lw_p6, List.forall_mem_cons.mpr ⟨lw_p7, List.forall_mem_cons.mpr ⟨lw_p8, List.forall_mem_cons.mpr ⟨lw_p9, List.forall_mem_cons.mpr ⟨lw_p10, List.forall_mem_cons.mpr ⟨lw_p11, List.forall_mem_cons.mpr ⟨lw_p12, List.forall_mem_cons.mpr ⟨lw_p13, List.forall_mem_cons.mpr ⟨lw_p14, List.forall_mem_cons.mpr ⟨lw_p15, fun _ h => absurd h List.not_mem_nil⟩⟩⟩⟩⟩⟩⟩⟩⟩⟩⟩⟩⟩⟩⟩⟩
theorem lw_p16 : lw_okq (⟨"PawnLane", "refusalOfAside", "(I)I"⟩, 11) := ⟨⟨by decide +kernel, by decide +kernel⟩, List.mem_of_getElem? (i := 13) (by decide +kernel), List.mem_of_getElem? (i := 675) (by decide +kernel), List.mem_of_getElem? (i := 676) (by decide +kernel)⟩
theorem lw_p17 : lw_okq (⟨"PawnLane$Lane", "ruinsHolder", "(I)Z"⟩, 8) := ⟨⟨by decide +kernel, by decide +kernel⟩, List.mem_of_getElem? (i := 47) (by decide +kernel), List.mem_of_getElem? (i := 693) (by decide +kernel), List.mem_of_getElem? (i := 694) (by decide +kernel)⟩
theorem lw_p18 : lw_okq (⟨"PawnLane", "refusalOfSets", "(I)I"⟩, 11) := ⟨⟨by decide +kernel, by decide +kernel⟩, List.mem_of_getElem? (i := 13) (by decide +kernel), List.mem_of_getElem? (i := 701) (by decide +kernel), List.mem_of_getElem? (i := 702) (by decide +kernel)⟩
theorem lw_p19 : lw_okq (⟨"PawnLane", "counted", "(I)I"⟩, 11) := ⟨⟨by decide +kernel, by decide +kernel⟩, List.mem_of_getElem? (i := 13) (by decide +kernel), List.mem_of_getElem? (i := 753) (by decide +kernel), List.mem_of_getElem? (i := 754) (by decide +kernel)⟩
theorem lw_p20 : lw_okq (⟨"PawnLane", "keptLanes", "()I"⟩, 11) := ⟨⟨by decide +kernel, by decide +kernel⟩, List.mem_of_getElem? (i := 13) (by decide +kernel), List.mem_of_getElem? (i := 771) (by decide +kernel), List.mem_of_getElem? (i := 772) (by decide +kernel)⟩
theorem lw_p21 : lw_okq (⟨"PawnLaneModel", "find", "(I)I"⟩, 26) := ⟨⟨by decide +kernel, by decide +kernel⟩, List.mem_of_getElem? (i := 794) (by decide +kernel), List.mem_of_getElem? (i := 891) (by decide +kernel), List.mem_of_getElem? (i := 892) (by decide +kernel)⟩
theorem lw_p22 : lw_okq (⟨"PawnLaneModel", "makeRow", "(II)V"⟩, 26) := ⟨⟨by decide +kernel, by decide +kernel⟩, List.mem_of_getElem? (i := 794) (by decide +kernel), List.mem_of_getElem? (i := 895) (by decide +kernel), List.mem_of_getElem? (i := 896) (by decide +kernel)⟩
theorem lw_p23 : lw_okq (⟨"PawnLaneModel", "refused", "(II)I"⟩, 26) := ⟨⟨by decide +kernel, by decide +kernel⟩, List.mem_of_getElem? (i := 794) (by decide +kernel), List.mem_of_getElem? (i := 903) (by decide +kernel), List.mem_of_getElem? (i := 904) (by decide +kernel)⟩
theorem lw_p24 : lw_okq (⟨"PawnLaneModel", "tell", "(I)I"⟩, 26) := ⟨⟨by decide +kernel, by decide +kernel⟩, List.mem_of_getElem? (i := 794) (by decide +kernel), List.mem_of_getElem? (i := 907) (by decide +kernel), List.mem_of_getElem? (i := 908) (by decide +kernel)⟩
theorem lw_p25 : lw_okq (⟨"PawnLaneModel", "isSpan", "(III)Z"⟩, 26) := ⟨⟨by decide +kernel, by decide +kernel⟩, List.mem_of_getElem? (i := 794) (by decide +kernel), List.mem_of_getElem? (i := 923) (by decide +kernel), List.mem_of_getElem? (i := 924) (by decide +kernel)⟩
theorem lw_p26 : lw_okq (⟨"PawnLaneModel", "faultOf", "(I)I"⟩, 26) := ⟨⟨by decide +kernel, by decide +kernel⟩, List.mem_of_getElem? (i := 794) (by decide +kernel), List.mem_of_getElem? (i := 947) (by decide +kernel), List.mem_of_getElem? (i := 948) (by decide +kernel)⟩
theorem lw_p27 : lw_okq (⟨"PawnLaneModel", "skip", "()V"⟩, 26) := ⟨⟨by decide +kernel, by decide +kernel⟩, List.mem_of_getElem? (i := 794) (by decide +kernel), List.mem_of_getElem? (i := 951) (by decide +kernel), List.mem_of_getElem? (i := 952) (by decide +kernel)⟩
theorem lw_p28 : lw_okq (⟨"PawnLaneModel", "here", "()I"⟩, 26) := ⟨⟨by decide +kernel, by decide +kernel⟩, List.mem_of_getElem? (i := 794) (by decide +kernel), List.mem_of_getElem? (i := 955) (by decide +kernel), List.mem_of_getElem? (i := 956) (by decide +kernel)⟩
theorem lw_p29 : lw_okq (⟨"PawnLaneModel", "readsTicket", "()Z"⟩, 26) := ⟨⟨by decide +kernel, by decide +kernel⟩, List.mem_of_getElem? (i := 794) (by decide +kernel), List.mem_of_getElem? (i := 959) (by decide +kernel), List.mem_of_getElem? (i := 960) (by decide +kernel)⟩
theorem lw_p30 : lw_okq (⟨"PawnLaneModel", "figure", "(III)I"⟩, 26) := ⟨⟨by decide +kernel, by decide +kernel⟩, List.mem_of_getElem? (i := 794) (by decide +kernel), List.mem_of_getElem? (i := 963) (by decide +kernel), List.mem_of_getElem? (i := 964) (by decide +kernel)⟩
theorem lw_p31 : lw_okq (⟨"PawnLaneModel", "readsShop", "()Z"⟩, 26) := ⟨⟨by decide +kernel, by decide +kernel⟩, List.mem_of_getElem? (i := 794) (by decide +kernel), List.mem_of_getElem? (i := 967) (by decide +kernel), List.mem_of_getElem? (i := 968) (by decide +kernel)⟩
def lw_privs_2 : List (MethodName × Nat) := [(⟨"PawnLane", "refusalOfAside", "(I)I"⟩, 11), (⟨"PawnLane$Lane", "ruinsHolder", "(I)Z"⟩, 8), (⟨"PawnLane", "refusalOfSets", "(I)I"⟩, 11), (⟨"PawnLane", "counted", "(I)I"⟩, 11), (⟨"PawnLane", "keptLanes", "()I"⟩, 11), (⟨"PawnLaneModel", "find", "(I)I"⟩, 26), (⟨"PawnLaneModel", "makeRow", "(II)V"⟩, 26), (⟨"PawnLaneModel", "refused", "(II)I"⟩, 26), (⟨"PawnLaneModel", "tell", "(I)I"⟩, 26), (⟨"PawnLaneModel", "isSpan", "(III)Z"⟩, 26), (⟨"PawnLaneModel", "faultOf", "(I)I"⟩, 26), (⟨"PawnLaneModel", "skip", "()V"⟩, 26), (⟨"PawnLaneModel", "here", "()I"⟩, 26), (⟨"PawnLaneModel", "readsTicket", "()Z"⟩, 26), (⟨"PawnLaneModel", "figure", "(III)I"⟩, 26), (⟨"PawnLaneModel", "readsShop", "()Z"⟩, 26)]
theorem lw_r2 : ∀ q ∈ lw_privs_2, lw_okq q := List.forall_mem_cons.mpr ⟨lw_p16, List.forall_mem_cons.mpr ⟨lw_p17, List.forall_mem_cons.mpr ⟨lw_p18, List.forall_mem_cons.mpr ⟨lw_p19, List.forall_mem_cons.mpr ⟨lw_p20, List.forall_mem_cons.mpr ⟨lw_p21, List.forall_mem_cons.mpr ⟨lw_p22, List.forall_mem_cons.mpr ⟨lw_p23, List.forall_mem_cons.mpr ⟨lw_p24, List.forall_mem_cons.mpr ⟨lw_p25, List.forall_mem_cons.mpr ⟨lw_p26, List.forall_mem_cons.mpr ⟨lw_p27, List.forall_mem_cons.mpr ⟨lw_p28, List.forall_mem_cons.mpr ⟨lw_p29, List.forall_mem_cons.mpr ⟨lw_p30, List.forall_mem_cons.mpr ⟨lw_p31, fun _ h => absurd h List.not_mem_nil⟩⟩⟩⟩⟩⟩⟩⟩⟩⟩⟩⟩⟩⟩⟩⟩
theorem lw_p32 : lw_okq (⟨"PawnLaneModel", "isShop", "(I)Z"⟩, 26) := ⟨⟨by decide +kernel, by decide +kernel⟩, List.mem_of_getElem? (i := 794) (by decide +kernel), List.mem_of_getElem? (i := 982) (by decide +kernel), List.mem_of_getElem? (i := 983) (by decide +kernel)⟩
theorem lw_p33 : lw_okq (⟨"PawnLaneModel", "toldOf", "(II)I"⟩, 26) := ⟨⟨by decide +kernel, by decide +kernel⟩, List.mem_of_getElem? (i := 794) (by decide +kernel), List.mem_of_getElem? (i := 987) (by decide +kernel), List.mem_of_getElem? (i := 988) (by decide +kernel)⟩
theorem lw_p34 : lw_okq (⟨"PawnLaneModel", "dueIn", "(II)I"⟩, 26) := ⟨⟨by decide +kernel, by decide +kernel⟩, List.mem_of_getElem? (i := 794) (by decide +kernel), List.mem_of_getElem? (i := 991) (by decide +kernel), List.mem_of_getElem? (i := 992) (by decide +kernel)⟩
theorem lw_p35 : lw_okq (⟨"PawnLaneModel", "isPawned", "(I)Z"⟩, 26) := ⟨⟨by decide +kernel, by decide +kernel⟩, List.mem_of_getElem? (i := 794) (by decide +kernel), List.mem_of_getElem? (i := 995) (by decide +kernel), List.mem_of_getElem? (i := 996) (by decide +kernel)⟩
theorem lw_p36 : lw_okq (⟨"PawnLaneModel", "heldBy", "(I)I"⟩, 26) := ⟨⟨by decide +kernel, by decide +kernel⟩, List.mem_of_getElem? (i := 794) (by decide +kernel), List.mem_of_getElem? (i := 999) (by decide +kernel), List.mem_of_getElem? (i := 1000) (by decide +kernel)⟩
theorem lw_p37 : lw_okq (⟨"PawnLaneModel", "isOf", "(II)Z"⟩, 26) := ⟨⟨by decide +kernel, by decide +kernel⟩, List.mem_of_getElem? (i := 794) (by decide +kernel), List.mem_of_getElem? (i := 1007) (by decide +kernel), List.mem_of_getElem? (i := 1008) (by decide +kernel)⟩
theorem lw_p38 : lw_okq (⟨"PawnLaneModel", "loansTo", "(I)I"⟩, 26) := ⟨⟨by decide +kernel, by decide +kernel⟩, List.mem_of_getElem? (i := 794) (by decide +kernel), List.mem_of_getElem? (i := 1011) (by decide +kernel), List.mem_of_getElem? (i := 1012) (by decide +kernel)⟩
theorem lw_p39 : lw_okq (⟨"PawnLaneModel", "dueTo", "(II)I"⟩, 26) := ⟨⟨by decide +kernel, by decide +kernel⟩, List.mem_of_getElem? (i := 794) (by decide +kernel), List.mem_of_getElem? (i := 1015) (by decide +kernel), List.mem_of_getElem? (i := 1016) (by decide +kernel)⟩
theorem lw_p40 : lw_okq (⟨"PawnLaneModel", "canNow", "()I"⟩, 26) := ⟨⟨by decide +kernel, by decide +kernel⟩, List.mem_of_getElem? (i := 794) (by decide +kernel), List.mem_of_getElem? (i := 1022) (by decide +kernel), List.mem_of_getElem? (i := 1023) (by decide +kernel)⟩
theorem lw_p41 : lw_okq (⟨"PawnLaneModel", "doRedeem", "(I)I"⟩, 26) := ⟨⟨by decide +kernel, by decide +kernel⟩, List.mem_of_getElem? (i := 794) (by decide +kernel), List.mem_of_getElem? (i := 1038) (by decide +kernel), List.mem_of_getElem? (i := 1039) (by decide +kernel)⟩
theorem lw_p42 : lw_okq (⟨"PawnLaneModel", "keepPast", "()V"⟩, 26) := ⟨⟨by decide +kernel, by decide +kernel⟩, List.mem_of_getElem? (i := 794) (by decide +kernel), List.mem_of_getElem? (i := 1042) (by decide +kernel), List.mem_of_getElem? (i := 1043) (by decide +kernel)⟩
theorem lw_p43 : lw_okq (⟨"PawnLaneModel", "doPawn", "(III)V"⟩, 26) := ⟨⟨by decide +kernel, by decide +kernel⟩, List.mem_of_getElem? (i := 794) (by decide +kernel), List.mem_of_getElem? (i := 1050) (by decide +kernel), List.mem_of_getElem? (i := 1051) (by decide +kernel)⟩
theorem lw_p44 : lw_okq (⟨"PawnLaneModel", "pawned", "()I"⟩, 26) := ⟨⟨by decide +kernel, by decide +kernel⟩, List.mem_of_getElem? (i := 794) (by decide +kernel), List.mem_of_getElem? (i := 1054) (by decide +kernel), List.mem_of_getElem? (i := 1055) (by decide +kernel)⟩
theorem lw_p45 : lw_okq (⟨"PawnLaneModel", "isOld", "()Z"⟩, 26) := ⟨⟨by decide +kernel, by decide +kernel⟩, List.mem_of_getElem? (i := 794) (by decide +kernel), List.mem_of_getElem? (i := 1062) (by decide +kernel), List.mem_of_getElem? (i := 1063) (by decide +kernel)⟩
theorem lw_p46 : lw_okq (⟨"PawnLaneModel", "doWeek", "()V"⟩, 26) := ⟨⟨by decide +kernel, by decide +kernel⟩, List.mem_of_getElem? (i := 794) (by decide +kernel), List.mem_of_getElem? (i := 1066) (by decide +kernel), List.mem_of_getElem? (i := 1067) (by decide +kernel)⟩
theorem lw_p47 : lw_okq (⟨"PawnLaneModel", "dueInAll", "()I"⟩, 26) := ⟨⟨by decide +kernel, by decide +kernel⟩, List.mem_of_getElem? (i := 794) (by decide +kernel), List.mem_of_getElem? (i := 1070) (by decide +kernel), List.mem_of_getElem? (i := 1071) (by decide +kernel)⟩
def lw_privs_3 : List (MethodName × Nat) := [(⟨"PawnLaneModel", "isShop", "(I)Z"⟩, 26), (⟨"PawnLaneModel", "toldOf", "(II)I"⟩, 26), (⟨"PawnLaneModel", "dueIn", "(II)I"⟩, 26), (⟨"PawnLaneModel", "isPawned", "(I)Z"⟩, 26), (⟨"PawnLaneModel", "heldBy", "(I)I"⟩, 26), (⟨"PawnLaneModel", "isOf", "(II)Z"⟩, 26), (⟨"PawnLaneModel", "loansTo", "(I)I"⟩, 26), (⟨"PawnLaneModel", "dueTo", "(II)I"⟩, 26), (⟨"PawnLaneModel", "canNow", "()I"⟩, 26), (⟨"PawnLaneModel", "doRedeem", "(I)I"⟩, 26), (⟨"PawnLaneModel", "keepPast", "()V"⟩, 26), (⟨"PawnLaneModel", "doPawn", "(III)V"⟩, 26), (⟨"PawnLaneModel", "pawned", "()I"⟩, 26), (⟨"PawnLaneModel", "isOld", "()Z"⟩, 26), (⟨"PawnLaneModel", "doWeek", "()V"⟩, 26), (⟨"PawnLaneModel", "dueInAll", "()I"⟩, 26)]
theorem lw_r3 : ∀ q ∈ lw_privs_3, lw_okq q := List.forall_mem_cons.mpr ⟨lw_p32, List.forall_mem_cons.mpr ⟨lw_p33, List.forall_mem_cons.mpr ⟨lw_p34, List.forall_mem_cons.mpr ⟨lw_p35, List.forall_mem_cons.mpr ⟨lw_p36, List.forall_mem_cons.mpr ⟨lw_p37, List.forall_mem_cons.mpr ⟨lw_p38, List.forall_mem_cons.mpr ⟨lw_p39, List.forall_mem_cons.mpr ⟨lw_p40, List.forall_mem_cons.mpr ⟨lw_p41, List.forall_mem_cons.mpr ⟨lw_p42, List.forall_mem_cons.mpr ⟨lw_p43, List.forall_mem_cons.mpr ⟨lw_p44, List.forall_mem_cons.mpr ⟨lw_p45, List.forall_mem_cons.mpr ⟨lw_p46, List.forall_mem_cons.mpr ⟨lw_p47, fun _ h => absurd h List.not_mem_nil⟩⟩⟩⟩⟩⟩⟩⟩⟩⟩⟩⟩⟩⟩⟩⟩
theorem lw_p48 : lw_okq (⟨"PawnLaneModel", "doGive", "(II)I"⟩, 26) := ⟨⟨by decide +kernel, by decide +kernel⟩, List.mem_of_getElem? (i := 794) (by decide +kernel), List.mem_of_getElem? (i := 1079) (by decide +kernel), List.mem_of_getElem? (i := 1080) (by decide +kernel)⟩
theorem lw_p49 : lw_okq (⟨"PawnLaneModel", "copyLane", "(II)V"⟩, 26) := ⟨⟨by decide +kernel, by decide +kernel⟩, List.mem_of_getElem? (i := 794) (by decide +kernel), List.mem_of_getElem? (i := 1092) (by decide +kernel), List.mem_of_getElem? (i := 1093) (by decide +kernel)⟩
theorem lw_p50 : lw_okq (⟨"PawnLaneModel", "insideOf", "(I)I"⟩, 26) := ⟨⟨by decide +kernel, by decide +kernel⟩, List.mem_of_getElem? (i := 794) (by decide +kernel), List.mem_of_getElem? (i := 1108) (by decide +kernel), List.mem_of_getElem? (i := 1109) (by decide +kernel)⟩
theorem lw_p51 : lw_okq (⟨"PawnLaneModel", "ringOf", "(I)I"⟩, 26) := ⟨⟨by decide +kernel, by decide +kernel⟩, List.mem_of_getElem? (i := 794) (by decide +kernel), List.mem_of_getElem? (i := 1116) (by decide +kernel), List.mem_of_getElem? (i := 1117) (by decide +kernel)⟩
theorem lw_p52 : lw_okq (⟨"PawnLaneModel", "layTried", "(II)V"⟩, 26) := ⟨⟨by decide +kernel, by decide +kernel⟩, List.mem_of_getElem? (i := 794) (by decide +kernel), List.mem_of_getElem? (i := 1144) (by decide +kernel), List.mem_of_getElem? (i := 1145) (by decide +kernel)⟩
theorem lw_p53 : lw_okq (⟨"PawnLaneModel", "layOn", "()V"⟩, 26) := ⟨⟨by decide +kernel, by decide +kernel⟩, List.mem_of_getElem? (i := 794) (by decide +kernel), List.mem_of_getElem? (i := 1148) (by decide +kernel), List.mem_of_getElem? (i := 1149) (by decide +kernel)⟩
theorem lw_p54 : lw_okq (⟨"PawnLaneModel", "next", "(II)Z"⟩, 26) := ⟨⟨by decide +kernel, by decide +kernel⟩, List.mem_of_getElem? (i := 794) (by decide +kernel), List.mem_of_getElem? (i := 1152) (by decide +kernel), List.mem_of_getElem? (i := 1153) (by decide +kernel)⟩
theorem lw_p55 : lw_okq (⟨"PawnLaneModel", "cashBy", "(II)I"⟩, 26) := ⟨⟨by decide +kernel, by decide +kernel⟩, List.mem_of_getElem? (i := 794) (by decide +kernel), List.mem_of_getElem? (i := 1156) (by decide +kernel), List.mem_of_getElem? (i := 1157) (by decide +kernel)⟩
theorem lw_p56 : lw_okq (⟨"PawnLaneModel", "layWays", "()V"⟩, 26) := ⟨⟨by decide +kernel, by decide +kernel⟩, List.mem_of_getElem? (i := 794) (by decide +kernel), List.mem_of_getElem? (i := 1164) (by decide +kernel), List.mem_of_getElem? (i := 1165) (by decide +kernel)⟩
theorem lw_p57 : lw_okq (⟨"PawnLaneModel", "tellMany", "(J)I"⟩, 26) := ⟨⟨by decide +kernel, by decide +kernel⟩, List.mem_of_getElem? (i := 794) (by decide +kernel), List.mem_of_getElem? (i := 1168) (by decide +kernel), List.mem_of_getElem? (i := 1169) (by decide +kernel)⟩
theorem lw_p58 : lw_okq (⟨"PawnLaneModel", "canAll", "()Z"⟩, 26) := ⟨⟨by decide +kernel, by decide +kernel⟩, List.mem_of_getElem? (i := 794) (by decide +kernel), List.mem_of_getElem? (i := 1180) (by decide +kernel), List.mem_of_getElem? (i := 1181) (by decide +kernel)⟩
theorem lw_p59 : lw_okq (⟨"PawnLaneModel", "noRow", "(III)I"⟩, 26) := ⟨⟨by decide +kernel, by decide +kernel⟩, List.mem_of_getElem? (i := 794) (by decide +kernel), List.mem_of_getElem? (i := 1196) (by decide +kernel), List.mem_of_getElem? (i := 1197) (by decide +kernel)⟩
theorem lw_p60 : lw_okq (⟨"PawnLaneModel", "tellParts", "(JJ)I"⟩, 26) := ⟨⟨by decide +kernel, by decide +kernel⟩, List.mem_of_getElem? (i := 794) (by decide +kernel), List.mem_of_getElem? (i := 1217) (by decide +kernel), List.mem_of_getElem? (i := 1218) (by decide +kernel)⟩
theorem lw_p61 : lw_okq (⟨"PawnLaneModel", "doLot", "(J)V"⟩, 26) := ⟨⟨by decide +kernel, by decide +kernel⟩, List.mem_of_getElem? (i := 794) (by decide +kernel), List.mem_of_getElem? (i := 1229) (by decide +kernel), List.mem_of_getElem? (i := 1230) (by decide +kernel)⟩
theorem lw_p62 : lw_okq (⟨"PawnLaneModel", "countOf", "(I)I"⟩, 26) := ⟨⟨by decide +kernel, by decide +kernel⟩, List.mem_of_getElem? (i := 794) (by decide +kernel), List.mem_of_getElem? (i := 1252) (by decide +kernel), List.mem_of_getElem? (i := 1253) (by decide +kernel)⟩
theorem lw_p63 : lw_okq (⟨"PawnLaneModel", "cashOfAll", "()I"⟩, 26) := ⟨⟨by decide +kernel, by decide +kernel⟩, List.mem_of_getElem? (i := 794) (by decide +kernel), List.mem_of_getElem? (i := 1256) (by decide +kernel), List.mem_of_getElem? (i := 1257) (by decide +kernel)⟩
def lw_privs_4 : List (MethodName × Nat) := [(⟨"PawnLaneModel", "doGive", "(II)I"⟩, 26), (⟨"PawnLaneModel", "copyLane", "(II)V"⟩, 26), (⟨"PawnLaneModel", "insideOf", "(I)I"⟩, 26), (⟨"PawnLaneModel", "ringOf", "(I)I"⟩, 26), (⟨"PawnLaneModel", "layTried", "(II)V"⟩, 26), (⟨"PawnLaneModel", "layOn", "()V"⟩, 26), (⟨"PawnLaneModel", "next", "(II)Z"⟩, 26), (⟨"PawnLaneModel", "cashBy", "(II)I"⟩, 26), (⟨"PawnLaneModel", "layWays", "()V"⟩, 26), (⟨"PawnLaneModel", "tellMany", "(J)I"⟩, 26), (⟨"PawnLaneModel", "canAll", "()Z"⟩, 26), (⟨"PawnLaneModel", "noRow", "(III)I"⟩, 26), (⟨"PawnLaneModel", "tellParts", "(JJ)I"⟩, 26), (⟨"PawnLaneModel", "doLot", "(J)V"⟩, 26), (⟨"PawnLaneModel", "countOf", "(I)I"⟩, 26), (⟨"PawnLaneModel", "cashOfAll", "()I"⟩, 26)]
theorem lw_r4 : ∀ q ∈ lw_privs_4, lw_okq q := List.forall_mem_cons.mpr ⟨lw_p48, List.forall_mem_cons.mpr ⟨lw_p49, List.forall_mem_cons.mpr ⟨lw_p50, List.forall_mem_cons.mpr ⟨lw_p51, List.forall_mem_cons.mpr ⟨lw_p52, List.forall_mem_cons.mpr ⟨lw_p53, List.forall_mem_cons.mpr ⟨lw_p54, List.forall_mem_cons.mpr ⟨lw_p55, List.forall_mem_cons.mpr ⟨lw_p56, List.forall_mem_cons.mpr ⟨lw_p57, List.forall_mem_cons.mpr ⟨lw_p58, List.forall_mem_cons.mpr ⟨lw_p59, List.forall_mem_cons.mpr ⟨lw_p60, List.forall_mem_cons.mpr ⟨lw_p61, List.forall_mem_cons.mpr ⟨lw_p62, List.forall_mem_cons.mpr ⟨lw_p63, fun _ h => absurd h List.not_mem_nil⟩⟩⟩⟩⟩⟩⟩⟩⟩⟩⟩⟩⟩⟩⟩⟩
theorem lw_p64 : lw_okq (⟨"PawnLaneModel", "hawks", "()I"⟩, 26) := ⟨⟨by decide +kernel, by decide +kernel⟩, List.mem_of_getElem? (i := 794) (by decide +kernel), List.mem_of_getElem? (i := 1260) (by decide +kernel), List.mem_of_getElem? (i := 1261) (by decide +kernel)⟩
theorem lw_p65 : lw_okq (⟨"PawnLaneModel", "thereOf", "(I)I"⟩, 26) := ⟨⟨by decide +kernel, by decide +kernel⟩, List.mem_of_getElem? (i := 794) (by decide +kernel), List.mem_of_getElem? (i := 1264) (by decide +kernel), List.mem_of_getElem? (i := 1265) (by decide +kernel)⟩
def lw_privs_5 : List (MethodName × Nat) := [(⟨"PawnLaneModel", "hawks", "()I"⟩, 26), (⟨"PawnLaneModel", "thereOf", "(I)I"⟩, 26)]
theorem lw_r5 : ∀ q ∈ lw_privs_5, lw_okq q := List.forall_mem_cons.mpr ⟨lw_p64, List.forall_mem_cons.mpr ⟨lw_p65, fun _ h => absurd h List.not_mem_nil⟩⟩
def lw_privs : List (MethodName × Nat) := lw_privs_1 ++ (lw_privs_2 ++ (lw_privs_3 ++ (lw_privs_4 ++ (lw_privs_5))))
def lw_tbl : List Cond := k2_sels lw_privs ++ tables_1
theorem lw_privs_ok : ∀ q ∈ lw_privs, lw_okq q := by
  show ∀ q ∈ lw_privs_1 ++ (lw_privs_2 ++ (lw_privs_3 ++ (lw_privs_4 ++ (lw_privs_5)))), lw_okq q
  exact List.forall_mem_append.mpr ⟨lw_r1, List.forall_mem_append.mpr ⟨lw_r2, List.forall_mem_append.mpr ⟨lw_r3, List.forall_mem_append.mpr ⟨lw_r4, lw_r5⟩⟩⟩⟩
-- ===== end of PART A; then your names; then what follows =====
end
section
/-! ===== BEGIN printed: names, fields, word lists, decode rows ===== -/
def RX0 : String := "PawnLane$Deeds"
def TX0 : u_T := fun k => match k with
  | 0 => ("PawnLane$Deeds", "packed", "[I", true)
  | _ => ("PawnLane$Deeds", "size", "I", false)
def tyX0 : Nat → FieldType := fun k => match k with
  | 0 => .array .int
  | _ => .int
abbrev wsX00 : List Cond := u_ws RX0 TX0 2
theorem nmX0 : ∀ a, a < 2 → ∀ b, b < 2 → a ≠ b → (TX0 a).2.1 ≠ (TX0 b).2.1 := by decide +kernel
theorem tyX0_ok : ∀ k, k < 2 → parseFieldDescriptor (TX0 k).2.2.1 = some (tyX0 k) := by decide +kernel
abbrev cX0_init : ByteArray := prog_2_method_1_code
def yX0_init : MethodName := ⟨RX0, "<init>", "()V"⟩
abbrev cX0_hasRoom : ByteArray := prog_2_method_2_code
def yX0_hasRoom : MethodName := ⟨RX0, "hasRoom", "(I)Z"⟩
abbrev cX0_add : ByteArray := prog_2_method_3_code
def yX0_add : MethodName := ⟨RX0, "add", "(IIIII)V"⟩
abbrev cX0_removeLast : ByteArray := prog_2_method_4_code
def yX0_removeLast : MethodName := ⟨RX0, "removeLast", "()V"⟩
abbrev cX0_becomeLike : ByteArray := prog_2_method_5_code
def yX0_becomeLike : MethodName := ⟨RX0, "becomeLike", "(LPawnLane$Deeds;)V"⟩
abbrev cX0_whatOf : ByteArray := prog_2_method_6_code
def yX0_whatOf : MethodName := ⟨RX0, "whatOf", "(I)I"⟩
abbrev cX0_shopOf : ByteArray := prog_2_method_7_code
def yX0_shopOf : MethodName := ⟨RX0, "shopOf", "(I)I"⟩
abbrev cX0_otherOf : ByteArray := prog_2_method_8_code
def yX0_otherOf : MethodName := ⟨RX0, "otherOf", "(I)I"⟩
abbrev cX0_numberOf : ByteArray := prog_2_method_9_code
def yX0_numberOf : MethodName := ⟨RX0, "numberOf", "(I)I"⟩
abbrev cX0_weeksOf : ByteArray := prog_2_method_10_code
def yX0_weeksOf : MethodName := ⟨RX0, "weeksOf", "(I)I"⟩
def RX1 : String := "PawnLane$Lane"
def TX1 : u_T := fun k => match k with
  | 0 => ("PawnLane$Lane", "shops", "I", false)
  | 1 => ("PawnLane$Lane", "kind", "[I", true)
  | 2 => ("PawnLane$Lane", "cash", "[I", true)
  | 3 => ("PawnLane$Lane", "stock", "[I", true)
  | 4 => ("PawnLane$Lane", "holder", "[I", true)
  | 5 => ("PawnLane$Lane", "loan", "[I", true)
  | 6 => ("PawnLane$Lane", "weeks", "[I", true)
  | _ => ("PawnLane$Lane", "deeds", "LPawnLane$Deeds;", true)
def tyX1 : Nat → FieldType := fun k => match k with
  | 0 => .int
  | 1 => .array .int
  | 2 => .array .int
  | 3 => .array .int
  | 4 => .array .int
  | 5 => .array .int
  | 6 => .array .int
  | _ => .object "PawnLane$Deeds"
abbrev wsX10 : List Cond := u_ws RX1 TX1 8
theorem nmX1 : ∀ a, a < 8 → ∀ b, b < 8 → a ≠ b → (TX1 a).2.1 ≠ (TX1 b).2.1 := by decide +kernel
theorem tyX1_ok : ∀ k, k < 8 → parseFieldDescriptor (TX1 k).2.2.1 = some (tyX1 k) := by decide +kernel
abbrev cX1_init : ByteArray := prog_3_method_1_code
def yX1_init : MethodName := ⟨RX1, "<init>", "()V"⟩
abbrev cX1_clear : ByteArray := prog_3_method_2_code
def yX1_clear : MethodName := ⟨RX1, "clear", "()V"⟩
abbrev cX1_becomeLike : ByteArray := prog_3_method_3_code
def yX1_becomeLike : MethodName := ⟨RX1, "becomeLike", "(LPawnLane$Lane;)V"⟩
abbrev cX1_addShop : ByteArray := prog_3_method_4_code
def yX1_addShop : MethodName := ⟨RX1, "addShop", "(I)V"⟩
abbrev cX1_setTicket : ByteArray := prog_3_method_5_code
def yX1_setTicket : MethodName := ⟨RX1, "setTicket", "(IIII)V"⟩
abbrev cX1_removeTicket : ByteArray := prog_3_method_6_code
def yX1_removeTicket : MethodName := ⟨RX1, "removeTicket", "(I)V"⟩
abbrev cX1_isShop : ByteArray := prog_3_method_7_code
def yX1_isShop : MethodName := ⟨RX1, "isShop", "(I)Z"⟩
abbrev cX1_isPawned : ByteArray := prog_3_method_8_code
def yX1_isPawned : MethodName := ⟨RX1, "isPawned", "(I)Z"⟩
abbrev cX1_isHeldIn : ByteArray := prog_3_method_9_code
def yX1_isHeldIn : MethodName := ⟨RX1, "isHeldIn", "(II)Z"⟩
abbrev cX1_pawnedSet : ByteArray := prog_3_method_10_code
def yX1_pawnedSet : MethodName := ⟨RX1, "pawnedSet", "()I"⟩
abbrev cX1_heldBy : ByteArray := prog_3_method_11_code
def yX1_heldBy : MethodName := ⟨RX1, "heldBy", "(I)I"⟩
abbrev cX1_dueOf : ByteArray := prog_3_method_12_code
def yX1_dueOf : MethodName := ⟨RX1, "dueOf", "(II)I"⟩
abbrev cX1_dueTo : ByteArray := prog_3_method_13_code
def yX1_dueTo : MethodName := ⟨RX1, "dueTo", "(II)I"⟩
abbrev cX1_loansTo : ByteArray := prog_3_method_14_code
def yX1_loansTo : MethodName := ⟨RX1, "loansTo", "(I)I"⟩
abbrev cX1_dueInAll : ByteArray := prog_3_method_15_code
def yX1_dueInAll : MethodName := ⟨RX1, "dueInAll", "()I"⟩
abbrev cX1_cashInAll : ByteArray := prog_3_method_16_code
def yX1_cashInAll : MethodName := ⟨RX1, "cashInAll", "()I"⟩
abbrev cX1_stockOf : ByteArray := prog_3_method_17_code
def yX1_stockOf : MethodName := ⟨RX1, "stockOf", "(I)I"⟩
abbrev cX1_howManyOf : ByteArray := prog_3_method_18_code
def yX1_howManyOf : MethodName := ⟨RX1, "howManyOf", "(I)I"⟩
abbrev cX1_oldestTicket : ByteArray := prog_3_method_19_code
def yX1_oldestTicket : MethodName := ⟨RX1, "oldestTicket", "()I"⟩
abbrev cX1_insideOf : ByteArray := prog_3_method_20_code
def yX1_insideOf : MethodName := ⟨RX1, "insideOf", "(I)I"⟩
abbrev cX1_ringOf : ByteArray := prog_3_method_21_code
def yX1_ringOf : MethodName := ⟨RX1, "ringOf", "(I)I"⟩
abbrev cX1_shutBy : ByteArray := prog_3_method_22_code
def yX1_shutBy : MethodName := ⟨RX1, "shutBy", "(I)I"⟩
abbrev cX1_ruinsHolder : ByteArray := prog_3_method_23_code
def yX1_ruinsHolder : MethodName := ⟨RX1, "ruinsHolder", "(I)Z"⟩
abbrev cX1_canRedeem : ByteArray := prog_3_method_24_code
def yX1_canRedeem : MethodName := ⟨RX1, "canRedeem", "(I)Z"⟩
abbrev cX1_canPawn : ByteArray := prog_3_method_25_code
def yX1_canPawn : MethodName := ⟨RX1, "canPawn", "(III)Z"⟩
abbrev cX1_doRedeem : ByteArray := prog_3_method_26_code
def yX1_doRedeem : MethodName := ⟨RX1, "doRedeem", "(I)I"⟩
abbrev cX1_doPawn : ByteArray := prog_3_method_27_code
def yX1_doPawn : MethodName := ⟨RX1, "doPawn", "(III)V"⟩
abbrev cX1_doWeek : ByteArray := prog_3_method_28_code
def yX1_doWeek : MethodName := ⟨RX1, "doWeek", "()V"⟩
abbrev cX1_doGive : ByteArray := prog_3_method_29_code
def yX1_doGive : MethodName := ⟨RX1, "doGive", "(II)V"⟩
abbrev cX1_doByLot : ByteArray := prog_3_method_30_code
def yX1_doByLot : MethodName := ⟨RX1, "doByLot", "(I)V"⟩
abbrev cX1_undoLast : ByteArray := prog_3_method_31_code
def yX1_undoLast : MethodName := ⟨RX1, "undoLast", "()V"⟩
abbrev cX1_pay : ByteArray := prog_3_method_32_code
def yX1_pay : MethodName := ⟨RX1, "pay", "(III)V"⟩
abbrev cX1_ageTickets : ByteArray := prog_3_method_33_code
def yX1_ageTickets : MethodName := ⟨RX1, "ageTickets", "(I)V"⟩
def RX2 : String := "PawnLane$Orders"
def TX2 : u_T := fun k => match k with
  | 0 => ("PawnLane$Orders", "shops", "I", false)
  | 1 => ("PawnLane$Orders", "pawned", "I", false)
  | 2 => ("PawnLane$Orders", "cash", "[I", true)
  | 3 => ("PawnLane$Orders", "holder", "[I", true)
  | 4 => ("PawnLane$Orders", "due", "[I", true)
  | _ => ("PawnLane$Orders", "bySet", "[I", true)
def tyX2 : Nat → FieldType := fun k => match k with
  | 0 => .int
  | 1 => .int
  | 2 => .array .int
  | 3 => .array .int
  | 4 => .array .int
  | _ => .array .int
abbrev wsX20 : List Cond := u_ws RX2 TX2 6
theorem nmX2 : ∀ a, a < 6 → ∀ b, b < 6 → a ≠ b → (TX2 a).2.1 ≠ (TX2 b).2.1 := by decide +kernel
theorem tyX2_ok : ∀ k, k < 6 → parseFieldDescriptor (TX2 k).2.2.1 = some (tyX2 k) := by decide +kernel
abbrev cX2_init : ByteArray := prog_4_method_1_code
def yX2_init : MethodName := ⟨RX2, "<init>", "()V"⟩
abbrev cX2_lookAt : ByteArray := prog_4_method_2_code
def yX2_lookAt : MethodName := ⟨RX2, "lookAt", "(LPawnLane$Lane;I)V"⟩
abbrev cX2_cashAfter : ByteArray := prog_4_method_3_code
def yX2_cashAfter : MethodName := ⟨RX2, "cashAfter", "(II)I"⟩
abbrev cX2_isLeft : ByteArray := prog_4_method_4_code
def yX2_isLeft : MethodName := ⟨RX2, "isLeft", "(II)Z"⟩
abbrev cX2_goesOn : ByteArray := prog_4_method_5_code
def yX2_goesOn : MethodName := ⟨RX2, "goesOn", "(II)Z"⟩
abbrev cX2_nextAfter : ByteArray := prog_4_method_6_code
def yX2_nextAfter : MethodName := ⟨RX2, "nextAfter", "(I)I"⟩
abbrev cX2_isStep : ByteArray := prog_4_method_7_code
def yX2_isStep : MethodName := ⟨RX2, "isStep", "(II)Z"⟩
abbrev cX2_countFrom : ByteArray := prog_4_method_8_code
def yX2_countFrom : MethodName := ⟨RX2, "countFrom", "(I)V"⟩
abbrev cX2_countOf : ByteArray := prog_4_method_9_code
def yX2_countOf : MethodName := ⟨RX2, "countOf", "(I)I"⟩
abbrev cX2_largest : ByteArray := prog_4_method_10_code
def yX2_largest : MethodName := ⟨RX2, "largest", "()I"⟩
abbrev cX2_measureTo : ByteArray := prog_4_method_11_code
def yX2_measureTo : MethodName := ⟨RX2, "measureTo", "(I)V"⟩
abbrev cX2_stepsBy : ByteArray := prog_4_method_12_code
def yX2_stepsBy : MethodName := ⟨RX2, "stepsBy", "(II)I"⟩
abbrev cX2_stepsFrom : ByteArray := prog_4_method_13_code
def yX2_stepsFrom : MethodName := ⟨RX2, "stepsFrom", "(I)I"⟩
abbrev cX2_firstNearer : ByteArray := prog_4_method_14_code
def yX2_firstNearer : MethodName := ⟨RX2, "firstNearer", "(I)I"⟩
abbrev cX2_needOf : ByteArray := prog_4_method_15_code
def yX2_needOf : MethodName := ⟨RX2, "needOf", "(I)I"⟩
abbrev cX2_spreadNeed : ByteArray := prog_4_method_16_code
def yX2_spreadNeed : MethodName := ⟨RX2, "spreadNeed", "(II)V"⟩
def RX3 : String := "PawnLane$Reader"
def TX3 : u_T := fun k => match k with
  | 0 => ("PawnLane$Reader", "draft", "LPawnLane$Lane;", true)
  | 1 => ("PawnLane$Reader", "awaited", "I", false)
  | 2 => ("PawnLane$Reader", "ticketsBegan", "Z", false)
  | 3 => ("PawnLane$Reader", "pawned", "I", false)
  | _ => ("PawnLane$Reader", "holder", "I", false)
def tyX3 : Nat → FieldType := fun k => match k with
  | 0 => .object "PawnLane$Lane"
  | 1 => .int
  | 2 => .boolean
  | 3 => .int
  | _ => .int
abbrev wsX30 : List Cond := u_ws RX3 TX3 5
theorem nmX3 : ∀ a, a < 5 → ∀ b, b < 5 → a ≠ b → (TX3 a).2.1 ≠ (TX3 b).2.1 := by decide +kernel
theorem tyX3_ok : ∀ k, k < 5 → parseFieldDescriptor (TX3 k).2.2.1 = some (tyX3 k) := by decide +kernel
abbrev cX3_init : ByteArray := prog_5_method_1_code
def yX3_init : MethodName := ⟨RX3, "<init>", "()V"⟩
abbrev cX3_faultOf : ByteArray := prog_5_method_2_code
def yX3_faultOf : MethodName := ⟨RX3, "faultOf", "(LPawnLane$Sheets;I)I"⟩
abbrev cX3_takes : ByteArray := prog_5_method_3_code
def yX3_takes : MethodName := ⟨RX3, "takes", "(I)Z"⟩
abbrev cX3_beginsItem : ByteArray := prog_5_method_4_code
def yX3_beginsItem : MethodName := ⟨RX3, "beginsItem", "(I)Z"⟩
abbrev cX3_takesOfShop : ByteArray := prog_5_method_5_code
def yX3_takesOfShop : MethodName := ⟨RX3, "takesOfShop", "(I)Z"⟩
abbrev cX3_takesOfTicket : ByteArray := prog_5_method_6_code
def yX3_takesOfTicket : MethodName := ⟨RX3, "takesOfTicket", "(I)Z"⟩
abbrev cX3_kindOf : ByteArray := prog_5_method_7_code
def yX3_kindOf : MethodName := ⟨RX3, "kindOf", "(I)I"⟩
def RX4 : String := "PawnLane$Sheets"
def TX4 : u_T := fun k => match k with
  | 0 => ("PawnLane$Sheets", "width", "I", true)
  | 1 => ("PawnLane$Sheets", "sizes", "[I", true)
  | _ => ("PawnLane$Sheets", "places", "[I", true)
def tyX4 : Nat → FieldType := fun k => match k with
  | 0 => .int
  | 1 => .array .int
  | _ => .array .int
abbrev wsX40 : List Cond := u_ws RX4 TX4 3
theorem nmX4 : ∀ a, a < 3 → ∀ b, b < 3 → a ≠ b → (TX4 a).2.1 ≠ (TX4 b).2.1 := by decide +kernel
theorem tyX4_ok : ∀ k, k < 3 → parseFieldDescriptor (TX4 k).2.2.1 = some (tyX4 k) := by decide +kernel
abbrev cX4_init : ByteArray := prog_6_method_1_code
def yX4_init : MethodName := ⟨RX4, "<init>", "(II)V"⟩
abbrev cX4_isNumber : ByteArray := prog_6_method_2_code
def yX4_isNumber : MethodName := ⟨RX4, "isNumber", "(I)Z"⟩
abbrev cX4_isThere : ByteArray := prog_6_method_3_code
def yX4_isThere : MethodName := ⟨RX4, "isThere", "(I)Z"⟩
abbrev cX4_sizeOf : ByteArray := prog_6_method_4_code
def yX4_sizeOf : MethodName := ⟨RX4, "sizeOf", "(I)I"⟩
abbrev cX4_hasPlaces : ByteArray := prog_6_method_5_code
def yX4_hasPlaces : MethodName := ⟨RX4, "hasPlaces", "(III)Z"⟩
abbrev cX4_begin : ByteArray := prog_6_method_6_code
def yX4_begin : MethodName := ⟨RX4, "begin", "(III)V"⟩
abbrev cX4_remove : ByteArray := prog_6_method_7_code
def yX4_remove : MethodName := ⟨RX4, "remove", "(I)V"⟩
abbrev cX4_valueAt : ByteArray := prog_6_method_8_code
def yX4_valueAt : MethodName := ⟨RX4, "valueAt", "(II)I"⟩
abbrev cX4_setValue : ByteArray := prog_6_method_9_code
def yX4_setValue : MethodName := ⟨RX4, "setValue", "(III)V"⟩
abbrev cX4_move : ByteArray := prog_6_method_10_code
def yX4_move : MethodName := ⟨RX4, "move", "(IIIII)V"⟩
abbrev cX4_sumOf : ByteArray := prog_6_method_11_code
def yX4_sumOf : MethodName := ⟨RX4, "sumOf", "(I)J"⟩
abbrev cX4_allBelow : ByteArray := prog_6_method_12_code
def yX4_allBelow : MethodName := ⟨RX4, "allBelow", "(II)Z"⟩
abbrev cX4_howMany : ByteArray := prog_6_method_13_code
def yX4_howMany : MethodName := ⟨RX4, "howMany", "()I"⟩
abbrev cX4_digestOnto : ByteArray := prog_6_method_14_code
def yX4_digestOnto : MethodName := ⟨RX4, "digestOnto", "(J)J"⟩
def RX5 : String := "PawnLane"
def TX5 : u_T := fun k => match k with
  | 0 => ("PawnLane", "rows", "LPawnLane$Sheets;", true)
  | 1 => ("PawnLane", "texts", "LPawnLane$Sheets;", true)
  | 2 => ("PawnLane", "reader", "LPawnLane$Reader;", true)
  | 3 => ("PawnLane", "lane", "LPawnLane$Lane;", true)
  | 4 => ("PawnLane", "kept", "[LPawnLane$Lane;", true)
  | 5 => ("PawnLane", "orders", "LPawnLane$Orders;", true)
  | 6 => ("PawnLane", "findingTimes", "[I", true)
  | 7 => ("PawnLane", "latestFinding", "I", false)
  | 8 => ("PawnLane", "answer", "I", false)
  | 9 => ("PawnLane", "numerator", "J", false)
  | _ => ("PawnLane", "denominator", "J", false)
def tyX5 : Nat → FieldType := fun k => match k with
  | 0 => .object "PawnLane$Sheets"
  | 1 => .object "PawnLane$Sheets"
  | 2 => .object "PawnLane$Reader"
  | 3 => .object "PawnLane$Lane"
  | 4 => .array (.object "PawnLane$Lane")
  | 5 => .object "PawnLane$Orders"
  | 6 => .array .int
  | 7 => .int
  | 8 => .int
  | 9 => .long
  | _ => .long
abbrev wsX50 : List Cond := u_ws RX5 TX5 11
theorem nmX5 : ∀ a, a < 11 → ∀ b, b < 11 → a ≠ b → (TX5 a).2.1 ≠ (TX5 b).2.1 := by decide +kernel
theorem tyX5_ok : ∀ k, k < 11 → parseFieldDescriptor (TX5 k).2.2.1 = some (tyX5 k) := by decide +kernel
abbrev cX5_init : ByteArray := prog_1_method_1_code
def yX5_init : MethodName := ⟨RX5, "<init>", "()V"⟩
abbrev cX5_row : ByteArray := prog_1_method_2_code
def yX5_row : MethodName := ⟨RX5, "row", "(II)I"⟩
abbrev cX5_lay : ByteArray := prog_1_method_3_code
def yX5_lay : MethodName := ⟨RX5, "lay", "(III)I"⟩
abbrev cX5_at : ByteArray := prog_1_method_4_code
def yX5_at : MethodName := ⟨RX5, "at", "(II)I"⟩
abbrev cX5_tear : ByteArray := prog_1_method_5_code
def yX5_tear : MethodName := ⟨RX5, "tear", "(I)I"⟩
abbrev cX5_copy : ByteArray := prog_1_method_6_code
def yX5_copy : MethodName := ⟨RX5, "copy", "(IIIII)I"⟩
abbrev cX5_mean : ByteArray := prog_1_method_7_code
def yX5_mean : MethodName := ⟨RX5, "mean", "(I)I"⟩
abbrev cX5_text : ByteArray := prog_1_method_8_code
def yX5_text : MethodName := ⟨RX5, "text", "(II)I"⟩
abbrev cX5_put : ByteArray := prog_1_method_9_code
def yX5_put : MethodName := ⟨RX5, "put", "(III)I"⟩
abbrev cX5_fault : ByteArray := prog_1_method_10_code
def yX5_fault : MethodName := ⟨RX5, "fault", "(I)I"⟩
abbrev cX5_lane : ByteArray := prog_1_method_11_code
def yX5_lane : MethodName := ⟨RX5, "lane", "(I)I"⟩
abbrev cX5_shop : ByteArray := prog_1_method_12_code
def yX5_shop : MethodName := ⟨RX5, "shop", "(II)I"⟩
abbrev cX5_mark : ByteArray := prog_1_method_13_code
def yX5_mark : MethodName := ⟨RX5, "mark", "(II)I"⟩
abbrev cX5_stock : ByteArray := prog_1_method_14_code
def yX5_stock : MethodName := ⟨RX5, "stock", "(II)I"⟩
abbrev cX5_redeem : ByteArray := prog_1_method_15_code
def yX5_redeem : MethodName := ⟨RX5, "redeem", "(I)I"⟩
abbrev cX5_pawn : ByteArray := prog_1_method_16_code
def yX5_pawn : MethodName := ⟨RX5, "pawn", "(III)I"⟩
abbrev cX5_week : ByteArray := prog_1_method_17_code
def yX5_week : MethodName := ⟨RX5, "week", "()I"⟩
abbrev cX5_give : ByteArray := prog_1_method_18_code
def yX5_give : MethodName := ⟨RX5, "give", "(II)I"⟩
abbrev cX5_undo : ByteArray := prog_1_method_19_code
def yX5_undo : MethodName := ⟨RX5, "undo", "(I)I"⟩
abbrev cX5_keep : ByteArray := prog_1_method_20_code
def yX5_keep : MethodName := ⟨RX5, "keep", "(I)I"⟩
abbrev cX5_on : ByteArray := prog_1_method_21_code
def yX5_on : MethodName := ⟨RX5, "on", "(I)I"⟩
abbrev cX5_deep : ByteArray := prog_1_method_22_code
def yX5_deep : MethodName := ⟨RX5, "deep", "(I)I"⟩
abbrev cX5_inside : ByteArray := prog_1_method_23_code
def yX5_inside : MethodName := ⟨RX5, "inside", "(I)I"⟩
abbrev cX5_rings : ByteArray := prog_1_method_24_code
def yX5_rings : MethodName := ⟨RX5, "rings", "()I"⟩
abbrev cX5_goods : ByteArray := prog_1_method_25_code
def yX5_goods : MethodName := ⟨RX5, "goods", "(I)I"⟩
abbrev cX5_hangs : ByteArray := prog_1_method_26_code
def yX5_hangs : MethodName := ⟨RX5, "hangs", "()I"⟩
abbrev cX5_worth : ByteArray := prog_1_method_27_code
def yX5_worth : MethodName := ⟨RX5, "worth", "(I)I"⟩
abbrev cX5_chalk : ByteArray := prog_1_method_28_code
def yX5_chalk : MethodName := ⟨RX5, "chalk", "(II)I"⟩
abbrev cX5_can : ByteArray := prog_1_method_29_code
def yX5_can : MethodName := ⟨RX5, "can", "()I"⟩
abbrev cX5_order : ByteArray := prog_1_method_30_code
def yX5_order : MethodName := ⟨RX5, "order", "(I)I"⟩
abbrev cX5_ways : ByteArray := prog_1_method_31_code
def yX5_ways : MethodName := ⟨RX5, "ways", "()I"⟩
abbrev cX5_most : ByteArray := prog_1_method_32_code
def yX5_most : MethodName := ⟨RX5, "most", "()I"⟩
abbrev cX5_least : ByteArray := prog_1_method_33_code
def yX5_least : MethodName := ⟨RX5, "least", "()I"⟩
abbrev cX5_free : ByteArray := prog_1_method_34_code
def yX5_free : MethodName := ⟨RX5, "free", "(II)I"⟩
abbrev cX5_till : ByteArray := prog_1_method_35_code
def yX5_till : MethodName := ⟨RX5, "till", "()I"⟩
abbrev cX5_run : ByteArray := prog_1_method_36_code
def yX5_run : MethodName := ⟨RX5, "run", "(I)I"⟩
abbrev cX5_shuts : ByteArray := prog_1_method_37_code
def yX5_shuts : MethodName := ⟨RX5, "shuts", "(I)I"⟩
abbrev cX5_missing : ByteArray := prog_1_method_38_code
def yX5_missing : MethodName := ⟨RX5, "missing", "(I)I"⟩
abbrev cX5_through : ByteArray := prog_1_method_39_code
def yX5_through : MethodName := ⟨RX5, "through", "(I)I"⟩
abbrev cX5_odds : ByteArray := prog_1_method_40_code
def yX5_odds : MethodName := ⟨RX5, "odds", "(I)I"⟩
abbrev cX5_lots : ByteArray := prog_1_method_41_code
def yX5_lots : MethodName := ⟨RX5, "lots", "(II)I"⟩
abbrev cX5_asked : ByteArray := prog_1_method_42_code
def yX5_asked : MethodName := ⟨RX5, "asked", "()I"⟩
abbrev cX5_upper : ByteArray := prog_1_method_43_code
def yX5_upper : MethodName := ⟨RX5, "upper", "()J"⟩
abbrev cX5_lower : ByteArray := prog_1_method_44_code
def yX5_lower : MethodName := ⟨RX5, "lower", "()J"⟩
abbrev cX5_count : ByteArray := prog_1_method_45_code
def yX5_count : MethodName := ⟨RX5, "count", "(I)I"⟩
abbrev cX5_finding : ByteArray := prog_1_method_46_code
def yX5_finding : MethodName := ⟨RX5, "finding", "()I"⟩
abbrev cX5_findings : ByteArray := prog_1_method_47_code
def yX5_findings : MethodName := ⟨RX5, "findings", "(I)I"⟩
abbrev cX5_digest : ByteArray := prog_1_method_48_code
def yX5_digest : MethodName := ⟨RX5, "digest", "()J"⟩
abbrev cX5_found : ByteArray := prog_1_method_49_code
def yX5_found : MethodName := ⟨RX5, "found", "(I)I"⟩
abbrev cX5_refusalOfSheet : ByteArray := prog_1_method_50_code
def yX5_refusalOfSheet : MethodName := ⟨RX5, "refusalOfSheet", "(LPawnLane$Sheets;I)I"⟩
abbrev cX5_refusalOfPlace : ByteArray := prog_1_method_51_code
def yX5_refusalOfPlace : MethodName := ⟨RX5, "refusalOfPlace", "(LPawnLane$Sheets;II)I"⟩
abbrev cX5_refusalOfAside : ByteArray := prog_1_method_52_code
def yX5_refusalOfAside : MethodName := ⟨RX5, "refusalOfAside", "(I)I"⟩
abbrev cX5_refusalOfOrder : ByteArray := prog_1_method_53_code
def yX5_refusalOfOrder : MethodName := ⟨RX5, "refusalOfOrder", "(I)I"⟩
abbrev cX5_refusalOfSets : ByteArray := prog_1_method_54_code
def yX5_refusalOfSets : MethodName := ⟨RX5, "refusalOfSets", "(I)I"⟩
abbrev cX5_firstOrderTo : ByteArray := prog_1_method_55_code
def yX5_firstOrderTo : MethodName := ⟨RX5, "firstOrderTo", "(II)I"⟩
abbrev cX5_tell : ByteArray := prog_1_method_56_code
def yX5_tell : MethodName := ⟨RX5, "tell", "(JJ)V"⟩
abbrev cX5_toldOfShop : ByteArray := prog_1_method_57_code
def yX5_toldOfShop : MethodName := ⟨RX5, "toldOfShop", "(II)I"⟩
abbrev cX5_counted : ByteArray := prog_1_method_58_code
def yX5_counted : MethodName := ⟨RX5, "counted", "(I)I"⟩
abbrev cX5_keptLanes : ByteArray := prog_1_method_59_code
def yX5_keptLanes : MethodName := ⟨RX5, "keptLanes", "()I"⟩
abbrev cX5_isIn : ByteArray := prog_1_method_60_code
def yX5_isIn : MethodName := ⟨RX5, "isIn", "(II)Z"⟩
abbrev cX5_isOfKind : ByteArray := prog_1_method_61_code
def yX5_isOfKind : MethodName := ⟨RX5, "isOfKind", "(II)Z"⟩
abbrev cX5_dueWith : ByteArray := prog_1_method_62_code
def yX5_dueWith : MethodName := ⟨RX5, "dueWith", "(III)I"⟩
abbrev cX5_chalked : ByteArray := prog_1_method_63_code
def yX5_chalked : MethodName := ⟨RX5, "chalked", "(LPawnLane$Lane;II)I"⟩
abbrev cX5_power : ByteArray := prog_1_method_64_code
def yX5_power : MethodName := ⟨RX5, "power", "(II)J"⟩
abbrev cX5_commonDivisor : ByteArray := prog_1_method_65_code
def yX5_commonDivisor : MethodName := ⟨RX5, "commonDivisor", "(JJ)J"⟩
def RX6 : String := "PawnLaneModel"
def TX6 : u_T := fun k => match k with
  | 0 => ("PawnLaneModel", "row", "[I", true)
  | 1 => ("PawnLaneModel", "shops", "I", false)
  | 2 => ("PawnLaneModel", "kinds", "[I", true)
  | 3 => ("PawnLaneModel", "sizes", "[I", true)
  | 4 => ("PawnLaneModel", "items", "[I", true)
  | 5 => ("PawnLaneModel", "lengths", "[I", true)
  | 6 => ("PawnLaneModel", "bytes", "[I", true)
  | 7 => ("PawnLaneModel", "asked", "I", false)
  | 8 => ("PawnLaneModel", "upper", "J", false)
  | 9 => ("PawnLaneModel", "lower", "J", false)
  | 10 => ("PawnLaneModel", "finding", "I", false)
  | 11 => ("PawnLaneModel", "findings", "[I", true)
  | 12 => ("PawnLaneModel", "from", "I", false)
  | 13 => ("PawnLaneModel", "place", "I", false)
  | 14 => ("PawnLaneModel", "end", "I", false)
  | 15 => ("PawnLaneModel", "readShops", "[I", true)
  | 16 => ("PawnLaneModel", "readMany", "I", false)
  | 17 => ("PawnLaneModel", "readTickets", "I", false)
  | 18 => ("PawnLaneModel", "chalked", "[I", true)
  | 19 => ("PawnLaneModel", "more", "[I", true)
  | 20 => ("PawnLaneModel", "due", "[I", true)
  | 21 => ("PawnLaneModel", "cash", "[I", true)
  | 22 => ("PawnLaneModel", "all", "I", false)
  | 23 => ("PawnLaneModel", "ways", "[J", true)
  | 24 => ("PawnLaneModel", "on", "[J", true)
  | _ => ("PawnLaneModel", "soon", "[I", true)
def tyX6 : Nat → FieldType := fun k => match k with
  | 0 => .array .int
  | 1 => .int
  | 2 => .array .int
  | 3 => .array .int
  | 4 => .array .int
  | 5 => .array .int
  | 6 => .array .int
  | 7 => .int
  | 8 => .long
  | 9 => .long
  | 10 => .int
  | 11 => .array .int
  | 12 => .int
  | 13 => .int
  | 14 => .int
  | 15 => .array .int
  | 16 => .int
  | 17 => .int
  | 18 => .array .int
  | 19 => .array .int
  | 20 => .array .int
  | 21 => .array .int
  | 22 => .int
  | 23 => .array .long
  | 24 => .array .long
  | _ => .array .int
abbrev wsX60 : List Cond := u_ws RX6 TX6 26
theorem nmX6 : ∀ a, a < 26 → ∀ b, b < 26 → a ≠ b → (TX6 a).2.1 ≠ (TX6 b).2.1 := by decide +kernel
theorem tyX6_ok : ∀ k, k < 26 → parseFieldDescriptor (TX6 k).2.2.1 = some (tyX6 k) := by decide +kernel
abbrev cX6_init : ByteArray := prog_8_method_1_code
def yX6_init : MethodName := ⟨RX6, "<init>", "()V"⟩
abbrev cX6_bits : ByteArray := prog_8_method_2_code
def yX6_bits : MethodName := ⟨RX6, "bits", "(I)I"⟩
abbrev cX6_in : ByteArray := prog_8_method_3_code
def yX6_in : MethodName := ⟨RX6, "in", "(JJJ)Z"⟩
abbrev cX6_has : ByteArray := prog_8_method_4_code
def yX6_has : MethodName := ⟨RX6, "has", "(II)Z"⟩
abbrev cX6_find : ByteArray := prog_8_method_5_code
def yX6_find : MethodName := ⟨RX6, "find", "(I)I"⟩
abbrev cX6_tell : ByteArray := prog_8_method_6_code
def yX6_tell : MethodName := ⟨RX6, "tell", "(I)I"⟩
abbrev cX6_isRow : ByteArray := prog_8_method_7_code
def yX6_isRow : MethodName := ⟨RX6, "isRow", "(I)Z"⟩
abbrev cX6_isText : ByteArray := prog_8_method_8_code
def yX6_isText : MethodName := ⟨RX6, "isText", "(I)Z"⟩
abbrev cX6_row : ByteArray := prog_8_method_9_code
def yX6_row : MethodName := ⟨RX6, "row", "(II)I"⟩
abbrev cX6_makeRow : ByteArray := prog_8_method_10_code
def yX6_makeRow : MethodName := ⟨RX6, "makeRow", "(II)V"⟩
abbrev cX6_refused : ByteArray := prog_8_method_11_code
def yX6_refused : MethodName := ⟨RX6, "refused", "(II)I"⟩
abbrev cX6_lay : ByteArray := prog_8_method_12_code
def yX6_lay : MethodName := ⟨RX6, "lay", "(III)I"⟩
abbrev cX6_at : ByteArray := prog_8_method_13_code
def yX6_at : MethodName := ⟨RX6, "at", "(II)I"⟩
abbrev cX6_tear : ByteArray := prog_8_method_14_code
def yX6_tear : MethodName := ⟨RX6, "tear", "(I)I"⟩
abbrev cX6_isSpan : ByteArray := prog_8_method_15_code
def yX6_isSpan : MethodName := ⟨RX6, "isSpan", "(III)Z"⟩
abbrev cX6_copy : ByteArray := prog_8_method_16_code
def yX6_copy : MethodName := ⟨RX6, "copy", "(IIIII)I"⟩
abbrev cX6_mean : ByteArray := prog_8_method_17_code
def yX6_mean : MethodName := ⟨RX6, "mean", "(I)I"⟩
abbrev cX6_text : ByteArray := prog_8_method_18_code
def yX6_text : MethodName := ⟨RX6, "text", "(II)I"⟩
abbrev cX6_put : ByteArray := prog_8_method_19_code
def yX6_put : MethodName := ⟨RX6, "put", "(III)I"⟩
abbrev cX6_here : ByteArray := prog_8_method_20_code
def yX6_here : MethodName := ⟨RX6, "here", "()I"⟩
abbrev cX6_skip : ByteArray := prog_8_method_21_code
def yX6_skip : MethodName := ⟨RX6, "skip", "()V"⟩
abbrev cX6_figure : ByteArray := prog_8_method_22_code
def yX6_figure : MethodName := ⟨RX6, "figure", "(III)I"⟩
abbrev cX6_kindOfLetter : ByteArray := prog_8_method_23_code
def yX6_kindOfLetter : MethodName := ⟨RX6, "kindOfLetter", "(I)I"⟩
abbrev cX6_readsShop : ByteArray := prog_8_method_24_code
def yX6_readsShop : MethodName := ⟨RX6, "readsShop", "()Z"⟩
abbrev cX6_readsTicket : ByteArray := prog_8_method_25_code
def yX6_readsTicket : MethodName := ⟨RX6, "readsTicket", "()Z"⟩
abbrev cX6_faultOf : ByteArray := prog_8_method_26_code
def yX6_faultOf : MethodName := ⟨RX6, "faultOf", "(I)I"⟩
abbrev cX6_fault : ByteArray := prog_8_method_27_code
def yX6_fault : MethodName := ⟨RX6, "fault", "(I)I"⟩
abbrev cX6_lane : ByteArray := prog_8_method_28_code
def yX6_lane : MethodName := ⟨RX6, "lane", "(I)I"⟩
abbrev cX6_isShop : ByteArray := prog_8_method_29_code
def yX6_isShop : MethodName := ⟨RX6, "isShop", "(I)Z"⟩
abbrev cX6_isPawned : ByteArray := prog_8_method_30_code
def yX6_isPawned : MethodName := ⟨RX6, "isPawned", "(I)Z"⟩
abbrev cX6_dueIn : ByteArray := prog_8_method_31_code
def yX6_dueIn : MethodName := ⟨RX6, "dueIn", "(II)I"⟩
abbrev cX6_heldBy : ByteArray := prog_8_method_32_code
def yX6_heldBy : MethodName := ⟨RX6, "heldBy", "(I)I"⟩
abbrev cX6_pawned : ByteArray := prog_8_method_33_code
def yX6_pawned : MethodName := ⟨RX6, "pawned", "()I"⟩
abbrev cX6_dueTo : ByteArray := prog_8_method_34_code
def yX6_dueTo : MethodName := ⟨RX6, "dueTo", "(II)I"⟩
abbrev cX6_loansTo : ByteArray := prog_8_method_35_code
def yX6_loansTo : MethodName := ⟨RX6, "loansTo", "(I)I"⟩
abbrev cX6_toldOf : ByteArray := prog_8_method_36_code
def yX6_toldOf : MethodName := ⟨RX6, "toldOf", "(II)I"⟩
abbrev cX6_shop : ByteArray := prog_8_method_37_code
def yX6_shop : MethodName := ⟨RX6, "shop", "(II)I"⟩
abbrev cX6_isOf : ByteArray := prog_8_method_38_code
def yX6_isOf : MethodName := ⟨RX6, "isOf", "(II)Z"⟩
abbrev cX6_canNow : ByteArray := prog_8_method_39_code
def yX6_canNow : MethodName := ⟨RX6, "canNow", "()I"⟩
abbrev cX6_mark : ByteArray := prog_8_method_40_code
def yX6_mark : MethodName := ⟨RX6, "mark", "(II)I"⟩
abbrev cX6_stock : ByteArray := prog_8_method_41_code
def yX6_stock : MethodName := ⟨RX6, "stock", "(II)I"⟩
abbrev cX6_keepPast : ByteArray := prog_8_method_42_code
def yX6_keepPast : MethodName := ⟨RX6, "keepPast", "()V"⟩
abbrev cX6_doRedeem : ByteArray := prog_8_method_43_code
def yX6_doRedeem : MethodName := ⟨RX6, "doRedeem", "(I)I"⟩
abbrev cX6_redeem : ByteArray := prog_8_method_44_code
def yX6_redeem : MethodName := ⟨RX6, "redeem", "(I)I"⟩
abbrev cX6_doPawn : ByteArray := prog_8_method_45_code
def yX6_doPawn : MethodName := ⟨RX6, "doPawn", "(III)V"⟩
abbrev cX6_pawn : ByteArray := prog_8_method_46_code
def yX6_pawn : MethodName := ⟨RX6, "pawn", "(III)I"⟩
abbrev cX6_isOld : ByteArray := prog_8_method_47_code
def yX6_isOld : MethodName := ⟨RX6, "isOld", "()Z"⟩
abbrev cX6_doWeek : ByteArray := prog_8_method_48_code
def yX6_doWeek : MethodName := ⟨RX6, "doWeek", "()V"⟩
abbrev cX6_dueInAll : ByteArray := prog_8_method_49_code
def yX6_dueInAll : MethodName := ⟨RX6, "dueInAll", "()I"⟩
abbrev cX6_week : ByteArray := prog_8_method_50_code
def yX6_week : MethodName := ⟨RX6, "week", "()I"⟩
abbrev cX6_doGive : ByteArray := prog_8_method_51_code
def yX6_doGive : MethodName := ⟨RX6, "doGive", "(II)I"⟩
abbrev cX6_give : ByteArray := prog_8_method_52_code
def yX6_give : MethodName := ⟨RX6, "give", "(II)I"⟩
abbrev cX6_undo : ByteArray := prog_8_method_53_code
def yX6_undo : MethodName := ⟨RX6, "undo", "(I)I"⟩
abbrev cX6_copyLane : ByteArray := prog_8_method_54_code
def yX6_copyLane : MethodName := ⟨RX6, "copyLane", "(II)V"⟩
abbrev cX6_keep : ByteArray := prog_8_method_55_code
def yX6_keep : MethodName := ⟨RX6, "keep", "(I)I"⟩
abbrev cX6_on : ByteArray := prog_8_method_56_code
def yX6_on : MethodName := ⟨RX6, "on", "(I)I"⟩
abbrev cX6_deep : ByteArray := prog_8_method_57_code
def yX6_deep : MethodName := ⟨RX6, "deep", "(I)I"⟩
abbrev cX6_insideOf : ByteArray := prog_8_method_58_code
def yX6_insideOf : MethodName := ⟨RX6, "insideOf", "(I)I"⟩
abbrev cX6_inside : ByteArray := prog_8_method_59_code
def yX6_inside : MethodName := ⟨RX6, "inside", "(I)I"⟩
abbrev cX6_ringOf : ByteArray := prog_8_method_60_code
def yX6_ringOf : MethodName := ⟨RX6, "ringOf", "(I)I"⟩
abbrev cX6_rings : ByteArray := prog_8_method_61_code
def yX6_rings : MethodName := ⟨RX6, "rings", "()I"⟩
abbrev cX6_goods : ByteArray := prog_8_method_62_code
def yX6_goods : MethodName := ⟨RX6, "goods", "(I)I"⟩
abbrev cX6_hangs : ByteArray := prog_8_method_63_code
def yX6_hangs : MethodName := ⟨RX6, "hangs", "()I"⟩
abbrev cX6_worth : ByteArray := prog_8_method_64_code
def yX6_worth : MethodName := ⟨RX6, "worth", "(I)I"⟩
abbrev cX6_chalk : ByteArray := prog_8_method_65_code
def yX6_chalk : MethodName := ⟨RX6, "chalk", "(II)I"⟩
abbrev cX6_layTried : ByteArray := prog_8_method_66_code
def yX6_layTried : MethodName := ⟨RX6, "layTried", "(II)V"⟩
abbrev cX6_cashBy : ByteArray := prog_8_method_67_code
def yX6_cashBy : MethodName := ⟨RX6, "cashBy", "(II)I"⟩
abbrev cX6_next : ByteArray := prog_8_method_68_code
def yX6_next : MethodName := ⟨RX6, "next", "(II)Z"⟩
abbrev cX6_layWays : ByteArray := prog_8_method_69_code
def yX6_layWays : MethodName := ⟨RX6, "layWays", "()V"⟩
abbrev cX6_layOn : ByteArray := prog_8_method_70_code
def yX6_layOn : MethodName := ⟨RX6, "layOn", "()V"⟩
abbrev cX6_canAll : ByteArray := prog_8_method_71_code
def yX6_canAll : MethodName := ⟨RX6, "canAll", "()Z"⟩
abbrev cX6_can : ByteArray := prog_8_method_72_code
def yX6_can : MethodName := ⟨RX6, "can", "()I"⟩
abbrev cX6_order : ByteArray := prog_8_method_73_code
def yX6_order : MethodName := ⟨RX6, "order", "(I)I"⟩
abbrev cX6_tellMany : ByteArray := prog_8_method_74_code
def yX6_tellMany : MethodName := ⟨RX6, "tellMany", "(J)I"⟩
abbrev cX6_ways : ByteArray := prog_8_method_75_code
def yX6_ways : MethodName := ⟨RX6, "ways", "()I"⟩
abbrev cX6_most : ByteArray := prog_8_method_76_code
def yX6_most : MethodName := ⟨RX6, "most", "()I"⟩
abbrev cX6_least : ByteArray := prog_8_method_77_code
def yX6_least : MethodName := ⟨RX6, "least", "()I"⟩
abbrev cX6_free : ByteArray := prog_8_method_78_code
def yX6_free : MethodName := ⟨RX6, "free", "(II)I"⟩
abbrev cX6_till : ByteArray := prog_8_method_79_code
def yX6_till : MethodName := ⟨RX6, "till", "()I"⟩
abbrev cX6_noRow : ByteArray := prog_8_method_80_code
def yX6_noRow : MethodName := ⟨RX6, "noRow", "(III)I"⟩
abbrev cX6_run : ByteArray := prog_8_method_81_code
def yX6_run : MethodName := ⟨RX6, "run", "(I)I"⟩
abbrev cX6_shuts : ByteArray := prog_8_method_82_code
def yX6_shuts : MethodName := ⟨RX6, "shuts", "(I)I"⟩
abbrev cX6_missing : ByteArray := prog_8_method_83_code
def yX6_missing : MethodName := ⟨RX6, "missing", "(I)I"⟩
abbrev cX6_through : ByteArray := prog_8_method_84_code
def yX6_through : MethodName := ⟨RX6, "through", "(I)I"⟩
abbrev cX6_tellParts : ByteArray := prog_8_method_85_code
def yX6_tellParts : MethodName := ⟨RX6, "tellParts", "(JJ)I"⟩
abbrev cX6_odds : ByteArray := prog_8_method_86_code
def yX6_odds : MethodName := ⟨RX6, "odds", "(I)I"⟩
abbrev cX6_doLot : ByteArray := prog_8_method_87_code
def yX6_doLot : MethodName := ⟨RX6, "doLot", "(J)V"⟩
abbrev cX6_lots : ByteArray := prog_8_method_88_code
def yX6_lots : MethodName := ⟨RX6, "lots", "(II)I"⟩
abbrev cX6_asked : ByteArray := prog_8_method_89_code
def yX6_asked : MethodName := ⟨RX6, "asked", "()I"⟩
abbrev cX6_upper : ByteArray := prog_8_method_90_code
def yX6_upper : MethodName := ⟨RX6, "upper", "()J"⟩
abbrev cX6_lower : ByteArray := prog_8_method_91_code
def yX6_lower : MethodName := ⟨RX6, "lower", "()J"⟩
abbrev cX6_cashOfAll : ByteArray := prog_8_method_92_code
def yX6_cashOfAll : MethodName := ⟨RX6, "cashOfAll", "()I"⟩
abbrev cX6_hawks : ByteArray := prog_8_method_93_code
def yX6_hawks : MethodName := ⟨RX6, "hawks", "()I"⟩
abbrev cX6_thereOf : ByteArray := prog_8_method_94_code
def yX6_thereOf : MethodName := ⟨RX6, "thereOf", "(I)I"⟩
abbrev cX6_countOf : ByteArray := prog_8_method_95_code
def yX6_countOf : MethodName := ⟨RX6, "countOf", "(I)I"⟩
abbrev cX6_count : ByteArray := prog_8_method_96_code
def yX6_count : MethodName := ⟨RX6, "count", "(I)I"⟩
abbrev cX6_finding : ByteArray := prog_8_method_97_code
def yX6_finding : MethodName := ⟨RX6, "finding", "()I"⟩
abbrev cX6_findings : ByteArray := prog_8_method_98_code
def yX6_findings : MethodName := ⟨RX6, "findings", "(I)I"⟩
abbrev cX6_digest : ByteArray := prog_8_method_99_code
def yX6_digest : MethodName := ⟨RX6, "digest", "()J"⟩
def RJ6 : String := "java/lang/Integer"
def TJ6 : u_T := fun k => match k with
  | _ => ("", "", "", false)
def tyJ6 : Nat → FieldType := fun k => match k with
  | _ => .int
abbrev wsJ60 : List Cond := u_ws RJ6 TJ6 0
theorem nmJ6 : ∀ a, a < 0 → ∀ b, b < 0 → a ≠ b → (TJ6 a).2.1 ≠ (TJ6 b).2.1 := by decide +kernel
theorem tyJ6_ok : ∀ k, k < 0 → parseFieldDescriptor (TJ6 k).2.2.1 = some (tyJ6 k) := by decide +kernel
abbrev cJ6_numberOfTrailingZeros_0f7a4 : ByteArray := prog_9_method_48_code
def yJ6_numberOfTrailingZeros_0f7a4 : MethodName := ⟨RJ6, "numberOfTrailingZeros", "(I)I"⟩
abbrev cJ6_bitCount_0f7a4 : ByteArray := prog_9_method_49_code
def yJ6_bitCount_0f7a4 : MethodName := ⟨RJ6, "bitCount", "(I)I"⟩
def RJ9 : String := "java/lang/Math"
def TJ9 : u_T := fun k => match k with
  | _ => ("", "", "", false)
def tyJ9 : Nat → FieldType := fun k => match k with
  | _ => .int
abbrev wsJ90 : List Cond := u_ws RJ9 TJ9 0
theorem nmJ9 : ∀ a, a < 0 → ∀ b, b < 0 → a ≠ b → (TJ9 a).2.1 ≠ (TJ9 b).2.1 := by decide +kernel
theorem tyJ9_ok : ∀ k, k < 0 → parseFieldDescriptor (TJ9 k).2.2.1 = some (tyJ9 k) := by decide +kernel
abbrev cJ9_max_7cf53 : ByteArray := prog_10_method_65_code
def yJ9_max_7cf53 : MethodName := ⟨RJ9, "max", "(II)I"⟩
abbrev cJ9_max_f86c9 : ByteArray := prog_10_method_66_code
def yJ9_max_f86c9 : MethodName := ⟨RJ9, "max", "(JJ)J"⟩
abbrev cJ9_min_7cf53 : ByteArray := prog_10_method_69_code
def yJ9_min_7cf53 : MethodName := ⟨RJ9, "min", "(II)I"⟩
def RJ10 : String := "java/lang/System"
def TJ10 : u_T := fun k => match k with
  | _ => ("", "", "", false)
def tyJ10 : Nat → FieldType := fun k => match k with
  | _ => .int
abbrev wsJ100 : List Cond := u_ws RJ10 TJ10 0
theorem nmJ10 : ∀ a, a < 0 → ∀ b, b < 0 → a ≠ b → (TJ10 a).2.1 ≠ (TJ10 b).2.1 := by decide +kernel
theorem tyJ10_ok : ∀ k, k < 0 → parseFieldDescriptor (TJ10 k).2.2.1 = some (tyJ10 k) := by decide +kernel
def RJ7 : String := "java/util/Arrays"
def TJ7 : u_T := fun k => match k with
  | _ => ("", "", "", false)
def tyJ7 : Nat → FieldType := fun k => match k with
  | _ => .int
abbrev wsJ70 : List Cond := u_ws RJ7 TJ7 0
theorem nmJ7 : ∀ a, a < 0 → ∀ b, b < 0 → a ≠ b → (TJ7 a).2.1 ≠ (TJ7 b).2.1 := by decide +kernel
theorem tyJ7_ok : ∀ k, k < 0 → parseFieldDescriptor (TJ7 k).2.2.1 = some (tyJ7 k) := by decide +kernel
abbrev cJ7_fill_53178 : ByteArray := prog_12_method_103_code
def yJ7_fill_53178 : MethodName := ⟨RJ7, "fill", "([II)V"⟩
def RL : String := "PawnLaneLaw"
abbrev cL_law : ByteArray := code
abbrev vwCl : List vw_C := [(RX0, TX0, 2), (RX1, TX1, 8), (RX2, TX2, 6), (RX3, TX3, 5), (RX4, TX4, 3), (RX5, TX5, 11), (RX6, TX6, 26)]
end
section
/-! the words that hold all along: those of the tables that are kept -/
def TBL : List Cond := lw_tbl.filter goodWord
theorem tbl_good {w : Cond} (h : w ∈ TBL) : w ∈ lw_tbl ∧ ((w.onTables && w.keeps) = true ∨ ∃ ty, w = .arrayClass ty) := ⟨(List.mem_filter.mp h).1, good_of_word (List.mem_filter.mp h).2⟩
theorem tbl_sel {i : Nat} {w : Cond} (h : (k2_sels lw_privs)[i]? = some w) (g : goodWord w = true) : w ∈ TBL := List.mem_filter.mpr ⟨List.mem_append_left _ (List.mem_of_getElem? h), g⟩
theorem tbl_1 {i : Nat} {w : Cond} (h : tables_1_1[i]? = some w) (g : goodWord w = true) : w ∈ TBL := List.mem_filter.mpr ⟨List.mem_append_right _ (List.mem_append_left _ (List.mem_of_getElem? h)), g⟩
theorem tbl_2 {i : Nat} {w : Cond} (h : tables_1_2[i]? = some w) (g : goodWord w = true) : w ∈ TBL := List.mem_filter.mpr ⟨List.mem_append_right _ (List.mem_append_right _ (List.mem_append_left _ (List.mem_of_getElem? h))), g⟩
theorem tbl_3 {i : Nat} {w : Cond} (h : tables_1_3[i]? = some w) (g : goodWord w = true) : w ∈ TBL := List.mem_filter.mpr ⟨List.mem_append_right _ (List.mem_append_right _ (List.mem_append_right _ (List.mem_append_left _ (List.mem_of_getElem? h)))), g⟩
theorem tbl_4 {i : Nat} {w : Cond} (h : tables_1_4[i]? = some w) (g : goodWord w = true) : w ∈ TBL := List.mem_filter.mpr ⟨List.mem_append_right _ (List.mem_append_right _ (List.mem_append_right _ (List.mem_append_right _ (List.mem_append_left _ (List.mem_of_getElem? h))))), g⟩
theorem tbl_5 {i : Nat} {w : Cond} (h : tables_1_5[i]? = some w) (g : goodWord w = true) : w ∈ TBL := List.mem_filter.mpr ⟨List.mem_append_right _ (List.mem_append_right _ (List.mem_append_right _ (List.mem_append_right _ (List.mem_append_right _ (List.mem_append_left _ (List.mem_of_getElem? h)))))), g⟩
theorem tbl_6 {i : Nat} {w : Cond} (h : tables_1_6[i]? = some w) (g : goodWord w = true) : w ∈ TBL := List.mem_filter.mpr ⟨List.mem_append_right _ (List.mem_append_right _ (List.mem_append_right _ (List.mem_append_right _ (List.mem_append_right _ (List.mem_append_right _ (List.mem_of_getElem? h)))))), g⟩
theorem good_V {own C : String} {idx : Nat} {y : MethodName} {cd : Cond} (h1 : Cond.methodLink own idx y ∈ TBL) (h2 : Cond.instanceMethod y ∈ TBL) (h3 : Cond.selects C y y ∈ TBL) (h4 : Cond.initialized C ∈ TBL) (h5 : cd ∈ TBL) : GoodIn TBL (wsV own idx C y (cd :: TBL)) := by
  intro w hw
  have hm : w ∈ TBL := by
    rcases List.mem_append.mp hw with h | h
    · rcases List.mem_cons.mp h with rfl | h
      · exact h1
      · rcases List.mem_cons.mp h with rfl | h
        · exact h2
        · rcases List.mem_cons.mp h with rfl | h
          · exact h3
          · rcases List.mem_cons.mp h with rfl | h
            · exact h4
            · exact absurd h List.not_mem_nil
    · rcases List.mem_cons.mp h with rfl | h
      · exact h5
      · exact h
  exact ⟨hm, (tbl_good hm).2⟩
theorem good_C {cd : Cond} (h5 : cd ∈ TBL) : GoodIn TBL (cd :: TBL) := by
  intro w hw
  have hm : w ∈ TBL := by
    rcases List.mem_cons.mp hw with rfl | h
    · exact h5
    · exact h
  exact ⟨hm, (tbl_good hm).2⟩
/-! the words of nest mates -/
def nst : List (String × Nat × MethodName) := [("PawnLane$Lane", 66, yX5_isIn), ("PawnLane$Lane", 70, yX5_dueWith), ("PawnLane$Lane", 78, yX5_isOfKind), ("PawnLane$Orders", 44, yX5_isIn), ("PawnLane", 23, yX3_init), ("PawnLane", 30, yX1_init), ("PawnLane", 41, yX2_init), ("PawnLane$Lane", 36, yX0_init), ("PawnLane$Reader", 11, yX1_init)]
def NW (U : State) : Prop := ∀ q ∈ nst, va_Nw (.methodLinkNest q.1 q.2.1 q.2.2 "PawnLane") U
theorem NW.warm {s U : State} (h : NW s) (hW : s.WarmedH U.vm) : NW U := fun q hq => va_Nw.warmM hW (h q hq)
theorem NW.same {s U : State} (h : NW s) (hv : s.vm = U.vm) : NW U := fun q hq => va_Nw.same rfl hv (h q hq)
/-! the state: whole numbers and long ones, by cell and place -/
abbrev SX : Type := (Nat → Nat → Int32) × (Nat → Nat → Int64)
def wR (M : SX) (k : Nat) (f : Nat → Int32) : SX := (fun a => if a = k then f else M.1 a, M.2)
def wL (M : SX) (k : Nat) (f : Nat → Int64) : SX := (M.1, fun a => if a = k then f else M.2 a)
def wI (M : SX) (k j : Nat) (v : Int32) : SX := wR M k (upd (M.1 k) j v)
def wJ (M : SX) (k j : Nat) (v : Int64) : SX := wL M k (vp_updL (M.2 k) j v)
/-- a cell's shape: an object (its number among vwCl; its fields: 0 an int, 1 a long, n + 2 the cell n), or an array (0 ints, 1 longs, n + 2 the cells from n on, by nines; its length) -/
abbrev Shp : Type := (Nat × List Nat) ⊕ (Nat × Nat)
abbrev Zh : Type := (Nat → Shp) × Nat
/-- what is fixed of a heap: places of fields, addresses, the array kinds -/
abbrev XG : Type := va_G × (Nat → Nat) × ClassId × ClassId × ClassId
def fv (G : XG) (M : SX) (k j : Nat) : Nat → Value
  | 0 => .int (M.1 k j)
  | 1 => .long (M.2 k j)
  | n + 2 => .ref (G.2.1 n)
def entS (G : XG) (M : SX) (k : Nat) : Shp → va_E
  | .inl q => .inr (q.1, q.2.mapIdx (fun j c => fv G M k j c))
  | .inr (0, n) => .inl (G.2.2.1, n, .inl (M.1 k))
  | .inr (1, n) => .inl (G.2.2.2.1, n, .inr (.inl (M.2 k)))
  | .inr (b + 2, n) => .inl (G.2.2.2.2, n, .inr (.inr (.inr (.inr (fun j => some (G.2.1 (b + 9 * j)))))))
def wd (G : XG) (Z : Zh) (M : SX) : va_W := (List.range Z.2).map (fun k => (G.2.1 k, entS G M k (Z.1 k)))
def tysOf (G : XG) : List (ClassId × FieldType) := [(G.2.2.1, .int), (G.2.2.2.1, .long), (G.2.2.2.2, .object "PawnLane$Lane")]
def inA (G : XG) (Z : Zh) : Nat → Prop := fun q => ∃ k, k < Z.2 ∧ q = G.2.1 k
def Inj (G : XG) (Z : Zh) : Prop := ∀ i j, i < Z.2 → j < Z.2 → G.2.1 i = G.2.1 j → i = j
theorem wd_get {G : XG} {Z : Zh} {M : SX} {k : Nat} (h : k < Z.2) : (wd G Z M)[k]? = some (G.2.1 k, entS G M k (Z.1 k)) := by
  unfold wd
  rw [List.getElem?_map, List.getElem?_range h]
  rfl
theorem wd_at {G : XG} {Z : Zh} {M : SX} {k : Nat} {q : Nat × va_E} (h : (wd G Z M)[k]? = some q) : k < Z.2 ∧ q = (G.2.1 k, entS G M k (Z.1 k)) := by
  have hl := (List.getElem?_eq_some_iff.mp h).1
  have hk : k < Z.2 := by simpa [wd] using hl
  refine ⟨hk, ?_⟩
  rw [wd_get hk] at h
  exact (Option.some.inj h).symm
theorem wd_D {G : XG} {Z : Zh} (h : Inj G Z) (M : SX) : va_D (inA G Z) (wd G Z M) := by
  refine ⟨fun i j x y hi hj hxy => ?_, fun k q hk => ?_⟩
  · obtain ⟨h1, rfl⟩ := wd_at hi
    obtain ⟨h2, rfl⟩ := wd_at hj
    exact h i j h1 h2 hxy
  · obtain ⟨h1, rfl⟩ := wd_at hk
    exact ⟨k, h1, rfl⟩
theorem fv_eq {G : XG} {M M' : SX} {k j c : Nat} (h1 : M.1 k = M'.1 k) (h2 : M.2 k = M'.2 k) : fv G M k j c = fv G M' k j c := by
  match c with
  | 0 => simp [fv, h1]
  | 1 => simp [fv, h2]
  | n + 2 => rfl
theorem entS_eq {G : XG} {M M' : SX} {k : Nat} (sh : Shp) (h1 : M.1 k = M'.1 k) (h2 : M.2 k = M'.2 k) : entS G M k sh = entS G M' k sh := by
  match sh with
  | .inl q =>
    show Sum.inr _ = Sum.inr _
    have hf : (fun j c => fv G M k j c) = (fun j c => fv G M' k j c) := by
      funext j c
      exact fv_eq h1 h2
    rw [hf]
  | .inr (0, n) => simp [entS, h1]
  | .inr (1, n) => simp [entS, h2]
  | .inr (b + 2, n) => rfl
theorem wd_set {G : XG} {Z : Zh} {M M' : SX} {k : Nat} {e : va_E} (hk : k < Z.2) (h1 : ∀ a, a ≠ k → M.1 a = M'.1 a) (h2 : ∀ a, a ≠ k → M.2 a = M'.2 a) (he : entS G M' k (Z.1 k) = e) : (wd G Z M).set k (G.2.1 k, e) = wd G Z M' := by
  apply List.ext_getElem?
  intro i
  by_cases hi : i = k
  · subst hi
    rw [List.getElem?_set_self (by simpa [wd] using hk), wd_get hk, he]
  · rw [List.getElem?_set_ne (Ne.symm hi)]
    by_cases hl : i < Z.2
    · rw [wd_get hl, wd_get hl, entS_eq (Z.1 i) (h1 i hi) (h2 i hi)]
    · rw [List.getElem?_eq_none (by simpa [wd] using Nat.le_of_not_lt hl), List.getElem?_eq_none (by simpa [wd] using Nat.le_of_not_lt hl)]
theorem wR_ne {M : SX} {k a : Nat} {f : Nat → Int32} (h : a ≠ k) : (wR M k f).1 a = M.1 a := by simp [wR, h]
theorem wR_self {M : SX} {k : Nat} {f : Nat → Int32} : (wR M k f).1 k = f := by simp [wR]
theorem wL_ne {M : SX} {k a : Nat} {f : Nat → Int64} (h : a ≠ k) : (wL M k f).2 a = M.2 a := by simp [wL, h]
theorem wL_self {M : SX} {k : Nat} {f : Nat → Int64} : (wL M k f).2 k = f := by simp [wL]
theorem wd_setR {G : XG} {Z : Zh} {M : SX} {k n : Nat} {f : Nat → Int32} (hk : k < Z.2) (hs : Z.1 k = .inr (0, n)) : (wd G Z M).set k (G.2.1 k, .inl (G.2.2.1, n, .inl f)) = wd G Z (wR M k f) := by
  refine wd_set hk (fun a h => (wR_ne h).symm) (fun a _ => rfl) ?_
  rw [hs]
  show Sum.inl _ = Sum.inl _
  rw [wR_self]
theorem wd_setL {G : XG} {Z : Zh} {M : SX} {k n : Nat} {f : Nat → Int64} (hk : k < Z.2) (hs : Z.1 k = .inr (1, n)) : (wd G Z M).set k (G.2.1 k, .inl (G.2.2.2.1, n, .inr (.inl f))) = wd G Z (wL M k f) := by
  refine wd_set hk (fun a _ => rfl) (fun a h => (wL_ne h).symm) ?_
  rw [hs]
  show Sum.inl _ = Sum.inl _
  rw [wL_self]
theorem wd_setI {G : XG} {Z : Zh} {M : SX} {k j ci : Nat} {cs : List Nat} {v : Int32} (hk : k < Z.2) (hs : Z.1 k = .inl (ci, cs)) (hc : cs[j]? = some 0) : (wd G Z M).set k (G.2.1 k, .inr (ci, (cs.mapIdx (fun j c => fv G M k j c)).set j (.int v))) = wd G Z (wI M k j v) := by
  refine wd_set hk (fun a h => (wR_ne h).symm) (fun a _ => rfl) ?_
  rw [hs]
  show Sum.inr _ = Sum.inr _
  congr 2
  apply List.ext_getElem?
  intro i
  have hl : j < cs.length := (List.getElem?_eq_some_iff.mp hc).1
  by_cases hi : i = j
  · subst hi
    rw [List.getElem?_set_self (by simpa using hl), List.getElem?_mapIdx, hc]
    simp [fv, wI, wR_self, upd]
  · rw [List.getElem?_set_ne (Ne.symm hi), List.getElem?_mapIdx, List.getElem?_mapIdx]
    congr 1
    funext c
    match c with
    | 0 => simp [fv, wI, wR_self, upd, hi]
    | 1 => rfl
    | n + 2 => rfl
theorem wd_setJ {G : XG} {Z : Zh} {M : SX} {k j ci : Nat} {cs : List Nat} {v : Int64} (hk : k < Z.2) (hs : Z.1 k = .inl (ci, cs)) (hc : cs[j]? = some 1) : (wd G Z M).set k (G.2.1 k, .inr (ci, (cs.mapIdx (fun j c => fv G M k j c)).set j (.long v))) = wd G Z (wJ M k j v) := by
  refine wd_set hk (fun a _ => rfl) (fun a h => (wL_ne h).symm) ?_
  rw [hs]
  show Sum.inr _ = Sum.inr _
  congr 2
  apply List.ext_getElem?
  intro i
  have hl : j < cs.length := (List.getElem?_eq_some_iff.mp hc).1
  by_cases hi : i = j
  · subst hi
    rw [List.getElem?_set_self (by simpa using hl), List.getElem?_mapIdx, hc]
    simp [fv, wJ, wL_self, vp_updL]
  · rw [List.getElem?_set_ne (Ne.symm hi), List.getElem?_mapIdx, List.getElem?_mapIdx]
    congr 1
    funext c
    match c with
    | 0 => rfl
    | 1 => simp [fv, wJ, wL_self, vp_updL, hi]
    | n + 2 => rfl
/-- the world as it stands in a walk -/
def Wld (G : XG) (Z : Zh) (M : SX) (H0 H : Heap) (locs : List Loc) : Prop := va_P G.1 vwCl (wd G Z M) H ∧ va_S (inA G Z) H0 H locs
def Fx (G : XG) (Z : Zh) (p : Program) (m : MethodId) (c : Code) (cc : ByteArray) (nL : Nat) (s : State) (args : Array Value) (own : String) : Prop :=
  CallFix p m c cc nL s args TBL own ∧ va_K G.1 vwCl (tysOf G) s ∧ NW s ∧ Inj G Z
def rmX (d : Nat) : Room := { frames := d, cells := 0, slots := 0, locals := 100 * d }
def xPc (G : XG) (Z : Zh) (M : SX) (av : List Value) : Array Value → State → Prop := va_Pc av (fun U => va_P G.1 vwCl (wd G Z M) U.heap ∧ va_K G.1 vwCl (tysOf G) U ∧ NW U ∧ Inj G Z)
def xQi (G : XG) (Z : Zh) (r : Int32) (M : SX) : Array Value → State → Outcome → State → Prop := va_Qi (fun (a : Int32) (_ : Unit) => a = r) (fun _ t => va_P G.1 vwCl (wd G Z M) t.heap) (inA G Z)
def xQl (G : XG) (Z : Zh) (r : Int64) (M : SX) : Array Value → State → Outcome → State → Prop := va_Ql (fun (a : Int64) (_ : Unit) => a = r) (fun _ t => va_P G.1 vwCl (wd G Z M) t.heap) (inA G Z)
def xQv (G : XG) (Z : Zh) (M : SX) : Array Value → State → Outcome → State → Prop := va_Qv (fun (_ : Unit) => True) (fun _ t => va_P G.1 vwCl (wd G Z M) t.heap) (inA G Z)
theorem xPc_blind (G : XG) (Z : Zh) (M : SX) (av : List Value) : FrameBlind (xPc G Z M av) := by
  intro a U g mk h
  obtain ⟨h1, h2, h3, h4, h5⟩ := h
  exact ⟨h1, h2, va_K.moved (u := U) (U := U.calling g mk a) (Vm.Alike.refl U.vm) h3, h4.same rfl, h5⟩
/-! plain words of the pure side -/
def gd {α : Type} (b : Bool) (x : Option α) : Option α := if b = true then x else none
def lt_ {α β : Type} (x : α) (f : α → β) : β := f x
def bd {α β : Type} (x : Option (α × SX)) (f : α → SX → Option β) : Option β := match x with
  | none => none
  | some q => f q.1 q.2
def bv {β : Type} (x : Option SX) (f : SX → Option β) : Option β := match x with
  | none => none
  | some q => f q
def bIn (i : Int32) (n : Nat) : Bool := decide (0 ≤ i ∧ i.toNatClampNeg < n)
def isB (v : Int32) : Bool := decide (v = 0 ∨ v = 1)
def nz (v : Int32) : Bool := decide (¬ v = 0)
def nzL (v : Int64) : Bool := decide (¬ v = 0)
def FU : Nat := 2000
theorem gd_some {α : Type} {b : Bool} {x : Option α} {r : α} (h : gd b x = some r) : b = true ∧ x = some r := by
  unfold gd at h
  split at h
  · rename_i hb; exact ⟨hb, h⟩
  · cases h
theorem lt_elim {α β : Type} {x : α} {f : α → β} {r : β} (h : lt_ x f = r) : ∃ y, y = x ∧ f y = r := ⟨x, rfl, h⟩
theorem bd_some {α β : Type} {x : Option (α × SX)} {f : α → SX → Option β} {r : β} (h : bd x f = some r) : ∃ a M, x = some (a, M) ∧ f a M = some r := by
  match x, h with
  | some (a, M), h => exact ⟨a, M, rfl, h⟩
theorem bv_some {β : Type} {x : Option SX} {f : SX → Option β} {r : β} (h : bv x f = some r) : ∃ M, x = some M ∧ f M = some r := by
  match x, h with
  | some M, h => exact ⟨M, rfl, h⟩
theorem it_t {α : Type} {c : Prop} [Decidable c] {a b : Option α} {r : Option α} (h : (if c then a else b) = r) (hc : c) : a = r := by rw [if_pos hc] at h; exact h
theorem it_f {α : Type} {c : Prop} [Decidable c] {a b : Option α} {r : Option α} (h : (if c then a else b) = r) (hc : ¬ c) : b = r := by rw [if_neg hc] at h; exact h
theorem bIn_vp {i : Int32} {n : Nat} (h : bIn i n = true) : vp_in i n := by
  have h1 : 0 ≤ i ∧ i.toNatClampNeg < n := by simpa [bIn] using h
  intro h2
  rcases h2 with h2 | h2
  · exact absurd h1.1 (Int32.not_le.mpr h2)
  · omega
theorem nz_ne {v : Int32} (h : nz v = true) : ¬ v = 0 := by simpa [nz] using h
theorem nzL_ne {v : Int64} (h : nzL v = true) : ¬ v = 0 := by simpa [nzL] using h
theorem isB_nar {v : Int32} (h : isB v = true) : narrow .boolean (.int v) = .int v := by
  have h1 : v = 0 ∨ v = 1 := by simpa [isB] using h
  rcases h1 with rfl | rfl <;> rfl
def xlp0 {β : Type} (body : (SX → Option β) → SX → Option β) : Nat → SX → Option β
  | 0, _ => none
  | n + 1, M => body (xlp0 body n) M
def xlp1 {A β : Type} (body : (A → SX → Option β) → A → SX → Option β) : Nat → A → SX → Option β
  | 0, _, _ => none
  | n + 1, a, M => body (xlp1 body n) a M
def xlp2 {A B β : Type} (body : (A → B → SX → Option β) → A → B → SX → Option β) : Nat → A → B → SX → Option β
  | 0, _, _, _ => none
  | n + 1, a, b, M => body (xlp2 body n) a b M
def xlp3 {A B C β : Type} (body : (A → B → C → SX → Option β) → A → B → C → SX → Option β) : Nat → A → B → C → SX → Option β
  | 0, _, _, _, _ => none
  | n + 1, a, b, c, M => body (xlp3 body n) a b c M
def xlp4 {A B C D β : Type} (body : (A → B → C → D → SX → Option β) → A → B → C → D → SX → Option β) : Nat → A → B → C → D → SX → Option β
  | 0, _, _, _, _, _ => none
  | n + 1, a, b, c, d, M => body (xlp4 body n) a b c d M
def xlp5 {A B C D E β : Type} (body : (A → B → C → D → E → SX → Option β) → A → B → C → D → E → SX → Option β) : Nat → A → B → C → D → E → SX → Option β
  | 0, _, _, _, _, _, _ => none
  | n + 1, a, b, c, d, e, M => body (xlp5 body n) a b c d e M
def xlp6 {A B C D E F β : Type} (body : (A → B → C → D → E → F → SX → Option β) → A → B → C → D → E → F → SX → Option β) : Nat → A → B → C → D → E → F → SX → Option β
  | 0, _, _, _, _, _, _, _ => none
  | n + 1, a, b, c, d, e, f, M => body (xlp6 body n) a b c d e f M
def xlp7 {A B C D E F G β : Type} (body : (A → B → C → D → E → F → G → SX → Option β) → A → B → C → D → E → F → G → SX → Option β) : Nat → A → B → C → D → E → F → G → SX → Option β
  | 0, _, _, _, _, _, _, _, _ => none
  | n + 1, a, b, c, d, e, f, g, M => body (xlp7 body n) a b c d e f g M
def xlp8 {A B C D E F G K β : Type} (body : (A → B → C → D → E → F → G → K → SX → Option β) → A → B → C → D → E → F → G → K → SX → Option β) : Nat → A → B → C → D → E → F → G → K → SX → Option β
  | 0, _, _, _, _, _, _, _, _, _ => none
  | n + 1, a, b, c, d, e, f, g, k, M => body (xlp8 body n) a b c d e f g k M
end
section
section XWalk
variable {G : XG} {Z : Zh} {p : Program} {l : Launch} {e : Env} {R : Room} {s : State} {m : MethodId} {args : Array Value} {below : List Frame} {meth : Method} {c : Code} {H : Heap} {locs : List Loc} {Q : State → Prop}
variable {cc : ByteArray} {pc nL : Nat} {ls : Array Slot} {rest : List Value} {M : SX} {own : String}
theorem x_let {x y : Int32} (h : y = x) (k : W p l e R s m args below meth c H locs 0 0 Q (F0 m pc ls (.int y :: rest))) : W p l e R s m args below meth c H locs 0 0 Q (F0 m pc ls (.int x :: rest)) := h ▸ k
theorem x_letL {x y : Int64} (h : y = x) (k : W p l e R s m args below meth c H locs 0 0 Q (F0 m pc ls (.long y :: rest))) : W p l e R s m args below meth c H locs 0 0 Q (F0 m pc ls (.long x :: rest)) := h ▸ k
/-- a field is read -/
theorem x_get (F : Fx G Z p m c cc nL s args own) (hw : Wld G Z M s.heap H locs) {k j ci code index : Nat} {cs : List Nat} {C : String} {T : u_T} {N : Nat} (hk : k < Z.2) (hs : Z.1 k = .inl (ci, cs)) (hc : cs[j]? = some code) (hcl : vwCl[ci]? = some (C, T, N)) (hin : ∀ w ∈ u_ws C T N, w ∈ TBL) (hj : j < N) (hlk : Cond.fieldLink own index (T j).1 (T j).2.1 (T j).2.2.1 ∈ TBL) (hdg : decode cc pc = .ok (.getfield index, 3))
    (kk : W p l e R s m args below meth c H locs 0 0 Q (F0 m (pc + 3) ls (fv G M k j code :: rest))) : W p l e R s m args below meth c H locs 0 0 Q (F0 m pc ls (.ref (G.2.1 k) :: rest)) := by
  obtain ⟨⟨hx, hb, hml, hown, hts⟩, hK, hN, hI⟩ := F
  have he := wd_get (G := G) (M := M) hk
  rw [hs] at he
  exact va_get (D := G.1) (ci := ci) (v := fv G M k j code) (C := C) (T := T) (N := N) hx hb hts hin hown hK hw.1 k he hcl j hj (hts _ hlk) (fun _ h9 => h9) (by rw [List.getElem?_mapIdx, hc]; rfl) hdg kk
/-- an int field is written -/
theorem x_putI (F : Fx G Z p m c cc nL s args own) (hw : Wld G Z M s.heap H locs) {k j ci index : Nat} {cs : List Nat} {C : String} {T : u_T} {N : Nat} {v : Int32} {ty : FieldType} (hk : k < Z.2) (hs : Z.1 k = .inl (ci, cs)) (hc : cs[j]? = some 0) (hcl : vwCl[ci]? = some (C, T, N)) (hin : ∀ w ∈ u_ws C T N, w ∈ TBL) (ty0 : Nat → FieldType) (hty : ∀ k, k < N → parseFieldDescriptor (T k).2.2.1 = some (ty0 k)) (hnm : ∀ a, a < N → ∀ b, b < N → a ≠ b → (T a).2.1 ≠ (T b).2.1) (hj : j < N) (hlk : Cond.fieldLink own index (T j).1 (T j).2.1 (T j).2.2.1 ∈ TBL) (hfin : (T j).2.2.2 = false) (hd : parseFieldDescriptor (T j).2.2.1 = some ty) (hn : narrow ty (.int v) = .int v) (hfit : fits ty (.int v) = true) (hdg : decode cc pc = .ok (.putfield index, 3))
    (kk : ∀ (H1 : Heap) (locs1 : List Loc), Wld G Z (wI M k j v) s.heap H1 locs1 → W p l e R s m args below meth c H1 locs1 0 0 Q (F0 m (pc + 3) ls rest)) : W p l e R s m args below meth c H locs 0 0 Q (F0 m pc ls (.int v :: .ref (G.2.1 k) :: rest)) := by
  obtain ⟨⟨hx, hb, hml, hown, hts⟩, hK, hN, hI⟩ := F
  have he := wd_get (G := G) (M := M) hk
  rw [hs] at he
  have hl : j < cs.length := (List.getElem?_eq_some_iff.mp hc).1
  refine va_put (D := G.1) (ci := ci) (v := .int v) (ty := ty) (C := C) (T := T) (N := N) hx hb hts hin ty0 hty hnm hown hK hw.1 (wd_D hI M) hw.2 k he hcl j hj (hts _ hlk) (fun _ h9 => h9) hfin hd hn hfit (by simpa using hl) hdg (fun H1 locs1 hP _ hS => kk H1 locs1 ⟨?_, hS⟩)
  rw [← wd_setI hk hs hc]
  exact hP
/-- a long field is written -/
theorem x_putJ (F : Fx G Z p m c cc nL s args own) (hw : Wld G Z M s.heap H locs) {k j ci index : Nat} {cs : List Nat} {C : String} {T : u_T} {N : Nat} {v : Int64} (hk : k < Z.2) (hs : Z.1 k = .inl (ci, cs)) (hc : cs[j]? = some 1) (hcl : vwCl[ci]? = some (C, T, N)) (hin : ∀ w ∈ u_ws C T N, w ∈ TBL) (ty0 : Nat → FieldType) (hty : ∀ k, k < N → parseFieldDescriptor (T k).2.2.1 = some (ty0 k)) (hnm : ∀ a, a < N → ∀ b, b < N → a ≠ b → (T a).2.1 ≠ (T b).2.1) (hj : j < N) (hlk : Cond.fieldLink own index (T j).1 (T j).2.1 (T j).2.2.1 ∈ TBL) (hfin : (T j).2.2.2 = false) (hd : parseFieldDescriptor (T j).2.2.1 = some .long) (hdg : decode cc pc = .ok (.putfield index, 3))
    (kk : ∀ (H1 : Heap) (locs1 : List Loc), Wld G Z (wJ M k j v) s.heap H1 locs1 → W p l e R s m args below meth c H1 locs1 0 0 Q (F0 m (pc + 3) ls rest)) : W p l e R s m args below meth c H locs 0 0 Q (F0 m pc ls (.long v :: .ref (G.2.1 k) :: rest)) := by
  obtain ⟨⟨hx, hb, hml, hown, hts⟩, hK, hN, hI⟩ := F
  have he := wd_get (G := G) (M := M) hk
  rw [hs] at he
  have hl : j < cs.length := (List.getElem?_eq_some_iff.mp hc).1
  refine va_put (D := G.1) (ci := ci) (v := .long v) (ty := .long) (C := C) (T := T) (N := N) hx hb hts hin ty0 hty hnm hown hK hw.1 (wd_D hI M) hw.2 k he hcl j hj (hts _ hlk) (fun _ h9 => h9) hfin hd rfl rfl (by simpa using hl) hdg (fun H1 locs1 hP _ hS => kk H1 locs1 ⟨?_, hS⟩)
  rw [← wd_setJ hk hs hc]
  exact hP
/-- an int of an array is read -/
theorem x_iald (F : Fx G Z p m c cc nL s args own) (hw : Wld G Z M s.heap H locs) {k n : Nat} {i : Int32} (hs : k < Z.2 ∧ Z.1 k = .inr (0, n)) (hi : bIn i n = true) (hdg : decode cc pc = .ok (.iaload, 1))
    (kk : W p l e R s m args below meth c H locs 0 0 Q (F0 m (pc + 1) ls (.int (M.1 k i.toNatClampNeg) :: rest))) : W p l e R s m args below meth c H locs 0 0 Q (F0 m pc ls (.int i :: .ref (G.2.1 k) :: rest)) := by
  obtain ⟨⟨hx, hb, hml, hown, hts⟩, hK, hN, hI⟩ := F
  have he := wd_get (G := G) (M := M) hs.1
  rw [hs.2] at he
  exact va_iald (D := G.1) hx hb hK hw.1 k 0 (cA := G.2.2.1) (n := n) (f := M.1 k) he rfl (bIn_vp hi) hdg kk
theorem x_iast (F : Fx G Z p m c cc nL s args own) (hw : Wld G Z M s.heap H locs) {k n : Nat} {i v : Int32} (hs : k < Z.2 ∧ Z.1 k = .inr (0, n)) (hi : bIn i n = true) (hdg : decode cc pc = .ok (.iastore, 1))
    (kk : ∀ (H1 : Heap) (locs1 : List Loc), Wld G Z (wI M k i.toNatClampNeg v) s.heap H1 locs1 → W p l e R s m args below meth c H1 locs1 0 0 Q (F0 m (pc + 1) ls rest)) : W p l e R s m args below meth c H locs 0 0 Q (F0 m pc ls (.int v :: .int i :: .ref (G.2.1 k) :: rest)) := by
  obtain ⟨⟨hx, hb, hml, hown, hts⟩, hK, hN, hI⟩ := F
  have he := wd_get (G := G) (M := M) hs.1
  rw [hs.2] at he
  refine va_iast (D := G.1) hx hb hK hw.1 (wd_D hI M) hw.2 k 0 (cA := G.2.2.1) (n := n) (f := M.1 k) he rfl (bIn_vp hi) hdg (fun H1 locs1 hP _ hS => kk H1 locs1 ⟨?_, hS⟩)
  rw [wI, ← wd_setR hs.1 hs.2]
  exact hP
theorem x_lald (F : Fx G Z p m c cc nL s args own) (hw : Wld G Z M s.heap H locs) {k n : Nat} {i : Int32} (hs : k < Z.2 ∧ Z.1 k = .inr (1, n)) (hi : bIn i n = true) (hdg : decode cc pc = .ok (.laload, 1))
    (kk : W p l e R s m args below meth c H locs 0 0 Q (F0 m (pc + 1) ls (.long (M.2 k i.toNatClampNeg) :: rest))) : W p l e R s m args below meth c H locs 0 0 Q (F0 m pc ls (.int i :: .ref (G.2.1 k) :: rest)) := by
  obtain ⟨⟨hx, hb, hml, hown, hts⟩, hK, hN, hI⟩ := F
  have he := wd_get (G := G) (M := M) hs.1
  rw [hs.2] at he
  exact va_lald (D := G.1) hx hb hK hw.1 k 1 (cA := G.2.2.2.1) (n := n) (f := M.2 k) he rfl (bIn_vp hi) hdg kk
theorem x_last (F : Fx G Z p m c cc nL s args own) (hw : Wld G Z M s.heap H locs) {k n : Nat} {i : Int32} {v : Int64} (hs : k < Z.2 ∧ Z.1 k = .inr (1, n)) (hi : bIn i n = true) (hdg : decode cc pc = .ok (.lastore, 1))
    (kk : ∀ (H1 : Heap) (locs1 : List Loc), Wld G Z (wJ M k i.toNatClampNeg v) s.heap H1 locs1 → W p l e R s m args below meth c H1 locs1 0 0 Q (F0 m (pc + 1) ls rest)) : W p l e R s m args below meth c H locs 0 0 Q (F0 m pc ls (.long v :: .int i :: .ref (G.2.1 k) :: rest)) := by
  obtain ⟨⟨hx, hb, hml, hown, hts⟩, hK, hN, hI⟩ := F
  have he := wd_get (G := G) (M := M) hs.1
  rw [hs.2] at he
  refine va_last (D := G.1) hx hb hK hw.1 (wd_D hI M) hw.2 k 1 (cA := G.2.2.2.1) (n := n) (f := M.2 k) he rfl (bIn_vp hi) hdg (fun H1 locs1 hP _ hS => kk H1 locs1 ⟨?_, hS⟩)
  rw [wJ, ← wd_setL hs.1 hs.2]
  exact hP
theorem x_aald (F : Fx G Z p m c cc nL s args own) (hw : Wld G Z M s.heap H locs) {k b n : Nat} {i : Int32} (hs : k < Z.2 ∧ Z.1 k = .inr (b + 2, n)) (hi : bIn i n = true) (hdg : decode cc pc = .ok (.aaload, 1))
    (kk : W p l e R s m args below meth c H locs 0 0 Q (F0 m (pc + 1) ls (.ref (G.2.1 (b + 9 * i.toNatClampNeg)) :: rest))) : W p l e R s m args below meth c H locs 0 0 Q (F0 m pc ls (.int i :: .ref (G.2.1 k) :: rest)) := by
  obtain ⟨⟨hx, hb, hml, hown, hts⟩, hK, hN, hI⟩ := F
  have he := wd_get (G := G) (M := M) hs.1
  rw [hs.2] at he
  exact va_aldq (D := G.1) hx hb hK hw.1 k 2 (cA := G.2.2.2.2) (C := "PawnLane$Lane") (n := n) (f := fun j => some (G.2.1 (b + 9 * j))) he rfl (bIn_vp hi) hdg kk
theorem x_alenI (F : Fx G Z p m c cc nL s args own) (hw : Wld G Z M s.heap H locs) {k n : Nat} (hs : k < Z.2 ∧ Z.1 k = .inr (0, n)) (hdg : decode cc pc = .ok (.arraylength, 1))
    (kk : W p l e R s m args below meth c H locs 0 0 Q (F0 m (pc + 1) ls (.int (Int32.ofNat n) :: rest))) : W p l e R s m args below meth c H locs 0 0 Q (F0 m pc ls (.ref (G.2.1 k) :: rest)) := by
  obtain ⟨⟨hx, hb, hml, hown, hts⟩, hK, hN, hI⟩ := F
  have he := wd_get (G := G) (M := M) hs.1
  rw [hs.2] at he
  exact va_alen (D := G.1) hx hb hK hw.1 k 0 (cA := G.2.2.1) he (ty := .int) rfl (v := Int32.ofNat n) rfl hdg kk
/-- a stretch of ints is copied -/
def cpOk (sp dp n : Int32) (n0 n1 : Nat) : Bool := decide (0 ≤ sp ∧ 0 ≤ dp ∧ 0 ≤ n ∧ sp.toNatClampNeg + n.toNatClampNeg ≤ n0 ∧ dp.toNatClampNeg + n.toNatClampNeg ≤ n1)
theorem x_copy (F : Fx G Z p m c cc nL s args own) (hw : Wld G Z M s.heap H locs) (hln : ls.size = nL) {k0 k1 n0 n1 index : Nat} {sp dp n : Int32} (h0 : k0 < Z.2 ∧ Z.1 k0 = .inr (0, n0)) (h1 : k1 < Z.2 ∧ Z.1 k1 = .inr (0, n1)) (ho : cpOk sp dp n n0 n1 = true) (hlk : Cond.methodLink own index arraycopyName ∈ TBL) (hnt : Cond.native arraycopyName ∈ TBL) (hst : Cond.static arraycopyName ∈ TBL) (hin : Cond.initialized "java/lang/System" ∈ TBL) (hfr : 1 ≤ R.frames) (hlo : (rest.map fun v => v.category).sum + (nativeFrameWords "java/lang/System" "arraycopy" 5 + 11) ≤ R.locals) (hdg : decode cc pc = .ok (.invokestatic index, 3))
    (kk : ∀ (H1 : Heap) (locs1 : List Loc), Wld G Z (wR M k1 (va_cpy (M.1 k0) (M.1 k1) sp.toNatClampNeg dp.toNatClampNeg n.toNatClampNeg)) s.heap H1 locs1 → W p l e R s m args below meth c H1 locs1 0 0 Q (F0 m (pc + 3) ls rest)) : W p l e R s m args below meth c H locs 0 0 Q (F0 m pc ls (.int n :: .int dp :: .ref (G.2.1 k1) :: .int sp :: .ref (G.2.1 k0) :: rest)) := by
  obtain ⟨⟨hx, hb, hml, hown, hts⟩, hK, hN, hI⟩ := F
  have he := wd_get (G := G) (M := M) h0.1
  rw [h0.2] at he
  have he1 := wd_get (G := G) (M := M) h1.1
  rw [h1.2] at he1
  have ho : 0 ≤ sp ∧ 0 ≤ dp ∧ 0 ≤ n ∧ sp.toNatClampNeg + n.toNatClampNeg ≤ n0 ∧ dp.toNatClampNeg + n.toNatClampNeg ≤ n1 := by simpa [cpOk] using ho
  refine va_copyi (D := G.1) hx hb (by rw [hml, hln]) hown (hts _ hlk) (hts _ hnt) (hts _ hst) (hts _ hin) hK hw.1 (wd_D hI M) hw.2 k0 k1 0 0 (f := M.1 k0) (g := M.1 k1) he he1 rfl rfl rfl (Int32.not_lt.mpr ho.1) (Int32.not_lt.mpr ho.2.1) (Int32.not_lt.mpr ho.2.2.1) ho.2.2.2.1 ho.2.2.2.2 (fun _ _ => rfl) hfr hlo hdg (fun H1 locs1 hP _ hS => kk H1 locs1 ⟨?_, hS⟩)
  rw [← wd_setR h1.1 h1.2]
  exact hP
end XWalk
end
section
section XCall
variable {G : XG} {Z : Zh} {p : Program} {l : Launch} {e : Env} {R : Room} {s : State} {m : MethodId} {args : Array Value} {below : List Frame} {meth : Method} {c : Code} {H : Heap} {locs : List Loc} {Q : State → Prop}
variable {cc : ByteArray} {pc nL : Nat} {ls : Array Slot} {rest st0 : List Value} {M M' : SX} {own : String}
/-- the words of a call -/
def VW (own : String) (index : Nat) (C : String) (y : MethodName) (cd : Cond) (n : Nat) : Prop := GoodIn TBL (wsV own index C y (cd :: TBL)) ∧ y.cls = C ∧ y.cls ≠ "java/lang/invoke/MethodHandle" ∧ y.cls ≠ "java/lang/invoke/VarHandle" ∧ (parseMethodDescriptor y.desc).map (fun d => d.parameters.length) = some n
def SW (own : String) (index : Nat) (y : MethodName) (cd : Cond) (n : Nat) : Prop := GoodIn TBL (cd :: TBL) ∧ Cond.initialized y.cls ∈ TBL ∧ Cond.methodLink own index y ∈ TBL ∧ Cond.static y ∈ TBL ∧ y.cls ≠ "java/lang/invoke/MethodHandle" ∧ y.cls ≠ "java/lang/invoke/VarHandle" ∧ (parseMethodDescriptor y.desc).map (fun d => d.parameters.length) = some n
def NN (own : String) (index : Nat) (y : MethodName) (cd : Cond) (n : Nat) : Prop := GoodIn TBL (cd :: TBL) ∧ Cond.initialized y.cls ∈ TBL ∧ (own, index, y) ∈ nst ∧ Cond.static y ∈ TBL ∧ y.cls ≠ "java/lang/invoke/MethodHandle" ∧ y.cls ≠ "java/lang/invoke/VarHandle" ∧ (parseMethodDescriptor y.desc).map (fun d => d.parameters.length) = some n
def rok (R : Room) (maxL d : Nat) : Prop := (rmX d).frames + 1 ≤ R.frames ∧ 8 + (maxL + 11) + (rmX d).locals ≤ R.locals
theorem x_runV {y : MethodName} {C : String} {T : u_T} {N index maxL n d k ci : Nat} {cs : List Nat} {bytes : ByteArray} {ret : Option FieldType} {As : List Value} {Qc : Array Value → State → Outcome → State → Prop} (F : Fx G Z p m c cc nL s args own) (hw : Wld G Z M s.heap H locs) (hln : ls.size = nL) (hv : VW own index C y (.code y bytes maxL ret) n) (hs : k < Z.2 ∧ Z.1 k = .inl (ci, cs)) (hcl : vwCl[ci]? = some (C, T, N)) (hM : Met l y (.code y bytes maxL ret :: TBL) (rmX d) (xPc G Z M (.ref (G.2.1 k) :: As)) Qc 0 0 (inA G Z)) (hn : As.length = n) (hst : st0 = As.reverse ++ .ref (G.2.1 k) :: rest) (hcat : (rest.map fun v => v.category).sum ≤ 8) (hR : rok R maxL d) (hdg : decode cc pc = .ok (.invokevirtual index, 3)) :
    va_Run p l e R s m args below meth c H locs 0 0 0 0 (F0 m pc ls st0) rest (Qc (Value.ref (G.2.1 k) :: As).toArray) (inA G Z) := by
  obtain ⟨hCF, hK, hN, hI⟩ := F
  have he := wd_get (G := G) (M := M) hs.1
  rw [hs.2] at he
  refine va_runV (As := As) (rest := rest) hCF hM (cwV n hCF.2.2.2.2 hv.1 rfl rfl rfl hv.2 hR) ⟨xPc_blind G Z M _, va_recv hK hw.1 hcl he, fun U hU hW => ⟨rfl, by rw [hU]; exact hw.1, va_K.moved hW.alike hK, hN.warm hW, hI⟩⟩ rfl hn hln hst (lv_room hcat) hdg ⟨Nat.zero_le _, Nat.zero_le _⟩
theorem x_runS {y : MethodName} {index maxL n d : Nat} {bytes : ByteArray} {ret : Option FieldType} {As : List Value} {Qc : Array Value → State → Outcome → State → Prop} (F : Fx G Z p m c cc nL s args own) (hw : Wld G Z M s.heap H locs) (hln : ls.size = nL) (hv : SW own index y (.code y bytes maxL ret) n) (hM : Met l y (.code y bytes maxL ret :: TBL) (rmX d) (xPc G Z M As) Qc 0 0 (inA G Z)) (hn : As.length = n) (hst : st0 = As.reverse ++ rest) (hcat : (rest.map fun v => v.category).sum ≤ 8) (hR : rok R maxL d) (hdg : decode cc pc = .ok (.invokestatic index, 3)) :
    va_Run p l e R s m args below meth c H locs 0 0 0 0 (F0 m pc ls st0) rest (Qc As.toArray) (inA G Z) := by
  obtain ⟨hCF, hK, hN, hI⟩ := F
  have hts := hCF.2.2.2.2
  refine va_runS (As := As) (rest := rest) hCF hM ⟨callB_of n hts hv.1 rfl rfl rfl (hts _ hv.2.1) (hts _ hv.2.2.1) hv.2.2.2.2 hR, hts _ hv.2.2.2.1⟩ ⟨xPc_blind G Z M _, fun U hU hW => ⟨rfl, by rw [hU]; exact hw.1, va_K.moved hW.alike hK, hN.warm hW, hI⟩⟩ rfl hn hln hst (lv_room hcat) hdg ⟨Nat.zero_le _, Nat.zero_le _⟩
theorem x_runN {y : MethodName} {index maxL n d : Nat} {bytes : ByteArray} {ret : Option FieldType} {As : List Value} {Qc : Array Value → State → Outcome → State → Prop} (F : Fx G Z p m c cc nL s args own) (hw : Wld G Z M s.heap H locs) (hln : ls.size = nL) (hv : NN own index y (.code y bytes maxL ret) n) (hM : Met l y (.code y bytes maxL ret :: TBL) (rmX d) (xPc G Z M As) Qc 0 0 (inA G Z)) (hn : As.length = n) (hst : st0 = As.reverse ++ rest) (hcat : (rest.map fun v => v.category).sum ≤ 8) (hR : rok R maxL d) (hdg : decode cc pc = .ok (.invokestatic index, 3)) :
    va_Run p l e R s m args below meth c H locs 0 0 0 0 (F0 m pc ls st0) rest (Qc As.toArray) (inA G Z) := by
  obtain ⟨hCF, hK, hN, hI⟩ := F
  have hts := hCF.2.2.2.2
  refine va_runSN (As := As) (rest := rest) (host := "PawnLane") hCF hM ⟨va_cnB n hts hv.1 rfl rfl rfl (hN _ hv.2.2.1) (hts _ hv.2.1) hv.2.2.2.2 hR, hts _ hv.2.2.2.1, trivial⟩ ⟨xPc_blind G Z M _, fun U hU hW => ⟨rfl, by rw [hU]; exact hw.1, va_K.moved hW.alike hK, hN.warm hW, hI⟩⟩ rfl hn hln hst (lv_room hcat) hdg ⟨Nat.zero_le _, Nat.zero_le _⟩
theorem x_aftI {a : Array Value} {r : Int32} (hw : Wld G Z M s.heap H locs) (hr : va_Run p l e R s m args below meth c H locs 0 0 0 0 (F0 m pc ls st0) rest (xQi G Z r M' a) (inA G Z))
    (kk : ∀ (H1 : Heap) (locs1 : List Loc), Wld G Z M' s.heap H1 locs1 → W p l e R s m args below meth c H1 locs1 0 0 Q (F0 m (pc + 3) ls (.int r :: rest))) : W p l e R s m args below meth c H locs 0 0 Q (F0 m pc ls st0) := by
  refine va_calli hr hw.2 (fun _ _ h => h) (fun _ h => h) (fun r1 u t H1 locs1 ht _ hr1 hP _ _ hS => ?_)
  have hP : va_P G.1 vwCl (wd G Z M') t.heap := hP
  have hr1 : r1 = r := hr1
  rw [ht] at hP
  rw [hr1]
  exact kk H1 locs1 ⟨hP, hS⟩
theorem x_aftL {a : Array Value} {r : Int64} (hw : Wld G Z M s.heap H locs) (hr : va_Run p l e R s m args below meth c H locs 0 0 0 0 (F0 m pc ls st0) rest (xQl G Z r M' a) (inA G Z))
    (kk : ∀ (H1 : Heap) (locs1 : List Loc), Wld G Z M' s.heap H1 locs1 → W p l e R s m args below meth c H1 locs1 0 0 Q (F0 m (pc + 3) ls (.long r :: rest))) : W p l e R s m args below meth c H locs 0 0 Q (F0 m pc ls st0) := by
  refine va_calll hr hw.2 (fun _ _ h => h) (fun _ h => h) (fun r1 u t H1 locs1 ht _ hr1 hP _ _ hS => ?_)
  have hP : va_P G.1 vwCl (wd G Z M') t.heap := hP
  have hr1 : r1 = r := hr1
  rw [ht] at hP
  rw [hr1]
  exact kk H1 locs1 ⟨hP, hS⟩
theorem x_aftV {a : Array Value} (hw : Wld G Z M s.heap H locs) (hr : va_Run p l e R s m args below meth c H locs 0 0 0 0 (F0 m pc ls st0) rest (xQv G Z M' a) (inA G Z))
    (kk : ∀ (H1 : Heap) (locs1 : List Loc), Wld G Z M' s.heap H1 locs1 → W p l e R s m args below meth c H1 locs1 0 0 Q (F0 m (pc + 3) ls rest)) : W p l e R s m args below meth c H locs 0 0 Q (F0 m pc ls st0) := by
  refine va_callv hr hw.2 (fun _ _ h => h) (fun _ h => h) (fun u t H1 locs1 ht _ _ hP _ _ hS => ?_)
  have hP : va_P G.1 vwCl (wd G Z M') t.heap := hP
  rw [ht] at hP
  exact kk H1 locs1 ⟨hP, hS⟩
theorem x_iret {v r : Int32} (F : Fx G Z p m c cc nL s args own) (hw : Wld G Z M s.heap H locs) (hr : meth.sig.returnType = some .int) (hlk : meth.locks = false) (hf : some (v, M) = some (r, M')) (hdg : decode cc pc = .ok (.ireturn, 1)) : W p l e R s m args below meth c H locs 0 0 (MQ below (xQi G Z r M') args s 0 0 (inA G Z)) (F0 m pc ls [.int v]) := by
  cases hf
  exact W.iret F.1.1 F.1.2.1 hr (fun t ht _ => ⟨⟨v, (), rfl, rfl, by show va_P _ _ _ _; rw [ht]; exact hw.1⟩, hw.2.F ht⟩) hw.2.2.2 hdg hlk
theorem x_zret {v r : Int32} (F : Fx G Z p m c cc nL s args own) (hw : Wld G Z M s.heap H locs) (hr : meth.sig.returnType = some .boolean) (hlk : meth.locks = false) (hn : narrow .boolean (.int v) = .int v) (hf : some (v, M) = some (r, M')) (hdg : decode cc pc = .ok (.ireturn, 1)) : W p l e R s m args below meth c H locs 0 0 (MQ below (xQi G Z r M') args s 0 0 (inA G Z)) (F0 m pc ls [.int v]) := by
  cases hf
  exact W.zret F.1.1 F.1.2.1 hr hn (fun t ht _ => ⟨⟨v, (), rfl, rfl, by show va_P _ _ _ _; rw [ht]; exact hw.1⟩, hw.2.F ht⟩) hw.2.2.2 hdg hlk
theorem x_lret {v r : Int64} (F : Fx G Z p m c cc nL s args own) (hw : Wld G Z M s.heap H locs) (hr : meth.sig.returnType = some .long) (hlk : meth.locks = false) (hf : some (v, M) = some (r, M')) (hdg : decode cc pc = .ok (.lreturn, 1)) : W p l e R s m args below meth c H locs 0 0 (MQ below (xQl G Z r M') args s 0 0 (inA G Z)) (F0 m pc ls [.long v]) := by
  cases hf
  exact W.lret F.1.1 F.1.2.1 hr (fun t ht _ => ⟨⟨v, (), rfl, rfl, by show va_P _ _ _ _; rw [ht]; exact hw.1⟩, hw.2.F ht⟩) hw.2.2.2 hdg hlk
theorem x_vret (F : Fx G Z p m c cc nL s args own) (hw : Wld G Z M s.heap H locs) (hr : meth.sig.returnType = none) (hlk : meth.locks = false) (hf : some M = some M') (hdg : decode cc pc = .ok (.return_, 1)) : W p l e R s m args below meth c H locs 0 0 (MQ below (xQv G Z M') args s 0 0 (inA G Z)) (F0 m pc ls []) := by
  cases hf
  exact W.vret F.1.1 F.1.2.1 hr (fun t ht _ => ⟨⟨(), rfl, trivial, by show va_P _ _ _ _; rw [ht]; exact hw.1⟩, hw.2.F ht⟩) hw.2.2.2 hdg hlk
theorem x_met {y : MethodName} {maxL d : Nat} {ret : Option FieldType} {av : List Value} {Qc : Array Value → State → Outcome → State → Prop} (hy : plainName y.cls = true) (hlen : (lg_sl av).length ≤ maxL)
    (body : ∀ (p : Program) (e : Env) (s : State) (m : MethodId) (below : List Frame) (meth : Method) (c : Code) (ls : Array Slot), Fx G Z p m c cc maxL s av.toArray y.cls → meth.sig.returnType = ret → meth.locks = false → lv_has ls maxL (lv_args 0 av) → Wld G Z M s.heap s.heap [] → W p l e (rmX d) s m av.toArray below meth c s.heap [] 0 0 (MQ below Qc av.toArray s 0 0 (inA G Z)) (F0 m 0 ls [])) :
    Met l y (.code y cc maxL ret :: TBL) (rmX d) (xPc G Z M av) Qc 0 0 (inA G Z) := by
  refine Met.ofW (cc := cc) (maxL := maxL) (ret := ret) hy rfl ?_
  intro p e s m args below meth c s₁ B hml hv
  obtain ⟨rfl, hP, hK, hN, hI⟩ := hv
  have hts := atoms_spec (ws := (Cond.code y cc maxL ret :: TBL)) B.pre
  have hown : s.vm.findClass y.cls = some m.cls := findClass_of_methodNamed B.named
  have hl := lv_entry av (n := maxL) hlen
  rw [lg_entry_eq]
  exact body p e s m below meth c _ ⟨⟨B.exec, B.bytes, hml, hown, fun w h => hts w (List.mem_cons_of_mem _ h)⟩, hK, hN, hI⟩ B.returns B.notSynchronized hl ⟨hP, va_S.rf⟩
end XCall
end
