section
-- ===== PART A: goes FIRST, ahead of the names: the tables' words, and 'selects' of the private methods out of them =====
/-- a private method of a class that the tables say can be made, by its rows of tables_1 -/
def lw_okq (q : MethodName × Nat) : Prop := (q.1.cls ≠ "java/lang/invoke/MethodHandle" ∧ q.1.cls ≠ "java/lang/invoke/VarHandle") ∧ Cond.instantiable q.1.cls q.2 ∈ tables_1 ∧ Cond.privateMethod q.1 ∈ tables_1 ∧ Cond.instanceMethod q.1 ∈ tables_1
theorem lw_p0 : lw_okq (⟨"PawnLane", "found", "(I)I"⟩, 11) := ⟨⟨by decide +kernel, by decide +kernel⟩, List.mem_of_getElem? (i := 13) (by decide +kernel), List.mem_of_getElem? (i := 193) (by decide +kernel), List.mem_of_getElem? (i := 194) (by decide +kernel)⟩
theorem lw_p1 : lw_okq (⟨"PawnLane", "refusalOfPlace", "(LPawnLane$Sheets;II)I"⟩, 11) := ⟨⟨by decide +kernel, by decide +kernel⟩, List.mem_of_getElem? (i := 13) (by decide +kernel), List.mem_of_getElem? (i := 209) (by decide +kernel), List.mem_of_getElem? (i := 210) (by decide +kernel)⟩
theorem lw_p2 : lw_okq (⟨"PawnLane", "refusalOfSheet", "(LPawnLane$Sheets;I)I"⟩, 11) := ⟨⟨by decide +kernel, by decide +kernel⟩, List.mem_of_getElem? (i := 13) (by decide +kernel), List.mem_of_getElem? (i := 213) (by decide +kernel), List.mem_of_getElem? (i := 214) (by decide +kernel)⟩
theorem lw_p3 : lw_okq (⟨"PawnLane$Reader", "takes", "(I)Z"⟩, 5) := ⟨⟨by decide +kernel, by decide +kernel⟩, List.mem_of_getElem? (i := 41) (by decide +kernel), List.mem_of_getElem? (i := 288) (by decide +kernel), List.mem_of_getElem? (i := 289) (by decide +kernel)⟩
theorem lw_p4 : lw_okq (⟨"PawnLane$Reader", "beginsItem", "(I)Z"⟩, 5) := ⟨⟨by decide +kernel, by decide +kernel⟩, List.mem_of_getElem? (i := 41) (by decide +kernel), List.mem_of_getElem? (i := 292) (by decide +kernel), List.mem_of_getElem? (i := 293) (by decide +kernel)⟩
theorem lw_p5 : lw_okq (⟨"PawnLane$Reader", "takesOfShop", "(I)Z"⟩, 5) := ⟨⟨by decide +kernel, by decide +kernel⟩, List.mem_of_getElem? (i := 41) (by decide +kernel), List.mem_of_getElem? (i := 311) (by decide +kernel), List.mem_of_getElem? (i := 312) (by decide +kernel)⟩
theorem lw_p6 : lw_okq (⟨"PawnLane$Reader", "takesOfTicket", "(I)Z"⟩, 5) := ⟨⟨by decide +kernel, by decide +kernel⟩, List.mem_of_getElem? (i := 41) (by decide +kernel), List.mem_of_getElem? (i := 315) (by decide +kernel), List.mem_of_getElem? (i := 316) (by decide +kernel)⟩
theorem lw_p7 : lw_okq (⟨"PawnLane", "toldOfShop", "(II)I"⟩, 11) := ⟨⟨by decide +kernel, by decide +kernel⟩, List.mem_of_getElem? (i := 13) (by decide +kernel), List.mem_of_getElem? (i := 348) (by decide +kernel), List.mem_of_getElem? (i := 349) (by decide +kernel)⟩
theorem lw_p8 : lw_okq (⟨"PawnLane$Orders", "isLeft", "(II)Z"⟩, 6) := ⟨⟨by decide +kernel, by decide +kernel⟩, List.mem_of_getElem? (i := 126) (by decide +kernel), List.mem_of_getElem? (i := 406) (by decide +kernel), List.mem_of_getElem? (i := 407) (by decide +kernel)⟩
theorem lw_p9 : lw_okq (⟨"PawnLane$Lane", "pay", "(III)V"⟩, 8) := ⟨⟨by decide +kernel, by decide +kernel⟩, List.mem_of_getElem? (i := 47) (by decide +kernel), List.mem_of_getElem? (i := 442) (by decide +kernel), List.mem_of_getElem? (i := 443) (by decide +kernel)⟩
theorem lw_p10 : lw_okq (⟨"PawnLane$Lane", "ageTickets", "(I)V"⟩, 8) := ⟨⟨by decide +kernel, by decide +kernel⟩, List.mem_of_getElem? (i := 47) (by decide +kernel), List.mem_of_getElem? (i := 472) (by decide +kernel), List.mem_of_getElem? (i := 473) (by decide +kernel)⟩
theorem lw_p11 : lw_okq (⟨"PawnLane", "firstOrderTo", "(II)I"⟩, 11) := ⟨⟨by decide +kernel, by decide +kernel⟩, List.mem_of_getElem? (i := 13) (by decide +kernel), List.mem_of_getElem? (i := 589) (by decide +kernel), List.mem_of_getElem? (i := 590) (by decide +kernel)⟩
theorem lw_p12 : lw_okq (⟨"PawnLane$Orders", "stepsBy", "(II)I"⟩, 6) := ⟨⟨by decide +kernel, by decide +kernel⟩, List.mem_of_getElem? (i := 126) (by decide +kernel), List.mem_of_getElem? (i := 598) (by decide +kernel), List.mem_of_getElem? (i := 599) (by decide +kernel)⟩
theorem lw_p13 : lw_okq (⟨"PawnLane", "tell", "(JJ)V"⟩, 11) := ⟨⟨by decide +kernel, by decide +kernel⟩, List.mem_of_getElem? (i := 13) (by decide +kernel), List.mem_of_getElem? (i := 627) (by decide +kernel), List.mem_of_getElem? (i := 628) (by decide +kernel)⟩
theorem lw_p14 : lw_okq (⟨"PawnLane$Orders", "spreadNeed", "(II)V"⟩, 6) := ⟨⟨by decide +kernel, by decide +kernel⟩, List.mem_of_getElem? (i := 126) (by decide +kernel), List.mem_of_getElem? (i := 654) (by decide +kernel), List.mem_of_getElem? (i := 655) (by decide +kernel)⟩
theorem lw_p15 : lw_okq (⟨"PawnLane", "refusalOfOrder", "(I)I"⟩, 11) := ⟨⟨by decide +kernel, by decide +kernel⟩, List.mem_of_getElem? (i := 13) (by decide +kernel), List.mem_of_getElem? (i := 671) (by decide +kernel), List.mem_of_getElem? (i := 672) (by decide +kernel)⟩
def lw_privs_1 : List (MethodName × Nat) := [(⟨"PawnLane", "found", "(I)I"⟩, 11), (⟨"PawnLane", "refusalOfPlace", "(LPawnLane$Sheets;II)I"⟩, 11), (⟨"PawnLane", "refusalOfSheet", "(LPawnLane$Sheets;I)I"⟩, 11), (⟨"PawnLane$Reader", "takes", "(I)Z"⟩, 5), (⟨"PawnLane$Reader", "beginsItem", "(I)Z"⟩, 5), (⟨"PawnLane$Reader", "takesOfShop", "(I)Z"⟩, 5), (⟨"PawnLane$Reader", "takesOfTicket", "(I)Z"⟩, 5), (⟨"PawnLane", "toldOfShop", "(II)I"⟩, 11), (⟨"PawnLane$Orders", "isLeft", "(II)Z"⟩, 6), (⟨"PawnLane$Lane", "pay", "(III)V"⟩, 8), (⟨"PawnLane$Lane", "ageTickets", "(I)V"⟩, 8), (⟨"PawnLane", "firstOrderTo", "(II)I"⟩, 11), (⟨"PawnLane$Orders", "stepsBy", "(II)I"⟩, 6), (⟨"PawnLane", "tell", "(JJ)V"⟩, 11), (⟨"PawnLane$Orders", "spreadNeed", "(II)V"⟩, 6), (⟨"PawnLane", "refusalOfOrder", "(I)I"⟩, 11)]
theorem lw_r1 : ∀ q ∈ lw_privs_1, lw_okq q := List.forall_mem_cons.mpr ⟨lw_p0, List.forall_mem_cons.mpr ⟨lw_p1, List.forall_mem_cons.mpr ⟨lw_p2, List.forall_mem_cons.mpr ⟨lw_p3, List.forall_mem_cons.mpr ⟨lw_p4, List.forall_mem_cons.mpr ⟨lw_p5, List.forall_mem_cons.mpr ⟨lw_p6, List.forall_mem_cons.mpr ⟨lw_p7, List.forall_mem_cons.mpr ⟨lw_p8, List.forall_mem_cons.mpr ⟨lw_p9, List.forall_mem_cons.mpr ⟨lw_p10, List.forall_mem_cons.mpr ⟨lw_p11, List.forall_mem_cons.mpr ⟨lw_p12, List.forall_mem_cons.mpr ⟨lw_p13, List.forall_mem_cons.mpr ⟨lw_p14, List.forall_mem_cons.mpr ⟨lw_p15, fun _ h => absurd h List.not_mem_nil⟩⟩⟩⟩⟩⟩⟩⟩⟩⟩⟩⟩⟩⟩⟩⟩
theorem lw_p16 : lw_okq (⟨"PawnLane", "refusalOfAside", "(I)I"⟩, 11) := ⟨⟨by decide +kernel, by decide +kernel⟩, List.mem_of_getElem? (i := 13) (by decide +kernel), List.mem_of_getElem? (i := 675) (by decide +kernel), List.mem_of_getElem? (i := 676) (by decide +kernel)⟩
theorem lw_p17 : lw_okq (⟨"PawnLane$Lane", "ruinsHolder", "(I)Z"⟩, 8) := ⟨⟨by decide +kernel, by decide +kernel⟩, List.mem_of_getElem? (i := 47) (by decide +kernel), List.mem_of_getElem? (i := 693) (by decide +kernel), List.mem_of_getElem? (i := 694) (by decide +kernel)⟩
theorem lw_p18 : lw_okq (⟨"PawnLane", "refusalOfSets", "(I)I"⟩, 11) := ⟨⟨by decide +kernel, by decide +kernel⟩, List.mem_of_getElem? (i := 13) (by decide +kernel), List.mem_of_getElem? (i := 701) (by decide +kernel), List.mem_of_getElem? (i := 702) (by decide +kernel)⟩
theorem lw_p19 : lw_okq (⟨"PawnLane", "counted", "(I)I"⟩, 11) := ⟨⟨by decide +kernel, by decide +kernel⟩, List.mem_of_getElem? (i := 13) (by decide +kernel), List.mem_of_getElem? (i := 753) (by decide +kernel), List.mem_of_getElem? (i := 754) (by decide +kernel)⟩
theorem lw_p20 : lw_okq (⟨"PawnLane", "keptLanes", "()I"⟩, 11) := ⟨⟨by decide +kernel, by decide +kernel⟩, List.mem_of_getElem? (i := 13) (by decide +kernel), List.mem_of_getElem? (i := 771) (by decide +kernel), List.mem_of_getElem? (i := 772) (by decide +kernel)⟩
theorem lw_p21 : lw_okq (⟨"PawnLaneModel", "find", "(I)I"⟩, 26) := ⟨⟨by decide +kernel, by decide +kernel⟩, List.mem_of_getElem? (i := 794) (by decide +kernel), List.mem_of_getElem? (i := 891) (by decide +kernel), List.mem_of_getElem? (i := 892) (by decide +kernel)⟩
theorem lw_p22 : lw_okq (⟨"PawnLaneModel", "makeRow", "(II)V"⟩, 26) := ⟨⟨by decide +kernel, by decide +kernel⟩, List.mem_of_getElem? (i := 794) (by decide +kernel), List.mem_of_getElem? (i := 895) (by decide +kernel), List.mem_of_getElem? (i := 896) (by decide +kernel)⟩
theorem lw_p23 : lw_okq (⟨"PawnLaneModel", "refused", "(II)I"⟩, 26) := ⟨⟨by decide +kernel, by decide +kernel⟩, List.mem_of_getElem? (i := 794) (by decide +kernel), List.mem_of_getElem? (i := 903) (by decide +kernel), List.mem_of_getElem? (i := 904) (by decide +kernel)⟩
theorem lw_p24 : lw_okq (⟨"PawnLaneModel", "tell", "(I)I"⟩, 26) := ⟨⟨by decide +kernel, by decide +kernel⟩, List.mem_of_getElem? (i := 794) (by decide +kernel), List.mem_of_getElem? (i := 907) (by decide +kernel), List.mem_of_getElem? (i := 908) (by decide +kernel)⟩
theorem lw_p25 : lw_okq (⟨"PawnLaneModel", "isSpan", "(III)Z"⟩, 26) := ⟨⟨by decide +kernel, by decide +kernel⟩, List.mem_of_getElem? (i := 794) (by decide +kernel), List.mem_of_getElem? (i := 923) (by decide +kernel), List.mem_of_getElem? (i := 924) (by decide +kernel)⟩
theorem lw_p26 : lw_okq (⟨"PawnLaneModel", "faultOf", "(I)I"⟩, 26) := ⟨⟨by decide +kernel, by decide +kernel⟩, List.mem_of_getElem? (i := 794) (by decide +kernel), List.mem_of_getElem? (i := 947) (by decide +kernel), List.mem_of_getElem? (i := 948) (by decide +kernel)⟩
theorem lw_p27 : lw_okq (⟨"PawnLaneModel", "skip", "()V"⟩, 26) := ⟨⟨by decide +kernel, by decide +kernel⟩, List.mem_of_getElem? (i := 794) (by decide +kernel), List.mem_of_getElem? (i := 951) (by decide +kernel), List.mem_of_getElem? (i := 952) (by decide +kernel)⟩
theorem lw_p28 : lw_okq (⟨"PawnLaneModel", "here", "()I"⟩, 26) := ⟨⟨by decide +kernel, by decide +kernel⟩, List.mem_of_getElem? (i := 794) (by decide +kernel), List.mem_of_getElem? (i := 955) (by decide +kernel), List.mem_of_getElem? (i := 956) (by decide +kernel)⟩
theorem lw_p29 : lw_okq (⟨"PawnLaneModel", "readsTicket", "()Z"⟩, 26) := ⟨⟨by decide +kernel, by decide +kernel⟩, List.mem_of_getElem? (i := 794) (by decide +kernel), List.mem_of_getElem? (i := 959) (by decide +kernel), List.mem_of_getElem? (i := 960) (by decide +kernel)⟩
theorem lw_p30 : lw_okq (⟨"PawnLaneModel", "figure", "(III)I"⟩, 26) := ⟨⟨by decide +kernel, by decide +kernel⟩, List.mem_of_getElem? (i := 794) (by decide +kernel), List.mem_of_getElem? (i := 963) (by decide +kernel), List.mem_of_getElem? (i := 964) (by decide +kernel)⟩
theorem lw_p31 : lw_okq (⟨"PawnLaneModel", "readsShop", "()Z"⟩, 26) := ⟨⟨by decide +kernel, by decide +kernel⟩, List.mem_of_getElem? (i := 794) (by decide +kernel), List.mem_of_getElem? (i := 967) (by decide +kernel), List.mem_of_getElem? (i := 968) (by decide +kernel)⟩
def lw_privs_2 : List (MethodName × Nat) := [(⟨"PawnLane", "refusalOfAside", "(I)I"⟩, 11), (⟨"PawnLane$Lane", "ruinsHolder", "(I)Z"⟩, 8), (⟨"PawnLane", "refusalOfSets", "(I)I"⟩, 11), (⟨"PawnLane", "counted", "(I)I"⟩, 11), (⟨"PawnLane", "keptLanes", "()I"⟩, 11), (⟨"PawnLaneModel", "find", "(I)I"⟩, 26), (⟨"PawnLaneModel", "makeRow", "(II)V"⟩, 26), (⟨"PawnLaneModel", "refused", "(II)I"⟩, 26), (⟨"PawnLaneModel", "tell", "(I)I"⟩, 26), (⟨"PawnLaneModel", "isSpan", "(III)Z"⟩, 26), (⟨"PawnLaneModel", "faultOf", "(I)I"⟩, 26), (⟨"PawnLaneModel", "skip", "()V"⟩, 26), (⟨"PawnLaneModel", "here", "()I"⟩, 26), (⟨"PawnLaneModel", "readsTicket", "()Z"⟩, 26), (⟨"PawnLaneModel", "figure", "(III)I"⟩, 26), (⟨"PawnLaneModel", "readsShop", "()Z"⟩, 26)]
theorem lw_r2 : ∀ q ∈ lw_privs_2, lw_okq q := List.forall_mem_cons.mpr ⟨lw_p16, List.forall_mem_cons.mpr ⟨lw_p17, List.forall_mem_cons.mpr ⟨lw_p18, List.forall_mem_cons.mpr ⟨lw_p19, List.forall_mem_cons.mpr ⟨lw_p20, List.forall_mem_cons.mpr ⟨lw_p21, List.forall_mem_cons.mpr ⟨lw_p22, List.forall_mem_cons.mpr ⟨lw_p23, List.forall_mem_cons.mpr ⟨lw_p24, List.forall_mem_cons.mpr ⟨lw_p25, List.forall_mem_cons.mpr ⟨lw_p26, List.forall_mem_cons.mpr ⟨lw_p27, List.forall_mem_cons.mpr ⟨lw_p28, List.forall_mem_cons.mpr ⟨lw_p29, List.forall_mem_cons.mpr ⟨lw_p30, List.forall_mem_cons.mpr ⟨lw_p31, fun _ h => absurd h List.not_mem_nil⟩⟩⟩⟩⟩⟩⟩⟩⟩⟩⟩⟩⟩⟩⟩⟩
theorem lw_p32 : lw_okq (⟨"PawnLaneModel", "isShop", "(I)Z"⟩, 26) := ⟨⟨by decide +kernel, by decide +kernel⟩, List.mem_of_getElem? (i := 794) (by decide +kernel), List.mem_of_getElem? (i := 982) (by decide +kernel), List.mem_of_getElem? (i := 983) (by decide +kernel)⟩
theorem lw_p33 : lw_okq (⟨"PawnLaneModel", "toldOf", "(II)I"⟩, 26) := ⟨⟨by decide +kernel, by decide +kernel⟩, List.mem_of_getElem? (i := 794) (by decide +kernel), List.mem_of_getElem? (i := 987) (by decide +kernel), List.mem_of_getElem? (i := 988) (by decide +kernel)⟩
theorem lw_p34 : lw_okq (⟨"PawnLaneModel", "dueIn", "(II)I"⟩, 26) := ⟨⟨by decide +kernel, by decide +kernel⟩, List.mem_of_getElem? (i := 794) (by decide +kernel), List.mem_of_getElem? (i := 991) (by decide +kernel), List.mem_of_getElem? (i := 992) (by decide +kernel)⟩
theorem lw_p35 : lw_okq (⟨"PawnLaneModel", "isPawned", "(I)Z"⟩, 26) := ⟨⟨by decide +kernel, by decide +kernel⟩, List.mem_of_getElem? (i := 794) (by decide +kernel), List.mem_of_getElem? (i := 995) (by decide +kernel), List.mem_of_getElem? (i := 996) (by decide +kernel)⟩
theorem lw_p36 : lw_okq (⟨"PawnLaneModel", "heldBy", "(I)I"⟩, 26) := ⟨⟨by decide +kernel, by decide +kernel⟩, List.mem_of_getElem? (i := 794) (by decide +kernel), List.mem_of_getElem? (i := 999) (by decide +kernel), List.mem_of_getElem? (i := 1000) (by decide +kernel)⟩
theorem lw_p37 : lw_okq (⟨"PawnLaneModel", "isOf", "(II)Z"⟩, 26) := ⟨⟨by decide +kernel, by decide +kernel⟩, List.mem_of_getElem? (i := 794) (by decide +kernel), List.mem_of_getElem? (i := 1007) (by decide +kernel), List.mem_of_getElem? (i := 1008) (by decide +kernel)⟩
theorem lw_p38 : lw_okq (⟨"PawnLaneModel", "loansTo", "(I)I"⟩, 26) := ⟨⟨by decide +kernel, by decide +kernel⟩, List.mem_of_getElem? (i := 794) (by decide +kernel), List.mem_of_getElem? (i := 1011) (by decide +kernel), List.mem_of_getElem? (i := 1012) (by decide +kernel)⟩
theorem lw_p39 : lw_okq (⟨"PawnLaneModel", "dueTo", "(II)I"⟩, 26) := ⟨⟨by decide +kernel, by decide +kernel⟩, List.mem_of_getElem? (i := 794) (by decide +kernel), List.mem_of_getElem? (i := 1015) (by decide +kernel), List.mem_of_getElem? (i := 1016) (by decide +kernel)⟩
theorem lw_p40 : lw_okq (⟨"PawnLaneModel", "canNow", "()I"⟩, 26) := ⟨⟨by decide +kernel, by decide +kernel⟩, List.mem_of_getElem? (i := 794) (by decide +kernel), List.mem_of_getElem? (i := 1022) (by decide +kernel), List.mem_of_getElem? (i := 1023) (by decide +kernel)⟩
theorem lw_p41 : lw_okq (⟨"PawnLaneModel", "doRedeem", "(I)I"⟩, 26) := ⟨⟨by decide +kernel, by decide +kernel⟩, List.mem_of_getElem? (i := 794) (by decide +kernel), List.mem_of_getElem? (i := 1038) (by decide +kernel), List.mem_of_getElem? (i := 1039) (by decide +kernel)⟩
theorem lw_p42 : lw_okq (⟨"PawnLaneModel", "keepPast", "()V"⟩, 26) := ⟨⟨by decide +kernel, by decide +kernel⟩, List.mem_of_getElem? (i := 794) (by decide +kernel), List.mem_of_getElem? (i := 1042) (by decide +kernel), List.mem_of_getElem? (i := 1043) (by decide +kernel)⟩
theorem lw_p43 : lw_okq (⟨"PawnLaneModel", "doPawn", "(III)V"⟩, 26) := ⟨⟨by decide +kernel, by decide +kernel⟩, List.mem_of_getElem? (i := 794) (by decide +kernel), List.mem_of_getElem? (i := 1050) (by decide +kernel), List.mem_of_getElem? (i := 1051) (by decide +kernel)⟩
theorem lw_p44 : lw_okq (⟨"PawnLaneModel", "pawned", "()I"⟩, 26) := ⟨⟨by decide +kernel, by decide +kernel⟩, List.mem_of_getElem? (i := 794) (by decide +kernel), List.mem_of_getElem? (i := 1054) (by decide +kernel), List.mem_of_getElem? (i := 1055) (by decide +kernel)⟩
theorem lw_p45 : lw_okq (⟨"PawnLaneModel", "isOld", "()Z"⟩, 26) := ⟨⟨by decide +kernel, by decide +kernel⟩, List.mem_of_getElem? (i := 794) (by decide +kernel), List.mem_of_getElem? (i := 1062) (by decide +kernel), List.mem_of_getElem? (i := 1063) (by decide +kernel)⟩
theorem lw_p46 : lw_okq (⟨"PawnLaneModel", "doWeek", "()V"⟩, 26) := ⟨⟨by decide +kernel, by decide +kernel⟩, List.mem_of_getElem? (i := 794) (by decide +kernel), List.mem_of_getElem? (i := 1066) (by decide +kernel), List.mem_of_getElem? (i := 1067) (by decide +kernel)⟩
theorem lw_p47 : lw_okq (⟨"PawnLaneModel", "dueInAll", "()I"⟩, 26) := ⟨⟨by decide +kernel, by decide +kernel⟩, List.mem_of_getElem? (i := 794) (by decide +kernel), List.mem_of_getElem? (i := 1070) (by decide +kernel), List.mem_of_getElem? (i := 1071) (by decide +kernel)⟩
def lw_privs_3 : List (MethodName × Nat) := [(⟨"PawnLaneModel", "isShop", "(I)Z"⟩, 26), (⟨"PawnLaneModel", "toldOf", "(II)I"⟩, 26), (⟨"PawnLaneModel", "dueIn", "(II)I"⟩, 26), (⟨"PawnLaneModel", "isPawned", "(I)Z"⟩, 26), (⟨"PawnLaneModel", "heldBy", "(I)I"⟩, 26), (⟨"PawnLaneModel", "isOf", "(II)Z"⟩, 26), (⟨"PawnLaneModel", "loansTo", "(I)I"⟩, 26), (⟨"PawnLaneModel", "dueTo", "(II)I"⟩, 26), (⟨"PawnLaneModel", "canNow", "()I"⟩, 26), (⟨"PawnLaneModel", "doRedeem", "(I)I"⟩, 26), (⟨"PawnLaneModel", "keepPast", "()V"⟩, 26), (⟨"PawnLaneModel", "doPawn", "(III)V"⟩, 26), (⟨"PawnLaneModel", "pawned", "()I"⟩, 26), (⟨"PawnLaneModel", "isOld", "()Z"⟩, 26), (⟨"PawnLaneModel", "doWeek", "()V"⟩, 26), (⟨"PawnLaneModel", "dueInAll", "()I"⟩, 26)]
theorem lw_r3 : ∀ q ∈ lw_privs_3, lw_okq q := List.forall_mem_cons.mpr ⟨lw_p32, List.forall_mem_cons.mpr ⟨lw_p33, List.forall_mem_cons.mpr ⟨lw_p34, List.forall_mem_cons.mpr ⟨lw_p35, List.forall_mem_cons.mpr ⟨lw_p36, List.forall_mem_cons.mpr ⟨lw_p37, List.forall_mem_cons.mpr ⟨lw_p38, List.forall_mem_cons.mpr ⟨lw_p39, List.forall_mem_cons.mpr ⟨lw_p40, List.forall_mem_cons.mpr ⟨lw_p41, List.forall_mem_cons.mpr ⟨lw_p42, List.forall_mem_cons.mpr ⟨lw_p43, List.forall_mem_cons.mpr ⟨lw_p44, List.forall_mem_cons.mpr ⟨lw_p45, List.forall_mem_cons.mpr ⟨lw_p46, List.forall_mem_cons.mpr ⟨lw_p47, fun _ h => absurd h List.not_mem_nil⟩⟩⟩⟩⟩⟩⟩⟩⟩⟩⟩⟩⟩⟩⟩⟩
theorem lw_p48 : lw_okq (⟨"PawnLaneModel", "doGive", "(II)I"⟩, 26) := ⟨⟨by decide +kernel, by decide +kernel⟩, List.mem_of_getElem? (i := 794) (by decide +kernel), List.mem_of_getElem? (i := 1079) (by decide +kernel), List.mem_of_getElem? (i := 1080) (by decide +kernel)⟩
theorem lw_p49 : lw_okq (⟨"PawnLaneModel", "copyLane", "(II)V"⟩, 26) := ⟨⟨by decide +kernel, by decide +kernel⟩, List.mem_of_getElem? (i := 794) (by decide +kernel), List.mem_of_getElem? (i := 1092) (by decide +kernel), List.mem_of_getElem? (i := 1093) (by decide +kernel)⟩
theorem lw_p50 : lw_okq (⟨"PawnLaneModel", "insideOf", "(I)I"⟩, 26) := ⟨⟨by decide +kernel, by decide +kernel⟩, List.mem_of_getElem? (i := 794) (by decide +kernel), List.mem_of_getElem? (i := 1108) (by decide +kernel), List.mem_of_getElem? (i := 1109) (by decide +kernel)⟩
theorem lw_p51 : lw_okq (⟨"PawnLaneModel", "ringOf", "(I)I"⟩, 26) := ⟨⟨by decide +kernel, by decide +kernel⟩, List.mem_of_getElem? (i := 794) (by decide +kernel), List.mem_of_getElem? (i := 1116) (by decide +kernel), List.mem_of_getElem? (i := 1117) (by decide +kernel)⟩
theorem lw_p52 : lw_okq (⟨"PawnLaneModel", "layTried", "(II)V"⟩, 26) := ⟨⟨by decide +kernel, by decide +kernel⟩, List.mem_of_getElem? (i := 794) (by decide +kernel), List.mem_of_getElem? (i := 1144) (by decide +kernel), List.mem_of_getElem? (i := 1145) (by decide +kernel)⟩
theorem lw_p53 : lw_okq (⟨"PawnLaneModel", "layOn", "()V"⟩, 26) := ⟨⟨by decide +kernel, by decide +kernel⟩, List.mem_of_getElem? (i := 794) (by decide +kernel), List.mem_of_getElem? (i := 1148) (by decide +kernel), List.mem_of_getElem? (i := 1149) (by decide +kernel)⟩
theorem lw_p54 : lw_okq (⟨"PawnLaneModel", "next", "(II)Z"⟩, 26) := ⟨⟨by decide +kernel, by decide +kernel⟩, List.mem_of_getElem? (i := 794) (by decide +kernel), List.mem_of_getElem? (i := 1152) (by decide +kernel), List.mem_of_getElem? (i := 1153) (by decide +kernel)⟩
theorem lw_p55 : lw_okq (⟨"PawnLaneModel", "cashBy", "(II)I"⟩, 26) := ⟨⟨by decide +kernel, by decide +kernel⟩, List.mem_of_getElem? (i := 794) (by decide +kernel), List.mem_of_getElem? (i := 1156) (by decide +kernel), List.mem_of_getElem? (i := 1157) (by decide +kernel)⟩
theorem lw_p56 : lw_okq (⟨"PawnLaneModel", "layWays", "()V"⟩, 26) := ⟨⟨by decide +kernel, by decide +kernel⟩, List.mem_of_getElem? (i := 794) (by decide +kernel), List.mem_of_getElem? (i := 1164) (by decide +kernel), List.mem_of_getElem? (i := 1165) (by decide +kernel)⟩
theorem lw_p57 : lw_okq (⟨"PawnLaneModel", "tellMany", "(J)I"⟩, 26) := ⟨⟨by decide +kernel, by decide +kernel⟩, List.mem_of_getElem? (i := 794) (by decide +kernel), List.mem_of_getElem? (i := 1168) (by decide +kernel), List.mem_of_getElem? (i := 1169) (by decide +kernel)⟩
theorem lw_p58 : lw_okq (⟨"PawnLaneModel", "canAll", "()Z"⟩, 26) := ⟨⟨by decide +kernel, by decide +kernel⟩, List.mem_of_getElem? (i := 794) (by decide +kernel), List.mem_of_getElem? (i := 1180) (by decide +kernel), List.mem_of_getElem? (i := 1181) (by decide +kernel)⟩
theorem lw_p59 : lw_okq (⟨"PawnLaneModel", "noRow", "(III)I"⟩, 26) := ⟨⟨by decide +kernel, by decide +kernel⟩, List.mem_of_getElem? (i := 794) (by decide +kernel), List.mem_of_getElem? (i := 1196) (by decide +kernel), List.mem_of_getElem? (i := 1197) (by decide +kernel)⟩
theorem lw_p60 : lw_okq (⟨"PawnLaneModel", "tellParts", "(JJ)I"⟩, 26) := ⟨⟨by decide +kernel, by decide +kernel⟩, List.mem_of_getElem? (i := 794) (by decide +kernel), List.mem_of_getElem? (i := 1217) (by decide +kernel), List.mem_of_getElem? (i := 1218) (by decide +kernel)⟩
theorem lw_p61 : lw_okq (⟨"PawnLaneModel", "doLot", "(J)V"⟩, 26) := ⟨⟨by decide +kernel, by decide +kernel⟩, List.mem_of_getElem? (i := 794) (by decide +kernel), List.mem_of_getElem? (i := 1229) (by decide +kernel), List.mem_of_getElem? (i := 1230) (by decide +kernel)⟩
theorem lw_p62 : lw_okq (⟨"PawnLaneModel", "countOf", "(I)I"⟩, 26) := ⟨⟨by decide +kernel, by decide +kernel⟩, List.mem_of_getElem? (i := 794) (by decide +kernel), List.mem_of_getElem? (i := 1252) (by decide +kernel), List.mem_of_getElem? (i := 1253) (by decide +kernel)⟩
theorem lw_p63 : lw_okq (⟨"PawnLaneModel", "cashOfAll", "()I"⟩, 26) := ⟨⟨by decide +kernel, by decide +kernel⟩, List.mem_of_getElem? (i := 794) (by decide +kernel), List.mem_of_getElem? (i := 1256) (by decide +kernel), List.mem_of_getElem? (i := 1257) (by decide +kernel)⟩
def lw_privs_4 : List (MethodName × Nat) := [(⟨"PawnLaneModel", "doGive", "(II)I"⟩, 26), (⟨"PawnLaneModel", "copyLane", "(II)V"⟩, 26), (⟨"PawnLaneModel", "insideOf", "(I)I"⟩, 26), (⟨"PawnLaneModel", "ringOf", "(I)I"⟩, 26), (⟨"PawnLaneModel", "layTried", "(II)V"⟩, 26), (⟨"PawnLaneModel", "layOn", "()V"⟩, 26), (⟨"PawnLaneModel", "next", "(II)Z"⟩, 26), (⟨"PawnLaneModel", "cashBy", "(II)I"⟩, 26), (⟨"PawnLaneModel", "layWays", "()V"⟩, 26), (⟨"PawnLaneModel", "tellMany", "(J)I"⟩, 26), (⟨"PawnLaneModel", "canAll", "()Z"⟩, 26), (⟨"PawnLaneModel", "noRow", "(III)I"⟩, 26), (⟨"PawnLaneModel", "tellParts", "(JJ)I"⟩, 26), (⟨"PawnLaneModel", "doLot", "(J)V"⟩, 26), (⟨"PawnLaneModel", "countOf", "(I)I"⟩, 26), (⟨"PawnLaneModel", "cashOfAll", "()I"⟩, 26)]
theorem lw_r4 : ∀ q ∈ lw_privs_4, lw_okq q := List.forall_mem_cons.mpr ⟨lw_p48, List.forall_mem_cons.mpr ⟨lw_p49, List.forall_mem_cons.mpr ⟨lw_p50, List.forall_mem_cons.mpr ⟨lw_p51, List.forall_mem_cons.mpr ⟨lw_p52, List.forall_mem_cons.mpr ⟨lw_p53, List.forall_mem_cons.mpr ⟨lw_p54, List.forall_mem_cons.mpr ⟨lw_p55, List.forall_mem_cons.mpr ⟨lw_p56, List.forall_mem_cons.mpr ⟨lw_p57, List.forall_mem_cons.mpr ⟨lw_p58, List.forall_mem_cons.mpr ⟨lw_p59, List.forall_mem_cons.mpr ⟨lw_p60, List.forall_mem_cons.mpr ⟨lw_p61, List.forall_mem_cons.mpr ⟨lw_p62, List.forall_mem_cons.mpr ⟨lw_p63, fun _ h => absurd h List.not_mem_nil⟩⟩⟩⟩⟩⟩⟩⟩⟩⟩⟩⟩⟩⟩⟩⟩
theorem lw_p64 : lw_okq (⟨"PawnLaneModel", "hawks", "()I"⟩, 26) := ⟨⟨by decide +kernel, by decide +kernel⟩, List.mem_of_getElem? (i := 794) (by decide +kernel), List.mem_of_getElem? (i := 1260) (by decide +kernel), List.mem_of_getElem? (i := 1261) (by decide +kernel)⟩
theorem lw_p65 : lw_okq (⟨"PawnLaneModel", "thereOf", "(I)I"⟩, 26) := ⟨⟨by decide +kernel, by decide +kernel⟩, List.mem_of_getElem? (i := 794) (by decide +kernel), List.mem_of_getElem? (i := 1264) (by decide +kernel), List.mem_of_getElem? (i := 1265) (by decide +kernel)⟩
def lw_privs_5 : List (MethodName × Nat) := [(⟨"PawnLaneModel", "hawks", "()I"⟩, 26), (⟨"PawnLaneModel", "thereOf", "(I)I"⟩, 26)]
theorem lw_r5 : ∀ q ∈ lw_privs_5, lw_okq q := List.forall_mem_cons.mpr ⟨lw_p64, List.forall_mem_cons.mpr ⟨lw_p65, fun _ h => absurd h List.not_mem_nil⟩⟩
def lw_privs : List (MethodName × Nat) := lw_privs_1 ++ (lw_privs_2 ++ (lw_privs_3 ++ (lw_privs_4 ++ (lw_privs_5))))
def lw_tbl : List Cond := k2_sels lw_privs ++ tables_1
theorem lw_privs_ok : ∀ q ∈ lw_privs, lw_okq q := by
  show ∀ q ∈ lw_privs_1 ++ (lw_privs_2 ++ (lw_privs_3 ++ (lw_privs_4 ++ (lw_privs_5)))), lw_okq q
  exact List.forall_mem_append.mpr ⟨lw_r1, List.forall_mem_append.mpr ⟨lw_r2, List.forall_mem_append.mpr ⟨lw_r3, List.forall_mem_append.mpr ⟨lw_r4, lw_r5⟩⟩⟩⟩
-- ===== end of PART A; then your names; then what follows =====
end
section
/-! ===== BEGIN printed: names, fields, word lists, decode rows ===== -/
def RX0 : String := "PawnLane$Deeds"
def TX0 : u_T := fun k => match k with
  | 0 => ("PawnLane$Deeds", "packed", "[I", true)
  | _ => ("PawnLane$Deeds", "size", "I", false)
def tyX0 : Nat → FieldType := fun k => match k with
  | 0 => .array .int
  | _ => .int
abbrev wsX00 : List Cond := u_ws RX0 TX0 2
theorem nmX0 : ∀ a, a < 2 → ∀ b, b < 2 → a ≠ b → (TX0 a).2.1 ≠ (TX0 b).2.1 := by decide +kernel
theorem tyX0_ok : ∀ k, k < 2 → parseFieldDescriptor (TX0 k).2.2.1 = some (tyX0 k) := by decide +kernel
abbrev cX0_init : ByteArray := prog_2_method_1_code
def yX0_init : MethodName := ⟨RX0, "<init>", "()V"⟩
abbrev cX0_hasRoom : ByteArray := prog_2_method_2_code
def yX0_hasRoom : MethodName := ⟨RX0, "hasRoom", "(I)Z"⟩
abbrev cX0_add : ByteArray := prog_2_method_3_code
def yX0_add : MethodName := ⟨RX0, "add", "(IIIII)V"⟩
abbrev cX0_removeLast : ByteArray := prog_2_method_4_code
def yX0_removeLast : MethodName := ⟨RX0, "removeLast", "()V"⟩
abbrev cX0_becomeLike : ByteArray := prog_2_method_5_code
def yX0_becomeLike : MethodName := ⟨RX0, "becomeLike", "(LPawnLane$Deeds;)V"⟩
abbrev cX0_whatOf : ByteArray := prog_2_method_6_code
def yX0_whatOf : MethodName := ⟨RX0, "whatOf", "(I)I"⟩
abbrev cX0_shopOf : ByteArray := prog_2_method_7_code
def yX0_shopOf : MethodName := ⟨RX0, "shopOf", "(I)I"⟩
abbrev cX0_otherOf : ByteArray := prog_2_method_8_code
def yX0_otherOf : MethodName := ⟨RX0, "otherOf", "(I)I"⟩
abbrev cX0_numberOf : ByteArray := prog_2_method_9_code
def yX0_numberOf : MethodName := ⟨RX0, "numberOf", "(I)I"⟩
abbrev cX0_weeksOf : ByteArray := prog_2_method_10_code
def yX0_weeksOf : MethodName := ⟨RX0, "weeksOf", "(I)I"⟩
def RX1 : String := "PawnLane$Lane"
def TX1 : u_T := fun k => match k with
  | 0 => ("PawnLane$Lane", "shops", "I", false)
  | 1 => ("PawnLane$Lane", "kind", "[I", true)
  | 2 => ("PawnLane$Lane", "cash", "[I", true)
  | 3 => ("PawnLane$Lane", "stock", "[I", true)
  | 4 => ("PawnLane$Lane", "holder", "[I", true)
  | 5 => ("PawnLane$Lane", "loan", "[I", true)
  | 6 => ("PawnLane$Lane", "weeks", "[I", true)
  | _ => ("PawnLane$Lane", "deeds", "LPawnLane$Deeds;", true)
def tyX1 : Nat → FieldType := fun k => match k with
  | 0 => .int
  | 1 => .array .int
  | 2 => .array .int
  | 3 => .array .int
  | 4 => .array .int
  | 5 => .array .int
  | 6 => .array .int
  | _ => .object "PawnLane$Deeds"
abbrev wsX10 : List Cond := u_ws RX1 TX1 8
theorem nmX1 : ∀ a, a < 8 → ∀ b, b < 8 → a ≠ b → (TX1 a).2.1 ≠ (TX1 b).2.1 := by decide +kernel
theorem tyX1_ok : ∀ k, k < 8 → parseFieldDescriptor (TX1 k).2.2.1 = some (tyX1 k) := by decide +kernel
abbrev cX1_init : ByteArray := prog_3_method_1_code
def yX1_init : MethodName := ⟨RX1, "<init>", "()V"⟩
abbrev cX1_clear : ByteArray := prog_3_method_2_code
def yX1_clear : MethodName := ⟨RX1, "clear", "()V"⟩
abbrev cX1_becomeLike : ByteArray := prog_3_method_3_code
def yX1_becomeLike : MethodName := ⟨RX1, "becomeLike", "(LPawnLane$Lane;)V"⟩
abbrev cX1_addShop : ByteArray := prog_3_method_4_code
def yX1_addShop : MethodName := ⟨RX1, "addShop", "(I)V"⟩
abbrev cX1_setTicket : ByteArray := prog_3_method_5_code
def yX1_setTicket : MethodName := ⟨RX1, "setTicket", "(IIII)V"⟩
abbrev cX1_removeTicket : ByteArray := prog_3_method_6_code
def yX1_removeTicket : MethodName := ⟨RX1, "removeTicket", "(I)V"⟩
abbrev cX1_isShop : ByteArray := prog_3_method_7_code
def yX1_isShop : MethodName := ⟨RX1, "isShop", "(I)Z"⟩
abbrev cX1_isPawned : ByteArray := prog_3_method_8_code
def yX1_isPawned : MethodName := ⟨RX1, "isPawned", "(I)Z"⟩
abbrev cX1_isHeldIn : ByteArray := prog_3_method_9_code
def yX1_isHeldIn : MethodName := ⟨RX1, "isHeldIn", "(II)Z"⟩
abbrev cX1_pawnedSet : ByteArray := prog_3_method_10_code
def yX1_pawnedSet : MethodName := ⟨RX1, "pawnedSet", "()I"⟩
abbrev cX1_heldBy : ByteArray := prog_3_method_11_code
def yX1_heldBy : MethodName := ⟨RX1, "heldBy", "(I)I"⟩
abbrev cX1_dueOf : ByteArray := prog_3_method_12_code
def yX1_dueOf : MethodName := ⟨RX1, "dueOf", "(II)I"⟩
abbrev cX1_dueTo : ByteArray := prog_3_method_13_code
def yX1_dueTo : MethodName := ⟨RX1, "dueTo", "(II)I"⟩
abbrev cX1_loansTo : ByteArray := prog_3_method_14_code
def yX1_loansTo : MethodName := ⟨RX1, "loansTo", "(I)I"⟩
abbrev cX1_dueInAll : ByteArray := prog_3_method_15_code
def yX1_dueInAll : MethodName := ⟨RX1, "dueInAll", "()I"⟩
abbrev cX1_cashInAll : ByteArray := prog_3_method_16_code
def yX1_cashInAll : MethodName := ⟨RX1, "cashInAll", "()I"⟩
abbrev cX1_stockOf : ByteArray := prog_3_method_17_code
def yX1_stockOf : MethodName := ⟨RX1, "stockOf", "(I)I"⟩
abbrev cX1_howManyOf : ByteArray := prog_3_method_18_code
def yX1_howManyOf : MethodName := ⟨RX1, "howManyOf", "(I)I"⟩
abbrev cX1_oldestTicket : ByteArray := prog_3_method_19_code
def yX1_oldestTicket : MethodName := ⟨RX1, "oldestTicket", "()I"⟩
abbrev cX1_insideOf : ByteArray := prog_3_method_20_code
def yX1_insideOf : MethodName := ⟨RX1, "insideOf", "(I)I"⟩
abbrev cX1_ringOf : ByteArray := prog_3_method_21_code
def yX1_ringOf : MethodName := ⟨RX1, "ringOf", "(I)I"⟩
abbrev cX1_shutBy : ByteArray := prog_3_method_22_code
def yX1_shutBy : MethodName := ⟨RX1, "shutBy", "(I)I"⟩
abbrev cX1_ruinsHolder : ByteArray := prog_3_method_23_code
def yX1_ruinsHolder : MethodName := ⟨RX1, "ruinsHolder", "(I)Z"⟩
abbrev cX1_canRedeem : ByteArray := prog_3_method_24_code
def yX1_canRedeem : MethodName := ⟨RX1, "canRedeem", "(I)Z"⟩
abbrev cX1_canPawn : ByteArray := prog_3_method_25_code
def yX1_canPawn : MethodName := ⟨RX1, "canPawn", "(III)Z"⟩
abbrev cX1_doRedeem : ByteArray := prog_3_method_26_code
def yX1_doRedeem : MethodName := ⟨RX1, "doRedeem", "(I)I"⟩
abbrev cX1_doPawn : ByteArray := prog_3_method_27_code
def yX1_doPawn : MethodName := ⟨RX1, "doPawn", "(III)V"⟩
abbrev cX1_doWeek : ByteArray := prog_3_method_28_code
def yX1_doWeek : MethodName := ⟨RX1, "doWeek", "()V"⟩
abbrev cX1_doGive : ByteArray := prog_3_method_29_code
def yX1_doGive : MethodName := ⟨RX1, "doGive", "(II)V"⟩
abbrev cX1_doByLot : ByteArray := prog_3_method_30_code
def yX1_doByLot : MethodName := ⟨RX1, "doByLot", "(I)V"⟩
abbrev cX1_undoLast : ByteArray := prog_3_method_31_code
def yX1_undoLast : MethodName := ⟨RX1, "undoLast", "()V"⟩
abbrev cX1_pay : ByteArray := prog_3_method_32_code
def yX1_pay : MethodName := ⟨RX1, "pay", "(III)V"⟩
abbrev cX1_ageTickets : ByteArray := prog_3_method_33_code
def yX1_ageTickets : MethodName := ⟨RX1, "ageTickets", "(I)V"⟩
def RX2 : String := "PawnLane$Orders"
def TX2 : u_T := fun k => match k with
  | 0 => ("PawnLane$Orders", "shops", "I", false)
  | 1 => ("PawnLane$Orders", "pawned", "I", false)
  | 2 => ("PawnLane$Orders", "cash", "[I", true)
  | 3 => ("PawnLane$Orders", "holder", "[I", true)
  | 4 => ("PawnLane$Orders", "due", "[I", true)
  | _ => ("PawnLane$Orders", "bySet", "[I", true)
def tyX2 : Nat → FieldType := fun k => match k with
  | 0 => .int
  | 1 => .int
  | 2 => .array .int
  | 3 => .array .int
  | 4 => .array .int
  | _ => .array .int
abbrev wsX20 : List Cond := u_ws RX2 TX2 6
theorem nmX2 : ∀ a, a < 6 → ∀ b, b < 6 → a ≠ b → (TX2 a).2.1 ≠ (TX2 b).2.1 := by decide +kernel
theorem tyX2_ok : ∀ k, k < 6 → parseFieldDescriptor (TX2 k).2.2.1 = some (tyX2 k) := by decide +kernel
abbrev cX2_init : ByteArray := prog_4_method_1_code
def yX2_init : MethodName := ⟨RX2, "<init>", "()V"⟩
abbrev cX2_lookAt : ByteArray := prog_4_method_2_code
def yX2_lookAt : MethodName := ⟨RX2, "lookAt", "(LPawnLane$Lane;I)V"⟩
abbrev cX2_cashAfter : ByteArray := prog_4_method_3_code
def yX2_cashAfter : MethodName := ⟨RX2, "cashAfter", "(II)I"⟩
abbrev cX2_isLeft : ByteArray := prog_4_method_4_code
def yX2_isLeft : MethodName := ⟨RX2, "isLeft", "(II)Z"⟩
abbrev cX2_goesOn : ByteArray := prog_4_method_5_code
def yX2_goesOn : MethodName := ⟨RX2, "goesOn", "(II)Z"⟩
abbrev cX2_nextAfter : ByteArray := prog_4_method_6_code
def yX2_nextAfter : MethodName := ⟨RX2, "nextAfter", "(I)I"⟩
abbrev cX2_isStep : ByteArray := prog_4_method_7_code
def yX2_isStep : MethodName := ⟨RX2, "isStep", "(II)Z"⟩
abbrev cX2_countFrom : ByteArray := prog_4_method_8_code
def yX2_countFrom : MethodName := ⟨RX2, "countFrom", "(I)V"⟩
abbrev cX2_countOf : ByteArray := prog_4_method_9_code
def yX2_countOf : MethodName := ⟨RX2, "countOf", "(I)I"⟩
abbrev cX2_largest : ByteArray := prog_4_method_10_code
def yX2_largest : MethodName := ⟨RX2, "largest", "()I"⟩
abbrev cX2_measureTo : ByteArray := prog_4_method_11_code
def yX2_measureTo : MethodName := ⟨RX2, "measureTo", "(I)V"⟩
abbrev cX2_stepsBy : ByteArray := prog_4_method_12_code
def yX2_stepsBy : MethodName := ⟨RX2, "stepsBy", "(II)I"⟩
abbrev cX2_stepsFrom : ByteArray := prog_4_method_13_code
def yX2_stepsFrom : MethodName := ⟨RX2, "stepsFrom", "(I)I"⟩
abbrev cX2_firstNearer : ByteArray := prog_4_method_14_code
def yX2_firstNearer : MethodName := ⟨RX2, "firstNearer", "(I)I"⟩
abbrev cX2_needOf : ByteArray := prog_4_method_15_code
def yX2_needOf : MethodName := ⟨RX2, "needOf", "(I)I"⟩
abbrev cX2_spreadNeed : ByteArray := prog_4_method_16_code
def yX2_spreadNeed : MethodName := ⟨RX2, "spreadNeed", "(II)V"⟩
def RX3 : String := "PawnLane$Reader"
def TX3 : u_T := fun k => match k with
  | 0 => ("PawnLane$Reader", "draft", "LPawnLane$Lane;", true)
  | 1 => ("PawnLane$Reader", "awaited", "I", false)
  | 2 => ("PawnLane$Reader", "ticketsBegan", "Z", false)
  | 3 => ("PawnLane$Reader", "pawned", "I", false)
  | _ => ("PawnLane$Reader", "holder", "I", false)
def tyX3 : Nat → FieldType := fun k => match k with
  | 0 => .object "PawnLane$Lane"
  | 1 => .int
  | 2 => .boolean
  | 3 => .int
  | _ => .int
abbrev wsX30 : List Cond := u_ws RX3 TX3 5
theorem nmX3 : ∀ a, a < 5 → ∀ b, b < 5 → a ≠ b → (TX3 a).2.1 ≠ (TX3 b).2.1 := by decide +kernel
theorem tyX3_ok : ∀ k, k < 5 → parseFieldDescriptor (TX3 k).2.2.1 = some (tyX3 k) := by decide +kernel
abbrev cX3_init : ByteArray := prog_5_method_1_code
def yX3_init : MethodName := ⟨RX3, "<init>", "()V"⟩
abbrev cX3_faultOf : ByteArray := prog_5_method_2_code
def yX3_faultOf : MethodName := ⟨RX3, "faultOf", "(LPawnLane$Sheets;I)I"⟩
abbrev cX3_takes : ByteArray := prog_5_method_3_code
def yX3_takes : MethodName := ⟨RX3, "takes", "(I)Z"⟩
abbrev cX3_beginsItem : ByteArray := prog_5_method_4_code
def yX3_beginsItem : MethodName := ⟨RX3, "beginsItem", "(I)Z"⟩
abbrev cX3_takesOfShop : ByteArray := prog_5_method_5_code
def yX3_takesOfShop : MethodName := ⟨RX3, "takesOfShop", "(I)Z"⟩
abbrev cX3_takesOfTicket : ByteArray := prog_5_method_6_code
def yX3_takesOfTicket : MethodName := ⟨RX3, "takesOfTicket", "(I)Z"⟩
abbrev cX3_kindOf : ByteArray := prog_5_method_7_code
def yX3_kindOf : MethodName := ⟨RX3, "kindOf", "(I)I"⟩
def RX4 : String := "PawnLane$Sheets"
def TX4 : u_T := fun k => match k with
  | 0 => ("PawnLane$Sheets", "width", "I", true)
  | 1 => ("PawnLane$Sheets", "sizes", "[I", true)
  | _ => ("PawnLane$Sheets", "places", "[I", true)
def tyX4 : Nat → FieldType := fun k => match k with
  | 0 => .int
  | 1 => .array .int
  | _ => .array .int
abbrev wsX40 : List Cond := u_ws RX4 TX4 3
theorem nmX4 : ∀ a, a < 3 → ∀ b, b < 3 → a ≠ b → (TX4 a).2.1 ≠ (TX4 b).2.1 := by decide +kernel
theorem tyX4_ok : ∀ k, k < 3 → parseFieldDescriptor (TX4 k).2.2.1 = some (tyX4 k) := by decide +kernel
abbrev cX4_init : ByteArray := prog_6_method_1_code
def yX4_init : MethodName := ⟨RX4, "<init>", "(II)V"⟩
abbrev cX4_isNumber : ByteArray := prog_6_method_2_code
def yX4_isNumber : MethodName := ⟨RX4, "isNumber", "(I)Z"⟩
abbrev cX4_isThere : ByteArray := prog_6_method_3_code
def yX4_isThere : MethodName := ⟨RX4, "isThere", "(I)Z"⟩
abbrev cX4_sizeOf : ByteArray := prog_6_method_4_code
def yX4_sizeOf : MethodName := ⟨RX4, "sizeOf", "(I)I"⟩
abbrev cX4_hasPlaces : ByteArray := prog_6_method_5_code
def yX4_hasPlaces : MethodName := ⟨RX4, "hasPlaces", "(III)Z"⟩
abbrev cX4_begin : ByteArray := prog_6_method_6_code
def yX4_begin : MethodName := ⟨RX4, "begin", "(III)V"⟩
abbrev cX4_remove : ByteArray := prog_6_method_7_code
def yX4_remove : MethodName := ⟨RX4, "remove", "(I)V"⟩
abbrev cX4_valueAt : ByteArray := prog_6_method_8_code
def yX4_valueAt : MethodName := ⟨RX4, "valueAt", "(II)I"⟩
abbrev cX4_setValue : ByteArray := prog_6_method_9_code
def yX4_setValue : MethodName := ⟨RX4, "setValue", "(III)V"⟩
abbrev cX4_move : ByteArray := prog_6_method_10_code
def yX4_move : MethodName := ⟨RX4, "move", "(IIIII)V"⟩
abbrev cX4_sumOf : ByteArray := prog_6_method_11_code
def yX4_sumOf : MethodName := ⟨RX4, "sumOf", "(I)J"⟩
abbrev cX4_allBelow : ByteArray := prog_6_method_12_code
def yX4_allBelow : MethodName := ⟨RX4, "allBelow", "(II)Z"⟩
abbrev cX4_howMany : ByteArray := prog_6_method_13_code
def yX4_howMany : MethodName := ⟨RX4, "howMany", "()I"⟩
abbrev cX4_digestOnto : ByteArray := prog_6_method_14_code
def yX4_digestOnto : MethodName := ⟨RX4, "digestOnto", "(J)J"⟩
def RX5 : String := "PawnLane"
def TX5 : u_T := fun k => match k with
  | 0 => ("PawnLane", "rows", "LPawnLane$Sheets;", true)
  | 1 => ("PawnLane", "texts", "LPawnLane$Sheets;", true)
  | 2 => ("PawnLane", "reader", "LPawnLane$Reader;", true)
  | 3 => ("PawnLane", "lane", "LPawnLane$Lane;", true)
  | 4 => ("PawnLane", "kept", "[LPawnLane$Lane;", true)
  | 5 => ("PawnLane", "orders", "LPawnLane$Orders;", true)
  | 6 => ("PawnLane", "findingTimes", "[I", true)
  | 7 => ("PawnLane", "latestFinding", "I", false)
  | 8 => ("PawnLane", "answer", "I", false)
  | 9 => ("PawnLane", "numerator", "J", false)
  | _ => ("PawnLane", "denominator", "J", false)
def tyX5 : Nat → FieldType := fun k => match k with
  | 0 => .object "PawnLane$Sheets"
  | 1 => .object "PawnLane$Sheets"
  | 2 => .object "PawnLane$Reader"
  | 3 => .object "PawnLane$Lane"
  | 4 => .array (.object "PawnLane$Lane")
  | 5 => .object "PawnLane$Orders"
  | 6 => .array .int
  | 7 => .int
  | 8 => .int
  | 9 => .long
  | _ => .long
abbrev wsX50 : List Cond := u_ws RX5 TX5 11
theorem nmX5 : ∀ a, a < 11 → ∀ b, b < 11 → a ≠ b → (TX5 a).2.1 ≠ (TX5 b).2.1 := by decide +kernel
theorem tyX5_ok : ∀ k, k < 11 → parseFieldDescriptor (TX5 k).2.2.1 = some (tyX5 k) := by decide +kernel
abbrev cX5_init : ByteArray := prog_1_method_1_code
def yX5_init : MethodName := ⟨RX5, "<init>", "()V"⟩
abbrev cX5_row : ByteArray := prog_1_method_2_code
def yX5_row : MethodName := ⟨RX5, "row", "(II)I"⟩
abbrev cX5_lay : ByteArray := prog_1_method_3_code
def yX5_lay : MethodName := ⟨RX5, "lay", "(III)I"⟩
abbrev cX5_at : ByteArray := prog_1_method_4_code
def yX5_at : MethodName := ⟨RX5, "at", "(II)I"⟩
abbrev cX5_tear : ByteArray := prog_1_method_5_code
def yX5_tear : MethodName := ⟨RX5, "tear", "(I)I"⟩
abbrev cX5_copy : ByteArray := prog_1_method_6_code
def yX5_copy : MethodName := ⟨RX5, "copy", "(IIIII)I"⟩
abbrev cX5_mean : ByteArray := prog_1_method_7_code
def yX5_mean : MethodName := ⟨RX5, "mean", "(I)I"⟩
abbrev cX5_text : ByteArray := prog_1_method_8_code
def yX5_text : MethodName := ⟨RX5, "text", "(II)I"⟩
abbrev cX5_put : ByteArray := prog_1_method_9_code
def yX5_put : MethodName := ⟨RX5, "put", "(III)I"⟩
abbrev cX5_fault : ByteArray := prog_1_method_10_code
def yX5_fault : MethodName := ⟨RX5, "fault", "(I)I"⟩
abbrev cX5_lane : ByteArray := prog_1_method_11_code
def yX5_lane : MethodName := ⟨RX5, "lane", "(I)I"⟩
abbrev cX5_shop : ByteArray := prog_1_method_12_code
def yX5_shop : MethodName := ⟨RX5, "shop", "(II)I"⟩
abbrev cX5_mark : ByteArray := prog_1_method_13_code
def yX5_mark : MethodName := ⟨RX5, "mark", "(II)I"⟩
abbrev cX5_stock : ByteArray := prog_1_method_14_code
def yX5_stock : MethodName := ⟨RX5, "stock", "(II)I"⟩
abbrev cX5_redeem : ByteArray := prog_1_method_15_code
def yX5_redeem : MethodName := ⟨RX5, "redeem", "(I)I"⟩
abbrev cX5_pawn : ByteArray := prog_1_method_16_code
def yX5_pawn : MethodName := ⟨RX5, "pawn", "(III)I"⟩
abbrev cX5_week : ByteArray := prog_1_method_17_code
def yX5_week : MethodName := ⟨RX5, "week", "()I"⟩
abbrev cX5_give : ByteArray := prog_1_method_18_code
def yX5_give : MethodName := ⟨RX5, "give", "(II)I"⟩
abbrev cX5_undo : ByteArray := prog_1_method_19_code
def yX5_undo : MethodName := ⟨RX5, "undo", "(I)I"⟩
abbrev cX5_keep : ByteArray := prog_1_method_20_code
def yX5_keep : MethodName := ⟨RX5, "keep", "(I)I"⟩
abbrev cX5_on : ByteArray := prog_1_method_21_code
def yX5_on : MethodName := ⟨RX5, "on", "(I)I"⟩
abbrev cX5_deep : ByteArray := prog_1_method_22_code
def yX5_deep : MethodName := ⟨RX5, "deep", "(I)I"⟩
abbrev cX5_inside : ByteArray := prog_1_method_23_code
def yX5_inside : MethodName := ⟨RX5, "inside", "(I)I"⟩
abbrev cX5_rings : ByteArray := prog_1_method_24_code
def yX5_rings : MethodName := ⟨RX5, "rings", "()I"⟩
abbrev cX5_goods : ByteArray := prog_1_method_25_code
def yX5_goods : MethodName := ⟨RX5, "goods", "(I)I"⟩
abbrev cX5_hangs : ByteArray := prog_1_method_26_code
def yX5_hangs : MethodName := ⟨RX5, "hangs", "()I"⟩
abbrev cX5_worth : ByteArray := prog_1_method_27_code
def yX5_worth : MethodName := ⟨RX5, "worth", "(I)I"⟩
abbrev cX5_chalk : ByteArray := prog_1_method_28_code
def yX5_chalk : MethodName := ⟨RX5, "chalk", "(II)I"⟩
abbrev cX5_can : ByteArray := prog_1_method_29_code
def yX5_can : MethodName := ⟨RX5, "can", "()I"⟩
abbrev cX5_order : ByteArray := prog_1_method_30_code
def yX5_order : MethodName := ⟨RX5, "order", "(I)I"⟩
abbrev cX5_ways : ByteArray := prog_1_method_31_code
def yX5_ways : MethodName := ⟨RX5, "ways", "()I"⟩
abbrev cX5_most : ByteArray := prog_1_method_32_code
def yX5_most : MethodName := ⟨RX5, "most", "()I"⟩
abbrev cX5_least : ByteArray := prog_1_method_33_code
def yX5_least : MethodName := ⟨RX5, "least", "()I"⟩
abbrev cX5_free : ByteArray := prog_1_method_34_code
def yX5_free : MethodName := ⟨RX5, "free", "(II)I"⟩
abbrev cX5_till : ByteArray := prog_1_method_35_code
def yX5_till : MethodName := ⟨RX5, "till", "()I"⟩
abbrev cX5_run : ByteArray := prog_1_method_36_code
def yX5_run : MethodName := ⟨RX5, "run", "(I)I"⟩
abbrev cX5_shuts : ByteArray := prog_1_method_37_code
def yX5_shuts : MethodName := ⟨RX5, "shuts", "(I)I"⟩
abbrev cX5_missing : ByteArray := prog_1_method_38_code
def yX5_missing : MethodName := ⟨RX5, "missing", "(I)I"⟩
abbrev cX5_through : ByteArray := prog_1_method_39_code
def yX5_through : MethodName := ⟨RX5, "through", "(I)I"⟩
abbrev cX5_odds : ByteArray := prog_1_method_40_code
def yX5_odds : MethodName := ⟨RX5, "odds", "(I)I"⟩
abbrev cX5_lots : ByteArray := prog_1_method_41_code
def yX5_lots : MethodName := ⟨RX5, "lots", "(II)I"⟩
abbrev cX5_asked : ByteArray := prog_1_method_42_code
def yX5_asked : MethodName := ⟨RX5, "asked", "()I"⟩
abbrev cX5_upper : ByteArray := prog_1_method_43_code
def yX5_upper : MethodName := ⟨RX5, "upper", "()J"⟩
abbrev cX5_lower : ByteArray := prog_1_method_44_code
def yX5_lower : MethodName := ⟨RX5, "lower", "()J"⟩
abbrev cX5_count : ByteArray := prog_1_method_45_code
def yX5_count : MethodName := ⟨RX5, "count", "(I)I"⟩
abbrev cX5_finding : ByteArray := prog_1_method_46_code
def yX5_finding : MethodName := ⟨RX5, "finding", "()I"⟩
abbrev cX5_findings : ByteArray := prog_1_method_47_code
def yX5_findings : MethodName := ⟨RX5, "findings", "(I)I"⟩
abbrev cX5_digest : ByteArray := prog_1_method_48_code
def yX5_digest : MethodName := ⟨RX5, "digest", "()J"⟩
abbrev cX5_found : ByteArray := prog_1_method_49_code
def yX5_found : MethodName := ⟨RX5, "found", "(I)I"⟩
abbrev cX5_refusalOfSheet : ByteArray := prog_1_method_50_code
def yX5_refusalOfSheet : MethodName := ⟨RX5, "refusalOfSheet", "(LPawnLane$Sheets;I)I"⟩
abbrev cX5_refusalOfPlace : ByteArray := prog_1_method_51_code
def yX5_refusalOfPlace : MethodName := ⟨RX5, "refusalOfPlace", "(LPawnLane$Sheets;II)I"⟩
abbrev cX5_refusalOfAside : ByteArray := prog_1_method_52_code
def yX5_refusalOfAside : MethodName := ⟨RX5, "refusalOfAside", "(I)I"⟩
abbrev cX5_refusalOfOrder : ByteArray := prog_1_method_53_code
def yX5_refusalOfOrder : MethodName := ⟨RX5, "refusalOfOrder", "(I)I"⟩
abbrev cX5_refusalOfSets : ByteArray := prog_1_method_54_code
def yX5_refusalOfSets : MethodName := ⟨RX5, "refusalOfSets", "(I)I"⟩
abbrev cX5_firstOrderTo : ByteArray := prog_1_method_55_code
def yX5_firstOrderTo : MethodName := ⟨RX5, "firstOrderTo", "(II)I"⟩
abbrev cX5_tell : ByteArray := prog_1_method_56_code
def yX5_tell : MethodName := ⟨RX5, "tell", "(JJ)V"⟩
abbrev cX5_toldOfShop : ByteArray := prog_1_method_57_code
def yX5_toldOfShop : MethodName := ⟨RX5, "toldOfShop", "(II)I"⟩
abbrev cX5_counted : ByteArray := prog_1_method_58_code
def yX5_counted : MethodName := ⟨RX5, "counted", "(I)I"⟩
abbrev cX5_keptLanes : ByteArray := prog_1_method_59_code
def yX5_keptLanes : MethodName := ⟨RX5, "keptLanes", "()I"⟩
abbrev cX5_isIn : ByteArray := prog_1_method_60_code
def yX5_isIn : MethodName := ⟨RX5, "isIn", "(II)Z"⟩
abbrev cX5_isOfKind : ByteArray := prog_1_method_61_code
def yX5_isOfKind : MethodName := ⟨RX5, "isOfKind", "(II)Z"⟩
abbrev cX5_dueWith : ByteArray := prog_1_method_62_code
def yX5_dueWith : MethodName := ⟨RX5, "dueWith", "(III)I"⟩
abbrev cX5_chalked : ByteArray := prog_1_method_63_code
def yX5_chalked : MethodName := ⟨RX5, "chalked", "(LPawnLane$Lane;II)I"⟩
abbrev cX5_power : ByteArray := prog_1_method_64_code
def yX5_power : MethodName := ⟨RX5, "power", "(II)J"⟩
abbrev cX5_commonDivisor : ByteArray := prog_1_method_65_code
def yX5_commonDivisor : MethodName := ⟨RX5, "commonDivisor", "(JJ)J"⟩
def RX6 : String := "PawnLaneModel"
def TX6 : u_T := fun k => match k with
  | 0 => ("PawnLaneModel", "row", "[I", true)
  | 1 => ("PawnLaneModel", "shops", "I", false)
  | 2 => ("PawnLaneModel", "kinds", "[I", true)
  | 3 => ("PawnLaneModel", "sizes", "[I", true)
  | 4 => ("PawnLaneModel", "items", "[I", true)
  | 5 => ("PawnLaneModel", "lengths", "[I", true)
  | 6 => ("PawnLaneModel", "bytes", "[I", true)
  | 7 => ("PawnLaneModel", "asked", "I", false)
  | 8 => ("PawnLaneModel", "upper", "J", false)
  | 9 => ("PawnLaneModel", "lower", "J", false)
  | 10 => ("PawnLaneModel", "finding", "I", false)
  | 11 => ("PawnLaneModel", "findings", "[I", true)
  | 12 => ("PawnLaneModel", "from", "I", false)
  | 13 => ("PawnLaneModel", "place", "I", false)
  | 14 => ("PawnLaneModel", "end", "I", false)
  | 15 => ("PawnLaneModel", "readShops", "[I", true)
  | 16 => ("PawnLaneModel", "readMany", "I", false)
  | 17 => ("PawnLaneModel", "readTickets", "I", false)
  | 18 => ("PawnLaneModel", "chalked", "[I", true)
  | 19 => ("PawnLaneModel", "more", "[I", true)
  | 20 => ("PawnLaneModel", "due", "[I", true)
  | 21 => ("PawnLaneModel", "cash", "[I", true)
  | 22 => ("PawnLaneModel", "all", "I", false)
  | 23 => ("PawnLaneModel", "ways", "[J", true)
  | 24 => ("PawnLaneModel", "on", "[J", true)
  | _ => ("PawnLaneModel", "soon", "[I", true)
def tyX6 : Nat → FieldType := fun k => match k with
  | 0 => .array .int
  | 1 => .int
  | 2 => .array .int
  | 3 => .array .int
  | 4 => .array .int
  | 5 => .array .int
  | 6 => .array .int
  | 7 => .int
  | 8 => .long
  | 9 => .long
  | 10 => .int
  | 11 => .array .int
  | 12 => .int
  | 13 => .int
  | 14 => .int
  | 15 => .array .int
  | 16 => .int
  | 17 => .int
  | 18 => .array .int
  | 19 => .array .int
  | 20 => .array .int
  | 21 => .array .int
  | 22 => .int
  | 23 => .array .long
  | 24 => .array .long
  | _ => .array .int
abbrev wsX60 : List Cond := u_ws RX6 TX6 26
theorem nmX6 : ∀ a, a < 26 → ∀ b, b < 26 → a ≠ b → (TX6 a).2.1 ≠ (TX6 b).2.1 := by decide +kernel
theorem tyX6_ok : ∀ k, k < 26 → parseFieldDescriptor (TX6 k).2.2.1 = some (tyX6 k) := by decide +kernel
abbrev cX6_init : ByteArray := prog_8_method_1_code
def yX6_init : MethodName := ⟨RX6, "<init>", "()V"⟩
abbrev cX6_bits : ByteArray := prog_8_method_2_code
def yX6_bits : MethodName := ⟨RX6, "bits", "(I)I"⟩
abbrev cX6_in : ByteArray := prog_8_method_3_code
def yX6_in : MethodName := ⟨RX6, "in", "(JJJ)Z"⟩
abbrev cX6_has : ByteArray := prog_8_method_4_code
def yX6_has : MethodName := ⟨RX6, "has", "(II)Z"⟩
abbrev cX6_find : ByteArray := prog_8_method_5_code
def yX6_find : MethodName := ⟨RX6, "find", "(I)I"⟩
abbrev cX6_tell : ByteArray := prog_8_method_6_code
def yX6_tell : MethodName := ⟨RX6, "tell", "(I)I"⟩
abbrev cX6_isRow : ByteArray := prog_8_method_7_code
def yX6_isRow : MethodName := ⟨RX6, "isRow", "(I)Z"⟩
abbrev cX6_isText : ByteArray := prog_8_method_8_code
def yX6_isText : MethodName := ⟨RX6, "isText", "(I)Z"⟩
abbrev cX6_row : ByteArray := prog_8_method_9_code
def yX6_row : MethodName := ⟨RX6, "row", "(II)I"⟩
abbrev cX6_makeRow : ByteArray := prog_8_method_10_code
def yX6_makeRow : MethodName := ⟨RX6, "makeRow", "(II)V"⟩
abbrev cX6_refused : ByteArray := prog_8_method_11_code
def yX6_refused : MethodName := ⟨RX6, "refused", "(II)I"⟩
abbrev cX6_lay : ByteArray := prog_8_method_12_code
def yX6_lay : MethodName := ⟨RX6, "lay", "(III)I"⟩
abbrev cX6_at : ByteArray := prog_8_method_13_code
def yX6_at : MethodName := ⟨RX6, "at", "(II)I"⟩
abbrev cX6_tear : ByteArray := prog_8_method_14_code
def yX6_tear : MethodName := ⟨RX6, "tear", "(I)I"⟩
abbrev cX6_isSpan : ByteArray := prog_8_method_15_code
def yX6_isSpan : MethodName := ⟨RX6, "isSpan", "(III)Z"⟩
abbrev cX6_copy : ByteArray := prog_8_method_16_code
def yX6_copy : MethodName := ⟨RX6, "copy", "(IIIII)I"⟩
abbrev cX6_mean : ByteArray := prog_8_method_17_code
def yX6_mean : MethodName := ⟨RX6, "mean", "(I)I"⟩
abbrev cX6_text : ByteArray := prog_8_method_18_code
def yX6_text : MethodName := ⟨RX6, "text", "(II)I"⟩
abbrev cX6_put : ByteArray := prog_8_method_19_code
def yX6_put : MethodName := ⟨RX6, "put", "(III)I"⟩
abbrev cX6_here : ByteArray := prog_8_method_20_code
def yX6_here : MethodName := ⟨RX6, "here", "()I"⟩
abbrev cX6_skip : ByteArray := prog_8_method_21_code
def yX6_skip : MethodName := ⟨RX6, "skip", "()V"⟩
abbrev cX6_figure : ByteArray := prog_8_method_22_code
def yX6_figure : MethodName := ⟨RX6, "figure", "(III)I"⟩
abbrev cX6_kindOfLetter : ByteArray := prog_8_method_23_code
def yX6_kindOfLetter : MethodName := ⟨RX6, "kindOfLetter", "(I)I"⟩
abbrev cX6_readsShop : ByteArray := prog_8_method_24_code
def yX6_readsShop : MethodName := ⟨RX6, "readsShop", "()Z"⟩
abbrev cX6_readsTicket : ByteArray := prog_8_method_25_code
def yX6_readsTicket : MethodName := ⟨RX6, "readsTicket", "()Z"⟩
abbrev cX6_faultOf : ByteArray := prog_8_method_26_code
def yX6_faultOf : MethodName := ⟨RX6, "faultOf", "(I)I"⟩
abbrev cX6_fault : ByteArray := prog_8_method_27_code
def yX6_fault : MethodName := ⟨RX6, "fault", "(I)I"⟩
abbrev cX6_lane : ByteArray := prog_8_method_28_code
def yX6_lane : MethodName := ⟨RX6, "lane", "(I)I"⟩
abbrev cX6_isShop : ByteArray := prog_8_method_29_code
def yX6_isShop : MethodName := ⟨RX6, "isShop", "(I)Z"⟩
abbrev cX6_isPawned : ByteArray := prog_8_method_30_code
def yX6_isPawned : MethodName := ⟨RX6, "isPawned", "(I)Z"⟩
abbrev cX6_dueIn : ByteArray := prog_8_method_31_code
def yX6_dueIn : MethodName := ⟨RX6, "dueIn", "(II)I"⟩
abbrev cX6_heldBy : ByteArray := prog_8_method_32_code
def yX6_heldBy : MethodName := ⟨RX6, "heldBy", "(I)I"⟩
abbrev cX6_pawned : ByteArray := prog_8_method_33_code
def yX6_pawned : MethodName := ⟨RX6, "pawned", "()I"⟩
abbrev cX6_dueTo : ByteArray := prog_8_method_34_code
def yX6_dueTo : MethodName := ⟨RX6, "dueTo", "(II)I"⟩
abbrev cX6_loansTo : ByteArray := prog_8_method_35_code
def yX6_loansTo : MethodName := ⟨RX6, "loansTo", "(I)I"⟩
abbrev cX6_toldOf : ByteArray := prog_8_method_36_code
def yX6_toldOf : MethodName := ⟨RX6, "toldOf", "(II)I"⟩
abbrev cX6_shop : ByteArray := prog_8_method_37_code
def yX6_shop : MethodName := ⟨RX6, "shop", "(II)I"⟩
abbrev cX6_isOf : ByteArray := prog_8_method_38_code
def yX6_isOf : MethodName := ⟨RX6, "isOf", "(II)Z"⟩
abbrev cX6_canNow : ByteArray := prog_8_method_39_code
def yX6_canNow : MethodName := ⟨RX6, "canNow", "()I"⟩
abbrev cX6_mark : ByteArray := prog_8_method_40_code
def yX6_mark : MethodName := ⟨RX6, "mark", "(II)I"⟩
abbrev cX6_stock : ByteArray := prog_8_method_41_code
def yX6_stock : MethodName := ⟨RX6, "stock", "(II)I"⟩
abbrev cX6_keepPast : ByteArray := prog_8_method_42_code
def yX6_keepPast : MethodName := ⟨RX6, "keepPast", "()V"⟩
abbrev cX6_doRedeem : ByteArray := prog_8_method_43_code
def yX6_doRedeem : MethodName := ⟨RX6, "doRedeem", "(I)I"⟩
abbrev cX6_redeem : ByteArray := prog_8_method_44_code
def yX6_redeem : MethodName := ⟨RX6, "redeem", "(I)I"⟩
abbrev cX6_doPawn : ByteArray := prog_8_method_45_code
def yX6_doPawn : MethodName := ⟨RX6, "doPawn", "(III)V"⟩
abbrev cX6_pawn : ByteArray := prog_8_method_46_code
def yX6_pawn : MethodName := ⟨RX6, "pawn", "(III)I"⟩
abbrev cX6_isOld : ByteArray := prog_8_method_47_code
def yX6_isOld : MethodName := ⟨RX6, "isOld", "()Z"⟩
abbrev cX6_doWeek : ByteArray := prog_8_method_48_code
def yX6_doWeek : MethodName := ⟨RX6, "doWeek", "()V"⟩
abbrev cX6_dueInAll : ByteArray := prog_8_method_49_code
def yX6_dueInAll : MethodName := ⟨RX6, "dueInAll", "()I"⟩
abbrev cX6_week : ByteArray := prog_8_method_50_code
def yX6_week : MethodName := ⟨RX6, "week", "()I"⟩
abbrev cX6_doGive : ByteArray := prog_8_method_51_code
def yX6_doGive : MethodName := ⟨RX6, "doGive", "(II)I"⟩
abbrev cX6_give : ByteArray := prog_8_method_52_code
def yX6_give : MethodName := ⟨RX6, "give", "(II)I"⟩
abbrev cX6_undo : ByteArray := prog_8_method_53_code
def yX6_undo : MethodName := ⟨RX6, "undo", "(I)I"⟩
abbrev cX6_copyLane : ByteArray := prog_8_method_54_code
def yX6_copyLane : MethodName := ⟨RX6, "copyLane", "(II)V"⟩
abbrev cX6_keep : ByteArray := prog_8_method_55_code
def yX6_keep : MethodName := ⟨RX6, "keep", "(I)I"⟩
abbrev cX6_on : ByteArray := prog_8_method_56_code
def yX6_on : MethodName := ⟨RX6, "on", "(I)I"⟩
abbrev cX6_deep : ByteArray := prog_8_method_57_code
def yX6_deep : MethodName := ⟨RX6, "deep", "(I)I"⟩
abbrev cX6_insideOf : ByteArray := prog_8_method_58_code
def yX6_insideOf : MethodName := ⟨RX6, "insideOf", "(I)I"⟩
abbrev cX6_inside : ByteArray := prog_8_method_59_code
def yX6_inside : MethodName := ⟨RX6, "inside", "(I)I"⟩
abbrev cX6_ringOf : ByteArray := prog_8_method_60_code
def yX6_ringOf : MethodName := ⟨RX6, "ringOf", "(I)I"⟩
abbrev cX6_rings : ByteArray := prog_8_method_61_code
def yX6_rings : MethodName := ⟨RX6, "rings", "()I"⟩
abbrev cX6_goods : ByteArray := prog_8_method_62_code
def yX6_goods : MethodName := ⟨RX6, "goods", "(I)I"⟩
abbrev cX6_hangs : ByteArray := prog_8_method_63_code
def yX6_hangs : MethodName := ⟨RX6, "hangs", "()I"⟩
abbrev cX6_worth : ByteArray := prog_8_method_64_code
def yX6_worth : MethodName := ⟨RX6, "worth", "(I)I"⟩
abbrev cX6_chalk : ByteArray := prog_8_method_65_code
def yX6_chalk : MethodName := ⟨RX6, "chalk", "(II)I"⟩
abbrev cX6_layTried : ByteArray := prog_8_method_66_code
def yX6_layTried : MethodName := ⟨RX6, "layTried", "(II)V"⟩
abbrev cX6_cashBy : ByteArray := prog_8_method_67_code
def yX6_cashBy : MethodName := ⟨RX6, "cashBy", "(II)I"⟩
abbrev cX6_next : ByteArray := prog_8_method_68_code
def yX6_next : MethodName := ⟨RX6, "next", "(II)Z"⟩
abbrev cX6_layWays : ByteArray := prog_8_method_69_code
def yX6_layWays : MethodName := ⟨RX6, "layWays", "()V"⟩
abbrev cX6_layOn : ByteArray := prog_8_method_70_code
def yX6_layOn : MethodName := ⟨RX6, "layOn", "()V"⟩
abbrev cX6_canAll : ByteArray := prog_8_method_71_code
def yX6_canAll : MethodName := ⟨RX6, "canAll", "()Z"⟩
abbrev cX6_can : ByteArray := prog_8_method_72_code
def yX6_can : MethodName := ⟨RX6, "can", "()I"⟩
abbrev cX6_order : ByteArray := prog_8_method_73_code
def yX6_order : MethodName := ⟨RX6, "order", "(I)I"⟩
abbrev cX6_tellMany : ByteArray := prog_8_method_74_code
def yX6_tellMany : MethodName := ⟨RX6, "tellMany", "(J)I"⟩
abbrev cX6_ways : ByteArray := prog_8_method_75_code
def yX6_ways : MethodName := ⟨RX6, "ways", "()I"⟩
abbrev cX6_most : ByteArray := prog_8_method_76_code
def yX6_most : MethodName := ⟨RX6, "most", "()I"⟩
abbrev cX6_least : ByteArray := prog_8_method_77_code
def yX6_least : MethodName := ⟨RX6, "least", "()I"⟩
abbrev cX6_free : ByteArray := prog_8_method_78_code
def yX6_free : MethodName := ⟨RX6, "free", "(II)I"⟩
abbrev cX6_till : ByteArray := prog_8_method_79_code
def yX6_till : MethodName := ⟨RX6, "till", "()I"⟩
abbrev cX6_noRow : ByteArray := prog_8_method_80_code
def yX6_noRow : MethodName := ⟨RX6, "noRow", "(III)I"⟩
abbrev cX6_run : ByteArray := prog_8_method_81_code
def yX6_run : MethodName := ⟨RX6, "run", "(I)I"⟩
abbrev cX6_shuts : ByteArray := prog_8_method_82_code
def yX6_shuts : MethodName := ⟨RX6, "shuts", "(I)I"⟩
abbrev cX6_missing : ByteArray := prog_8_method_83_code
def yX6_missing : MethodName := ⟨RX6, "missing", "(I)I"⟩
abbrev cX6_through : ByteArray := prog_8_method_84_code
def yX6_through : MethodName := ⟨RX6, "through", "(I)I"⟩
abbrev cX6_tellParts : ByteArray := prog_8_method_85_code
def yX6_tellParts : MethodName := ⟨RX6, "tellParts", "(JJ)I"⟩
abbrev cX6_odds : ByteArray := prog_8_method_86_code
def yX6_odds : MethodName := ⟨RX6, "odds", "(I)I"⟩
abbrev cX6_doLot : ByteArray := prog_8_method_87_code
def yX6_doLot : MethodName := ⟨RX6, "doLot", "(J)V"⟩
abbrev cX6_lots : ByteArray := prog_8_method_88_code
def yX6_lots : MethodName := ⟨RX6, "lots", "(II)I"⟩
abbrev cX6_asked : ByteArray := prog_8_method_89_code
def yX6_asked : MethodName := ⟨RX6, "asked", "()I"⟩
abbrev cX6_upper : ByteArray := prog_8_method_90_code
def yX6_upper : MethodName := ⟨RX6, "upper", "()J"⟩
abbrev cX6_lower : ByteArray := prog_8_method_91_code
def yX6_lower : MethodName := ⟨RX6, "lower", "()J"⟩
abbrev cX6_cashOfAll : ByteArray := prog_8_method_92_code
def yX6_cashOfAll : MethodName := ⟨RX6, "cashOfAll", "()I"⟩
abbrev cX6_hawks : ByteArray := prog_8_method_93_code
def yX6_hawks : MethodName := ⟨RX6, "hawks", "()I"⟩
abbrev cX6_thereOf : ByteArray := prog_8_method_94_code
def yX6_thereOf : MethodName := ⟨RX6, "thereOf", "(I)I"⟩
abbrev cX6_countOf : ByteArray := prog_8_method_95_code
def yX6_countOf : MethodName := ⟨RX6, "countOf", "(I)I"⟩
abbrev cX6_count : ByteArray := prog_8_method_96_code
def yX6_count : MethodName := ⟨RX6, "count", "(I)I"⟩
abbrev cX6_finding : ByteArray := prog_8_method_97_code
def yX6_finding : MethodName := ⟨RX6, "finding", "()I"⟩
abbrev cX6_findings : ByteArray := prog_8_method_98_code
def yX6_findings : MethodName := ⟨RX6, "findings", "(I)I"⟩
abbrev cX6_digest : ByteArray := prog_8_method_99_code
def yX6_digest : MethodName := ⟨RX6, "digest", "()J"⟩
def RJ6 : String := "java/lang/Integer"
def TJ6 : u_T := fun k => match k with
  | _ => ("", "", "", false)
def tyJ6 : Nat → FieldType := fun k => match k with
  | _ => .int
abbrev wsJ60 : List Cond := u_ws RJ6 TJ6 0
theorem nmJ6 : ∀ a, a < 0 → ∀ b, b < 0 → a ≠ b → (TJ6 a).2.1 ≠ (TJ6 b).2.1 := by decide +kernel
theorem tyJ6_ok : ∀ k, k < 0 → parseFieldDescriptor (TJ6 k).2.2.1 = some (tyJ6 k) := by decide +kernel
abbrev cJ6_numberOfTrailingZeros_0f7a4 : ByteArray := prog_9_method_48_code
def yJ6_numberOfTrailingZeros_0f7a4 : MethodName := ⟨RJ6, "numberOfTrailingZeros", "(I)I"⟩
abbrev cJ6_bitCount_0f7a4 : ByteArray := prog_9_method_49_code
def yJ6_bitCount_0f7a4 : MethodName := ⟨RJ6, "bitCount", "(I)I"⟩
def RJ9 : String := "java/lang/Math"
def TJ9 : u_T := fun k => match k with
  | _ => ("", "", "", false)
def tyJ9 : Nat → FieldType := fun k => match k with
  | _ => .int
abbrev wsJ90 : List Cond := u_ws RJ9 TJ9 0
theorem nmJ9 : ∀ a, a < 0 → ∀ b, b < 0 → a ≠ b → (TJ9 a).2.1 ≠ (TJ9 b).2.1 := by decide +kernel
theorem tyJ9_ok : ∀ k, k < 0 → parseFieldDescriptor (TJ9 k).2.2.1 = some (tyJ9 k) := by decide +kernel
abbrev cJ9_max_7cf53 : ByteArray := prog_10_method_65_code
def yJ9_max_7cf53 : MethodName := ⟨RJ9, "max", "(II)I"⟩
abbrev cJ9_max_f86c9 : ByteArray := prog_10_method_66_code
def yJ9_max_f86c9 : MethodName := ⟨RJ9, "max", "(JJ)J"⟩
abbrev cJ9_min_7cf53 : ByteArray := prog_10_method_69_code
def yJ9_min_7cf53 : MethodName := ⟨RJ9, "min", "(II)I"⟩
def RJ10 : String := "java/lang/System"
def TJ10 : u_T := fun k => match k with
  | _ => ("", "", "", false)
def tyJ10 : Nat → FieldType := fun k => match k with
  | _ => .int
abbrev wsJ100 : List Cond := u_ws RJ10 TJ10 0
theorem nmJ10 : ∀ a, a < 0 → ∀ b, b < 0 → a ≠ b → (TJ10 a).2.1 ≠ (TJ10 b).2.1 := by decide +kernel
theorem tyJ10_ok : ∀ k, k < 0 → parseFieldDescriptor (TJ10 k).2.2.1 = some (tyJ10 k) := by decide +kernel
def RJ7 : String := "java/util/Arrays"
def TJ7 : u_T := fun k => match k with
  | _ => ("", "", "", false)
def tyJ7 : Nat → FieldType := fun k => match k with
  | _ => .int
abbrev wsJ70 : List Cond := u_ws RJ7 TJ7 0
theorem nmJ7 : ∀ a, a < 0 → ∀ b, b < 0 → a ≠ b → (TJ7 a).2.1 ≠ (TJ7 b).2.1 := by decide +kernel
theorem tyJ7_ok : ∀ k, k < 0 → parseFieldDescriptor (TJ7 k).2.2.1 = some (tyJ7 k) := by decide +kernel
abbrev cJ7_fill_53178 : ByteArray := prog_12_method_103_code
def yJ7_fill_53178 : MethodName := ⟨RJ7, "fill", "([II)V"⟩
def RL : String := "PawnLaneLaw"
abbrev cL_law : ByteArray := code
abbrev vwCl : List vw_C := [(RX0, TX0, 2), (RX1, TX1, 8), (RX2, TX2, 6), (RX3, TX3, 5), (RX4, TX4, 3), (RX5, TX5, 11), (RX6, TX6, 26)]
end
section
/-! the words that hold all along: those of the tables that are kept -/
def TBL : List Cond := lw_tbl.filter goodWord
theorem tbl_good {w : Cond} (h : w ∈ TBL) : w ∈ lw_tbl ∧ ((w.onTables && w.keeps) = true ∨ ∃ ty, w = .arrayClass ty) := ⟨(List.mem_filter.mp h).1, good_of_word (List.mem_filter.mp h).2⟩
theorem tbl_sel {i : Nat} {w : Cond} (h : (k2_sels lw_privs)[i]? = some w) (g : goodWord w = true) : w ∈ TBL := List.mem_filter.mpr ⟨List.mem_append_left _ (List.mem_of_getElem? h), g⟩
theorem tbl_1 {i : Nat} {w : Cond} (h : tables_1_1[i]? = some w) (g : goodWord w = true) : w ∈ TBL := List.mem_filter.mpr ⟨List.mem_append_right _ (List.mem_append_left _ (List.mem_of_getElem? h)), g⟩
theorem tbl_2 {i : Nat} {w : Cond} (h : tables_1_2[i]? = some w) (g : goodWord w = true) : w ∈ TBL := List.mem_filter.mpr ⟨List.mem_append_right _ (List.mem_append_right _ (List.mem_append_left _ (List.mem_of_getElem? h))), g⟩
theorem tbl_3 {i : Nat} {w : Cond} (h : tables_1_3[i]? = some w) (g : goodWord w = true) : w ∈ TBL := List.mem_filter.mpr ⟨List.mem_append_right _ (List.mem_append_right _ (List.mem_append_right _ (List.mem_append_left _ (List.mem_of_getElem? h)))), g⟩
theorem tbl_4 {i : Nat} {w : Cond} (h : tables_1_4[i]? = some w) (g : goodWord w = true) : w ∈ TBL := List.mem_filter.mpr ⟨List.mem_append_right _ (List.mem_append_right _ (List.mem_append_right _ (List.mem_append_right _ (List.mem_append_left _ (List.mem_of_getElem? h))))), g⟩
theorem tbl_5 {i : Nat} {w : Cond} (h : tables_1_5[i]? = some w) (g : goodWord w = true) : w ∈ TBL := List.mem_filter.mpr ⟨List.mem_append_right _ (List.mem_append_right _ (List.mem_append_right _ (List.mem_append_right _ (List.mem_append_right _ (List.mem_append_left _ (List.mem_of_getElem? h)))))), g⟩
theorem tbl_6 {i : Nat} {w : Cond} (h : tables_1_6[i]? = some w) (g : goodWord w = true) : w ∈ TBL := List.mem_filter.mpr ⟨List.mem_append_right _ (List.mem_append_right _ (List.mem_append_right _ (List.mem_append_right _ (List.mem_append_right _ (List.mem_append_right _ (List.mem_of_getElem? h)))))), g⟩
theorem good_V {own C : String} {idx : Nat} {y : MethodName} {cd : Cond} (h1 : Cond.methodLink own idx y ∈ TBL) (h2 : Cond.instanceMethod y ∈ TBL) (h3 : Cond.selects C y y ∈ TBL) (h4 : Cond.initialized C ∈ TBL) (h5 : cd ∈ TBL) : GoodIn TBL (wsV own idx C y (cd :: TBL)) := by
  intro w hw
  have hm : w ∈ TBL := by
    rcases List.mem_append.mp hw with h | h
    · rcases List.mem_cons.mp h with rfl | h
      · exact h1
      · rcases List.mem_cons.mp h with rfl | h
        · exact h2
        · rcases List.mem_cons.mp h with rfl | h
          · exact h3
          · rcases List.mem_cons.mp h with rfl | h
            · exact h4
            · exact absurd h List.not_mem_nil
    · rcases List.mem_cons.mp h with rfl | h
      · exact h5
      · exact h
  exact ⟨hm, (tbl_good hm).2⟩
theorem good_C {cd : Cond} (h5 : cd ∈ TBL) : GoodIn TBL (cd :: TBL) := by
  intro w hw
  have hm : w ∈ TBL := by
    rcases List.mem_cons.mp hw with rfl | h
    · exact h5
    · exact h
  exact ⟨hm, (tbl_good hm).2⟩
/-! the words of nest mates -/
def nst : List (String × Nat × MethodName) := [("PawnLane$Lane", 66, yX5_isIn), ("PawnLane$Lane", 70, yX5_dueWith), ("PawnLane$Lane", 78, yX5_isOfKind), ("PawnLane$Orders", 44, yX5_isIn), ("PawnLane", 23, yX3_init), ("PawnLane", 30, yX1_init), ("PawnLane", 41, yX2_init), ("PawnLane$Lane", 36, yX0_init), ("PawnLane$Reader", 11, yX1_init)]
def NW (U : State) : Prop := ∀ q ∈ nst, va_Nw (.methodLinkNest q.1 q.2.1 q.2.2 "PawnLane") U
theorem NW.warm {s U : State} (h : NW s) (hW : s.WarmedH U.vm) : NW U := fun q hq => va_Nw.warmM hW (h q hq)
theorem NW.same {s U : State} (h : NW s) (hv : s.vm = U.vm) : NW U := fun q hq => va_Nw.same rfl hv (h q hq)
/-! the state: whole numbers and long ones, by cell and place -/
abbrev SX : Type := (Nat → Nat → Int32) × (Nat → Nat → Int64)
def wR (M : SX) (k : Nat) (f : Nat → Int32) : SX := (fun a => if a = k then f else M.1 a, M.2)
def wL (M : SX) (k : Nat) (f : Nat → Int64) : SX := (M.1, fun a => if a = k then f else M.2 a)
def wI (M : SX) (k j : Nat) (v : Int32) : SX := wR M k (upd (M.1 k) j v)
def wJ (M : SX) (k j : Nat) (v : Int64) : SX := wL M k (vp_updL (M.2 k) j v)
/-- a cell's shape: an object (its number among vwCl; its fields: 0 an int, 1 a long, n + 2 the cell n), or an array (0 ints, 1 longs, n + 2 the cells from n on, by nines; its length) -/
abbrev Shp : Type := (Nat × List Nat) ⊕ (Nat × Nat)
abbrev Zh : Type := (Nat → Shp) × Nat
/-- what is fixed of a heap: places of fields, addresses, the array kinds -/
abbrev XG : Type := va_G × (Nat → Nat) × ClassId × ClassId × ClassId
def fv (G : XG) (M : SX) (k j : Nat) : Nat → Value
  | 0 => .int (M.1 k j)
  | 1 => .long (M.2 k j)
  | n + 2 => .ref (G.2.1 n)
def entS (G : XG) (M : SX) (k : Nat) : Shp → va_E
  | .inl q => .inr (q.1, q.2.mapIdx (fun j c => fv G M k j c))
  | .inr (0, n) => .inl (G.2.2.1, n, .inl (M.1 k))
  | .inr (1, n) => .inl (G.2.2.2.1, n, .inr (.inl (M.2 k)))
  | .inr (b + 2, n) => .inl (G.2.2.2.2, n, .inr (.inr (.inr (.inr (fun j => some (G.2.1 (b + 9 * j)))))))
def wd (G : XG) (Z : Zh) (M : SX) : va_W := (List.range Z.2).map (fun k => (G.2.1 k, entS G M k (Z.1 k)))
def tysOf (G : XG) : List (ClassId × FieldType) := [(G.2.2.1, .int), (G.2.2.2.1, .long), (G.2.2.2.2, .object "PawnLane$Lane")]
def inA (G : XG) (Z : Zh) : Nat → Prop := fun q => ∃ k, k < Z.2 ∧ q = G.2.1 k
def Inj (G : XG) (Z : Zh) : Prop := ∀ i j, i < Z.2 → j < Z.2 → G.2.1 i = G.2.1 j → i = j
theorem wd_get {G : XG} {Z : Zh} {M : SX} {k : Nat} (h : k < Z.2) : (wd G Z M)[k]? = some (G.2.1 k, entS G M k (Z.1 k)) := by
  unfold wd
  rw [List.getElem?_map, List.getElem?_range h]
  rfl
theorem wd_at {G : XG} {Z : Zh} {M : SX} {k : Nat} {q : Nat × va_E} (h : (wd G Z M)[k]? = some q) : k < Z.2 ∧ q = (G.2.1 k, entS G M k (Z.1 k)) := by
  have hl := (List.getElem?_eq_some_iff.mp h).1
  have hk : k < Z.2 := by simpa [wd] using hl
  refine ⟨hk, ?_⟩
  rw [wd_get hk] at h
  exact (Option.some.inj h).symm
theorem wd_D {G : XG} {Z : Zh} (h : Inj G Z) (M : SX) : va_D (inA G Z) (wd G Z M) := by
  refine ⟨fun i j x y hi hj hxy => ?_, fun k q hk => ?_⟩
  · obtain ⟨h1, rfl⟩ := wd_at hi
    obtain ⟨h2, rfl⟩ := wd_at hj
    exact h i j h1 h2 hxy
  · obtain ⟨h1, rfl⟩ := wd_at hk
    exact ⟨k, h1, rfl⟩
theorem fv_eq {G : XG} {M M' : SX} {k j c : Nat} (h1 : M.1 k = M'.1 k) (h2 : M.2 k = M'.2 k) : fv G M k j c = fv G M' k j c := by
  match c with
  | 0 => simp [fv, h1]
  | 1 => simp [fv, h2]
  | n + 2 => rfl
theorem entS_eq {G : XG} {M M' : SX} {k : Nat} (sh : Shp) (h1 : M.1 k = M'.1 k) (h2 : M.2 k = M'.2 k) : entS G M k sh = entS G M' k sh := by
  match sh with
  | .inl q =>
    show Sum.inr _ = Sum.inr _
    have hf : (fun j c => fv G M k j c) = (fun j c => fv G M' k j c) := by
      funext j c
      exact fv_eq h1 h2
    rw [hf]
  | .inr (0, n) => simp [entS, h1]
  | .inr (1, n) => simp [entS, h2]
  | .inr (b + 2, n) => rfl
theorem wd_set {G : XG} {Z : Zh} {M M' : SX} {k : Nat} {e : va_E} (hk : k < Z.2) (h1 : ∀ a, a ≠ k → M.1 a = M'.1 a) (h2 : ∀ a, a ≠ k → M.2 a = M'.2 a) (he : entS G M' k (Z.1 k) = e) : (wd G Z M).set k (G.2.1 k, e) = wd G Z M' := by
  apply List.ext_getElem?
  intro i
  by_cases hi : i = k
  · subst hi
    rw [List.getElem?_set_self (by simpa [wd] using hk), wd_get hk, he]
  · rw [List.getElem?_set_ne (Ne.symm hi)]
    by_cases hl : i < Z.2
    · rw [wd_get hl, wd_get hl, entS_eq (Z.1 i) (h1 i hi) (h2 i hi)]
    · rw [List.getElem?_eq_none (by simpa [wd] using Nat.le_of_not_lt hl), List.getElem?_eq_none (by simpa [wd] using Nat.le_of_not_lt hl)]
theorem wR_ne {M : SX} {k a : Nat} {f : Nat → Int32} (h : a ≠ k) : (wR M k f).1 a = M.1 a := by simp [wR, h]
theorem wR_self {M : SX} {k : Nat} {f : Nat → Int32} : (wR M k f).1 k = f := by simp [wR]
theorem wL_ne {M : SX} {k a : Nat} {f : Nat → Int64} (h : a ≠ k) : (wL M k f).2 a = M.2 a := by simp [wL, h]
theorem wL_self {M : SX} {k : Nat} {f : Nat → Int64} : (wL M k f).2 k = f := by simp [wL]
theorem wd_setR {G : XG} {Z : Zh} {M : SX} {k n : Nat} {f : Nat → Int32} (hk : k < Z.2) (hs : Z.1 k = .inr (0, n)) : (wd G Z M).set k (G.2.1 k, .inl (G.2.2.1, n, .inl f)) = wd G Z (wR M k f) := by
  refine wd_set hk (fun a h => (wR_ne h).symm) (fun a _ => rfl) ?_
  rw [hs]
  show Sum.inl _ = Sum.inl _
  rw [wR_self]
theorem wd_setL {G : XG} {Z : Zh} {M : SX} {k n : Nat} {f : Nat → Int64} (hk : k < Z.2) (hs : Z.1 k = .inr (1, n)) : (wd G Z M).set k (G.2.1 k, .inl (G.2.2.2.1, n, .inr (.inl f))) = wd G Z (wL M k f) := by
  refine wd_set hk (fun a _ => rfl) (fun a h => (wL_ne h).symm) ?_
  rw [hs]
  show Sum.inl _ = Sum.inl _
  rw [wL_self]
theorem wd_setI {G : XG} {Z : Zh} {M : SX} {k j ci : Nat} {cs : List Nat} {v : Int32} (hk : k < Z.2) (hs : Z.1 k = .inl (ci, cs)) (hc : cs[j]? = some 0) : (wd G Z M).set k (G.2.1 k, .inr (ci, (cs.mapIdx (fun j c => fv G M k j c)).set j (.int v))) = wd G Z (wI M k j v) := by
  refine wd_set hk (fun a h => (wR_ne h).symm) (fun a _ => rfl) ?_
  rw [hs]
  show Sum.inr _ = Sum.inr _
  congr 2
  apply List.ext_getElem?
  intro i
  have hl : j < cs.length := (List.getElem?_eq_some_iff.mp hc).1
  by_cases hi : i = j
  · subst hi
    rw [List.getElem?_set_self (by simpa using hl), List.getElem?_mapIdx, hc]
    simp [fv, wI, wR_self, upd]
  · rw [List.getElem?_set_ne (Ne.symm hi), List.getElem?_mapIdx, List.getElem?_mapIdx]
    congr 1
    funext c
    match c with
    | 0 => simp [fv, wI, wR_self, upd, hi]
    | 1 => rfl
    | n + 2 => rfl
theorem wd_setJ {G : XG} {Z : Zh} {M : SX} {k j ci : Nat} {cs : List Nat} {v : Int64} (hk : k < Z.2) (hs : Z.1 k = .inl (ci, cs)) (hc : cs[j]? = some 1) : (wd G Z M).set k (G.2.1 k, .inr (ci, (cs.mapIdx (fun j c => fv G M k j c)).set j (.long v))) = wd G Z (wJ M k j v) := by
  refine wd_set hk (fun a _ => rfl) (fun a h => (wL_ne h).symm) ?_
  rw [hs]
  show Sum.inr _ = Sum.inr _
  congr 2
  apply List.ext_getElem?
  intro i
  have hl : j < cs.length := (List.getElem?_eq_some_iff.mp hc).1
  by_cases hi : i = j
  · subst hi
    rw [List.getElem?_set_self (by simpa using hl), List.getElem?_mapIdx, hc]
    simp [fv, wJ, wL_self, vp_updL]
  · rw [List.getElem?_set_ne (Ne.symm hi), List.getElem?_mapIdx, List.getElem?_mapIdx]
    congr 1
    funext c
    match c with
    | 0 => rfl
    | 1 => simp [fv, wJ, wL_self, vp_updL, hi]
    | n + 2 => rfl
/-- the world as it stands in a walk -/
def Wld (G : XG) (Z : Zh) (M : SX) (H0 H : Heap) (locs : List Loc) : Prop := va_P G.1 vwCl (wd G Z M) H ∧ va_S (inA G Z) H0 H locs
def Fx (G : XG) (Z : Zh) (p : Program) (m : MethodId) (c : Code) (cc : ByteArray) (nL : Nat) (s : State) (args : Array Value) (own : String) : Prop :=
  CallFix p m c cc nL s args TBL own ∧ va_K G.1 vwCl (tysOf G) s ∧ NW s ∧ Inj G Z
def rmX (d : Nat) : Room := { frames := d, cells := 0, slots := 0, locals := 100 * d }
def xPc (G : XG) (Z : Zh) (M : SX) (av : List Value) : Array Value → State → Prop := va_Pc av (fun U => va_P G.1 vwCl (wd G Z M) U.heap ∧ va_K G.1 vwCl (tysOf G) U ∧ NW U ∧ Inj G Z)
def xQi (G : XG) (Z : Zh) (r : Int32) (M : SX) : Array Value → State → Outcome → State → Prop := va_Qi (fun (a : Int32) (_ : Unit) => a = r) (fun _ t => va_P G.1 vwCl (wd G Z M) t.heap) (inA G Z)
def xQl (G : XG) (Z : Zh) (r : Int64) (M : SX) : Array Value → State → Outcome → State → Prop := va_Ql (fun (a : Int64) (_ : Unit) => a = r) (fun _ t => va_P G.1 vwCl (wd G Z M) t.heap) (inA G Z)
def xQv (G : XG) (Z : Zh) (M : SX) : Array Value → State → Outcome → State → Prop := va_Qv (fun (_ : Unit) => True) (fun _ t => va_P G.1 vwCl (wd G Z M) t.heap) (inA G Z)
theorem xPc_blind (G : XG) (Z : Zh) (M : SX) (av : List Value) : FrameBlind (xPc G Z M av) := by
  intro a U g mk h
  obtain ⟨h1, h2, h3, h4, h5⟩ := h
  exact ⟨h1, h2, va_K.moved (u := U) (U := U.calling g mk a) (Vm.Alike.refl U.vm) h3, h4.same rfl, h5⟩
/-! plain words of the pure side -/
def gd {α : Type} (b : Bool) (x : Option α) : Option α := if b = true then x else none
def lt_ {α β : Type} (x : α) (f : α → β) : β := f x
def bd {α β : Type} (x : Option (α × SX)) (f : α → SX → Option β) : Option β := match x with
  | none => none
  | some q => f q.1 q.2
def bv {β : Type} (x : Option SX) (f : SX → Option β) : Option β := match x with
  | none => none
  | some q => f q
def bIn (i : Int32) (n : Nat) : Bool := decide (0 ≤ i ∧ i.toNatClampNeg < n)
def isB (v : Int32) : Bool := decide (v = 0 ∨ v = 1)
def nz (v : Int32) : Bool := decide (¬ v = 0)
def nzL (v : Int64) : Bool := decide (¬ v = 0)
def FU : Nat := 2000
theorem gd_some {α : Type} {b : Bool} {x : Option α} {r : α} (h : gd b x = some r) : b = true ∧ x = some r := by
  unfold gd at h
  split at h
  · rename_i hb; exact ⟨hb, h⟩
  · cases h
theorem lt_elim {α β : Type} {x : α} {f : α → β} {r : β} (h : lt_ x f = r) : ∃ y, y = x ∧ f y = r := ⟨x, rfl, h⟩
theorem bd_some {α β : Type} {x : Option (α × SX)} {f : α → SX → Option β} {r : β} (h : bd x f = some r) : ∃ a M, x = some (a, M) ∧ f a M = some r := by
  match x, h with
  | some (a, M), h => exact ⟨a, M, rfl, h⟩
theorem bv_some {β : Type} {x : Option SX} {f : SX → Option β} {r : β} (h : bv x f = some r) : ∃ M, x = some M ∧ f M = some r := by
  match x, h with
  | some M, h => exact ⟨M, rfl, h⟩
theorem it_t {α : Type} {c : Prop} [Decidable c] {a b : Option α} {r : Option α} (h : (if c then a else b) = r) (hc : c) : a = r := by rw [if_pos hc] at h; exact h
theorem it_f {α : Type} {c : Prop} [Decidable c] {a b : Option α} {r : Option α} (h : (if c then a else b) = r) (hc : ¬ c) : b = r := by rw [if_neg hc] at h; exact h
theorem bIn_vp {i : Int32} {n : Nat} (h : bIn i n = true) : vp_in i n := by
  have h1 : 0 ≤ i ∧ i.toNatClampNeg < n := by simpa [bIn] using h
  intro h2
  rcases h2 with h2 | h2
  · exact absurd h1.1 (Int32.not_le.mpr h2)
  · omega
theorem nz_ne {v : Int32} (h : nz v = true) : ¬ v = 0 := by simpa [nz] using h
theorem nzL_ne {v : Int64} (h : nzL v = true) : ¬ v = 0 := by simpa [nzL] using h
theorem isB_nar {v : Int32} (h : isB v = true) : narrow .boolean (.int v) = .int v := by
  have h1 : v = 0 ∨ v = 1 := by simpa [isB] using h
  rcases h1 with rfl | rfl <;> rfl
def xlp0 {β : Type} (body : (SX → Option β) → SX → Option β) : Nat → SX → Option β
  | 0, _ => none
  | n + 1, M => body (xlp0 body n) M
def xlp1 {A β : Type} (body : (A → SX → Option β) → A → SX → Option β) : Nat → A → SX → Option β
  | 0, _, _ => none
  | n + 1, a, M => body (xlp1 body n) a M
def xlp2 {A B β : Type} (body : (A → B → SX → Option β) → A → B → SX → Option β) : Nat → A → B → SX → Option β
  | 0, _, _, _ => none
  | n + 1, a, b, M => body (xlp2 body n) a b M
def xlp3 {A B C β : Type} (body : (A → B → C → SX → Option β) → A → B → C → SX → Option β) : Nat → A → B → C → SX → Option β
  | 0, _, _, _, _ => none
  | n + 1, a, b, c, M => body (xlp3 body n) a b c M
def xlp4 {A B C D β : Type} (body : (A → B → C → D → SX → Option β) → A → B → C → D → SX → Option β) : Nat → A → B → C → D → SX → Option β
  | 0, _, _, _, _, _ => none
  | n + 1, a, b, c, d, M => body (xlp4 body n) a b c d M
def xlp5 {A B C D E β : Type} (body : (A → B → C → D → E → SX → Option β) → A → B → C → D → E → SX → Option β) : Nat → A → B → C → D → E → SX → Option β
  | 0, _, _, _, _, _, _ => none
  | n + 1, a, b, c, d, e, M => body (xlp5 body n) a b c d e M
def xlp6 {A B C D E F β : Type} (body : (A → B → C → D → E → F → SX → Option β) → A → B → C → D → E → F → SX → Option β) : Nat → A → B → C → D → E → F → SX → Option β
  | 0, _, _, _, _, _, _, _ => none
  | n + 1, a, b, c, d, e, f, M => body (xlp6 body n) a b c d e f M
def xlp7 {A B C D E F G β : Type} (body : (A → B → C → D → E → F → G → SX → Option β) → A → B → C → D → E → F → G → SX → Option β) : Nat → A → B → C → D → E → F → G → SX → Option β
  | 0, _, _, _, _, _, _, _, _ => none
  | n + 1, a, b, c, d, e, f, g, M => body (xlp7 body n) a b c d e f g M
def xlp8 {A B C D E F G K β : Type} (body : (A → B → C → D → E → F → G → K → SX → Option β) → A → B → C → D → E → F → G → K → SX → Option β) : Nat → A → B → C → D → E → F → G → K → SX → Option β
  | 0, _, _, _, _, _, _, _, _, _ => none
  | n + 1, a, b, c, d, e, f, g, k, M => body (xlp8 body n) a b c d e f g k M
end
section
section XWalk
variable {G : XG} {Z : Zh} {p : Program} {l : Launch} {e : Env} {R : Room} {s : State} {m : MethodId} {args : Array Value} {below : List Frame} {meth : Method} {c : Code} {H : Heap} {locs : List Loc} {Q : State → Prop}
variable {cc : ByteArray} {pc nL : Nat} {ls : Array Slot} {rest : List Value} {M : SX} {own : String}
theorem x_let {x y : Int32} (h : y = x) (k : W p l e R s m args below meth c H locs 0 0 Q (F0 m pc ls (.int y :: rest))) : W p l e R s m args below meth c H locs 0 0 Q (F0 m pc ls (.int x :: rest)) := h ▸ k
theorem x_letL {x y : Int64} (h : y = x) (k : W p l e R s m args below meth c H locs 0 0 Q (F0 m pc ls (.long y :: rest))) : W p l e R s m args below meth c H locs 0 0 Q (F0 m pc ls (.long x :: rest)) := h ▸ k
/-- a field is read -/
theorem x_get (F : Fx G Z p m c cc nL s args own) (hw : Wld G Z M s.heap H locs) {k j ci code index : Nat} {cs : List Nat} {C : String} {T : u_T} {N : Nat} (hk : k < Z.2) (hs : Z.1 k = .inl (ci, cs)) (hc : cs[j]? = some code) (hcl : vwCl[ci]? = some (C, T, N)) (hin : ∀ w ∈ u_ws C T N, w ∈ TBL) (hj : j < N) (hlk : Cond.fieldLink own index (T j).1 (T j).2.1 (T j).2.2.1 ∈ TBL) (hdg : decode cc pc = .ok (.getfield index, 3))
    (kk : W p l e R s m args below meth c H locs 0 0 Q (F0 m (pc + 3) ls (fv G M k j code :: rest))) : W p l e R s m args below meth c H locs 0 0 Q (F0 m pc ls (.ref (G.2.1 k) :: rest)) := by
  obtain ⟨⟨hx, hb, hml, hown, hts⟩, hK, hN, hI⟩ := F
  have he := wd_get (G := G) (M := M) hk
  rw [hs] at he
  exact va_get (D := G.1) (ci := ci) (v := fv G M k j code) (C := C) (T := T) (N := N) hx hb hts hin hown hK hw.1 k he hcl j hj (hts _ hlk) (fun _ h9 => h9) (by rw [List.getElem?_mapIdx, hc]; rfl) hdg kk
/-- an int field is written -/
theorem x_putI (F : Fx G Z p m c cc nL s args own) (hw : Wld G Z M s.heap H locs) {k j ci index : Nat} {cs : List Nat} {C : String} {T : u_T} {N : Nat} {v : Int32} {ty : FieldType} (hk : k < Z.2) (hs : Z.1 k = .inl (ci, cs)) (hc : cs[j]? = some 0) (hcl : vwCl[ci]? = some (C, T, N)) (hin : ∀ w ∈ u_ws C T N, w ∈ TBL) (ty0 : Nat → FieldType) (hty : ∀ k, k < N → parseFieldDescriptor (T k).2.2.1 = some (ty0 k)) (hnm : ∀ a, a < N → ∀ b, b < N → a ≠ b → (T a).2.1 ≠ (T b).2.1) (hj : j < N) (hlk : Cond.fieldLink own index (T j).1 (T j).2.1 (T j).2.2.1 ∈ TBL) (hfin : (T j).2.2.2 = false) (hd : parseFieldDescriptor (T j).2.2.1 = some ty) (hn : narrow ty (.int v) = .int v) (hfit : fits ty (.int v) = true) (hdg : decode cc pc = .ok (.putfield index, 3))
    (kk : ∀ (H1 : Heap) (locs1 : List Loc), Wld G Z (wI M k j v) s.heap H1 locs1 → W p l e R s m args below meth c H1 locs1 0 0 Q (F0 m (pc + 3) ls rest)) : W p l e R s m args below meth c H locs 0 0 Q (F0 m pc ls (.int v :: .ref (G.2.1 k) :: rest)) := by
  obtain ⟨⟨hx, hb, hml, hown, hts⟩, hK, hN, hI⟩ := F
  have he := wd_get (G := G) (M := M) hk
  rw [hs] at he
  have hl : j < cs.length := (List.getElem?_eq_some_iff.mp hc).1
  refine va_put (D := G.1) (ci := ci) (v := .int v) (ty := ty) (C := C) (T := T) (N := N) hx hb hts hin ty0 hty hnm hown hK hw.1 (wd_D hI M) hw.2 k he hcl j hj (hts _ hlk) (fun _ h9 => h9) hfin hd hn hfit (by simpa using hl) hdg (fun H1 locs1 hP _ hS => kk H1 locs1 ⟨?_, hS⟩)
  rw [← wd_setI hk hs hc]
  exact hP
/-- a long field is written -/
theorem x_putJ (F : Fx G Z p m c cc nL s args own) (hw : Wld G Z M s.heap H locs) {k j ci index : Nat} {cs : List Nat} {C : String} {T : u_T} {N : Nat} {v : Int64} (hk : k < Z.2) (hs : Z.1 k = .inl (ci, cs)) (hc : cs[j]? = some 1) (hcl : vwCl[ci]? = some (C, T, N)) (hin : ∀ w ∈ u_ws C T N, w ∈ TBL) (ty0 : Nat → FieldType) (hty : ∀ k, k < N → parseFieldDescriptor (T k).2.2.1 = some (ty0 k)) (hnm : ∀ a, a < N → ∀ b, b < N → a ≠ b → (T a).2.1 ≠ (T b).2.1) (hj : j < N) (hlk : Cond.fieldLink own index (T j).1 (T j).2.1 (T j).2.2.1 ∈ TBL) (hfin : (T j).2.2.2 = false) (hd : parseFieldDescriptor (T j).2.2.1 = some .long) (hdg : decode cc pc = .ok (.putfield index, 3))
    (kk : ∀ (H1 : Heap) (locs1 : List Loc), Wld G Z (wJ M k j v) s.heap H1 locs1 → W p l e R s m args below meth c H1 locs1 0 0 Q (F0 m (pc + 3) ls rest)) : W p l e R s m args below meth c H locs 0 0 Q (F0 m pc ls (.long v :: .ref (G.2.1 k) :: rest)) := by
  obtain ⟨⟨hx, hb, hml, hown, hts⟩, hK, hN, hI⟩ := F
  have he := wd_get (G := G) (M := M) hk
  rw [hs] at he
  have hl : j < cs.length := (List.getElem?_eq_some_iff.mp hc).1
  refine va_put (D := G.1) (ci := ci) (v := .long v) (ty := .long) (C := C) (T := T) (N := N) hx hb hts hin ty0 hty hnm hown hK hw.1 (wd_D hI M) hw.2 k he hcl j hj (hts _ hlk) (fun _ h9 => h9) hfin hd rfl rfl (by simpa using hl) hdg (fun H1 locs1 hP _ hS => kk H1 locs1 ⟨?_, hS⟩)
  rw [← wd_setJ hk hs hc]
  exact hP
/-- an int of an array is read -/
theorem x_iald (F : Fx G Z p m c cc nL s args own) (hw : Wld G Z M s.heap H locs) {k n : Nat} {i : Int32} (hs : k < Z.2 ∧ Z.1 k = .inr (0, n)) (hi : bIn i n = true) (hdg : decode cc pc = .ok (.iaload, 1))
    (kk : W p l e R s m args below meth c H locs 0 0 Q (F0 m (pc + 1) ls (.int (M.1 k i.toNatClampNeg) :: rest))) : W p l e R s m args below meth c H locs 0 0 Q (F0 m pc ls (.int i :: .ref (G.2.1 k) :: rest)) := by
  obtain ⟨⟨hx, hb, hml, hown, hts⟩, hK, hN, hI⟩ := F
  have he := wd_get (G := G) (M := M) hs.1
  rw [hs.2] at he
  exact va_iald (D := G.1) hx hb hK hw.1 k 0 (cA := G.2.2.1) (n := n) (f := M.1 k) he rfl (bIn_vp hi) hdg kk
theorem x_iast (F : Fx G Z p m c cc nL s args own) (hw : Wld G Z M s.heap H locs) {k n : Nat} {i v : Int32} (hs : k < Z.2 ∧ Z.1 k = .inr (0, n)) (hi : bIn i n = true) (hdg : decode cc pc = .ok (.iastore, 1))
    (kk : ∀ (H1 : Heap) (locs1 : List Loc), Wld G Z (wI M k i.toNatClampNeg v) s.heap H1 locs1 → W p l e R s m args below meth c H1 locs1 0 0 Q (F0 m (pc + 1) ls rest)) : W p l e R s m args below meth c H locs 0 0 Q (F0 m pc ls (.int v :: .int i :: .ref (G.2.1 k) :: rest)) := by
  obtain ⟨⟨hx, hb, hml, hown, hts⟩, hK, hN, hI⟩ := F
  have he := wd_get (G := G) (M := M) hs.1
  rw [hs.2] at he
  refine va_iast (D := G.1) hx hb hK hw.1 (wd_D hI M) hw.2 k 0 (cA := G.2.2.1) (n := n) (f := M.1 k) he rfl (bIn_vp hi) hdg (fun H1 locs1 hP _ hS => kk H1 locs1 ⟨?_, hS⟩)
  rw [wI, ← wd_setR hs.1 hs.2]
  exact hP
theorem x_lald (F : Fx G Z p m c cc nL s args own) (hw : Wld G Z M s.heap H locs) {k n : Nat} {i : Int32} (hs : k < Z.2 ∧ Z.1 k = .inr (1, n)) (hi : bIn i n = true) (hdg : decode cc pc = .ok (.laload, 1))
    (kk : W p l e R s m args below meth c H locs 0 0 Q (F0 m (pc + 1) ls (.long (M.2 k i.toNatClampNeg) :: rest))) : W p l e R s m args below meth c H locs 0 0 Q (F0 m pc ls (.int i :: .ref (G.2.1 k) :: rest)) := by
  obtain ⟨⟨hx, hb, hml, hown, hts⟩, hK, hN, hI⟩ := F
  have he := wd_get (G := G) (M := M) hs.1
  rw [hs.2] at he
  exact va_lald (D := G.1) hx hb hK hw.1 k 1 (cA := G.2.2.2.1) (n := n) (f := M.2 k) he rfl (bIn_vp hi) hdg kk
theorem x_last (F : Fx G Z p m c cc nL s args own) (hw : Wld G Z M s.heap H locs) {k n : Nat} {i : Int32} {v : Int64} (hs : k < Z.2 ∧ Z.1 k = .inr (1, n)) (hi : bIn i n = true) (hdg : decode cc pc = .ok (.lastore, 1))
    (kk : ∀ (H1 : Heap) (locs1 : List Loc), Wld G Z (wJ M k i.toNatClampNeg v) s.heap H1 locs1 → W p l e R s m args below meth c H1 locs1 0 0 Q (F0 m (pc + 1) ls rest)) : W p l e R s m args below meth c H locs 0 0 Q (F0 m pc ls (.long v :: .int i :: .ref (G.2.1 k) :: rest)) := by
  obtain ⟨⟨hx, hb, hml, hown, hts⟩, hK, hN, hI⟩ := F
  have he := wd_get (G := G) (M := M) hs.1
  rw [hs.2] at he
  refine va_last (D := G.1) hx hb hK hw.1 (wd_D hI M) hw.2 k 1 (cA := G.2.2.2.1) (n := n) (f := M.2 k) he rfl (bIn_vp hi) hdg (fun H1 locs1 hP _ hS => kk H1 locs1 ⟨?_, hS⟩)
  rw [wJ, ← wd_setL hs.1 hs.2]
  exact hP
theorem x_aald (F : Fx G Z p m c cc nL s args own) (hw : Wld G Z M s.heap H locs) {k b n : Nat} {i : Int32} (hs : k < Z.2 ∧ Z.1 k = .inr (b + 2, n)) (hi : bIn i n = true) (hdg : decode cc pc = .ok (.aaload, 1))
    (kk : W p l e R s m args below meth c H locs 0 0 Q (F0 m (pc + 1) ls (.ref (G.2.1 (b + 9 * i.toNatClampNeg)) :: rest))) : W p l e R s m args below meth c H locs 0 0 Q (F0 m pc ls (.int i :: .ref (G.2.1 k) :: rest)) := by
  obtain ⟨⟨hx, hb, hml, hown, hts⟩, hK, hN, hI⟩ := F
  have he := wd_get (G := G) (M := M) hs.1
  rw [hs.2] at he
  exact va_aldq (D := G.1) hx hb hK hw.1 k 2 (cA := G.2.2.2.2) (C := "PawnLane$Lane") (n := n) (f := fun j => some (G.2.1 (b + 9 * j))) he rfl (bIn_vp hi) hdg kk
theorem x_alenI (F : Fx G Z p m c cc nL s args own) (hw : Wld G Z M s.heap H locs) {k n : Nat} (hs : k < Z.2 ∧ Z.1 k = .inr (0, n)) (hdg : decode cc pc = .ok (.arraylength, 1))
    (kk : W p l e R s m args below meth c H locs 0 0 Q (F0 m (pc + 1) ls (.int (Int32.ofNat n) :: rest))) : W p l e R s m args below meth c H locs 0 0 Q (F0 m pc ls (.ref (G.2.1 k) :: rest)) := by
  obtain ⟨⟨hx, hb, hml, hown, hts⟩, hK, hN, hI⟩ := F
  have he := wd_get (G := G) (M := M) hs.1
  rw [hs.2] at he
  exact va_alen (D := G.1) hx hb hK hw.1 k 0 (cA := G.2.2.1) he (ty := .int) rfl (v := Int32.ofNat n) rfl hdg kk
/-- a stretch of ints is copied -/
def cpOk (sp dp n : Int32) (n0 n1 : Nat) : Bool := decide (0 ≤ sp ∧ 0 ≤ dp ∧ 0 ≤ n ∧ sp.toNatClampNeg + n.toNatClampNeg ≤ n0 ∧ dp.toNatClampNeg + n.toNatClampNeg ≤ n1)
theorem x_copy (F : Fx G Z p m c cc nL s args own) (hw : Wld G Z M s.heap H locs) (hln : ls.size = nL) {k0 k1 n0 n1 index : Nat} {sp dp n : Int32} (h0 : k0 < Z.2 ∧ Z.1 k0 = .inr (0, n0)) (h1 : k1 < Z.2 ∧ Z.1 k1 = .inr (0, n1)) (ho : cpOk sp dp n n0 n1 = true) (hlk : Cond.methodLink own index arraycopyName ∈ TBL) (hnt : Cond.native arraycopyName ∈ TBL) (hst : Cond.static arraycopyName ∈ TBL) (hin : Cond.initialized "java/lang/System" ∈ TBL) (hfr : 1 ≤ R.frames) (hlo : (rest.map fun v => v.category).sum + (nativeFrameWords "java/lang/System" "arraycopy" 5 + 11) ≤ R.locals) (hdg : decode cc pc = .ok (.invokestatic index, 3))
    (kk : ∀ (H1 : Heap) (locs1 : List Loc), Wld G Z (wR M k1 (va_cpy (M.1 k0) (M.1 k1) sp.toNatClampNeg dp.toNatClampNeg n.toNatClampNeg)) s.heap H1 locs1 → W p l e R s m args below meth c H1 locs1 0 0 Q (F0 m (pc + 3) ls rest)) : W p l e R s m args below meth c H locs 0 0 Q (F0 m pc ls (.int n :: .int dp :: .ref (G.2.1 k1) :: .int sp :: .ref (G.2.1 k0) :: rest)) := by
  obtain ⟨⟨hx, hb, hml, hown, hts⟩, hK, hN, hI⟩ := F
  have he := wd_get (G := G) (M := M) h0.1
  rw [h0.2] at he
  have he1 := wd_get (G := G) (M := M) h1.1
  rw [h1.2] at he1
  have ho : 0 ≤ sp ∧ 0 ≤ dp ∧ 0 ≤ n ∧ sp.toNatClampNeg + n.toNatClampNeg ≤ n0 ∧ dp.toNatClampNeg + n.toNatClampNeg ≤ n1 := by simpa [cpOk] using ho
  refine va_copyi (D := G.1) hx hb (by rw [hml, hln]) hown (hts _ hlk) (hts _ hnt) (hts _ hst) (hts _ hin) hK hw.1 (wd_D hI M) hw.2 k0 k1 0 0 (f := M.1 k0) (g := M.1 k1) he he1 rfl rfl rfl (Int32.not_lt.mpr ho.1) (Int32.not_lt.mpr ho.2.1) (Int32.not_lt.mpr ho.2.2.1) ho.2.2.2.1 ho.2.2.2.2 (fun _ _ => rfl) hfr hlo hdg (fun H1 locs1 hP _ hS => kk H1 locs1 ⟨?_, hS⟩)
  rw [← wd_setR h1.1 h1.2]
  exact hP
end XWalk
end
section
section XCall
variable {G : XG} {Z : Zh} {p : Program} {l : Launch} {e : Env} {R : Room} {s : State} {m : MethodId} {args : Array Value} {below : List Frame} {meth : Method} {c : Code} {H : Heap} {locs : List Loc} {Q : State → Prop}
variable {cc : ByteArray} {pc nL : Nat} {ls : Array Slot} {rest st0 : List Value} {M M' : SX} {own : String}
/-- the words of a call -/
def VW (own : String) (index : Nat) (C : String) (y : MethodName) (cd : Cond) (n : Nat) : Prop := GoodIn TBL (wsV own index C y (cd :: TBL)) ∧ y.cls = C ∧ y.cls ≠ "java/lang/invoke/MethodHandle" ∧ y.cls ≠ "java/lang/invoke/VarHandle" ∧ (parseMethodDescriptor y.desc).map (fun d => d.parameters.length) = some n
def SW (own : String) (index : Nat) (y : MethodName) (cd : Cond) (n : Nat) : Prop := GoodIn TBL (cd :: TBL) ∧ Cond.initialized y.cls ∈ TBL ∧ Cond.methodLink own index y ∈ TBL ∧ Cond.static y ∈ TBL ∧ y.cls ≠ "java/lang/invoke/MethodHandle" ∧ y.cls ≠ "java/lang/invoke/VarHandle" ∧ (parseMethodDescriptor y.desc).map (fun d => d.parameters.length) = some n
def NN (own : String) (index : Nat) (y : MethodName) (cd : Cond) (n : Nat) : Prop := GoodIn TBL (cd :: TBL) ∧ Cond.initialized y.cls ∈ TBL ∧ (own, index, y) ∈ nst ∧ Cond.static y ∈ TBL ∧ y.cls ≠ "java/lang/invoke/MethodHandle" ∧ y.cls ≠ "java/lang/invoke/VarHandle" ∧ (parseMethodDescriptor y.desc).map (fun d => d.parameters.length) = some n
abbrev rok (R : Room) (maxL d : Nat) : Prop := (rmX d).frames + 1 ≤ R.frames ∧ 8 + (maxL + 11) + (rmX d).locals ≤ R.locals
theorem x_runV {y : MethodName} {C : String} {T : u_T} {N index maxL n d k ci : Nat} {cs : List Nat} {bytes : ByteArray} {ret : Option FieldType} {As : List Value} {Qc : Array Value → State → Outcome → State → Prop} (F : Fx G Z p m c cc nL s args own) (hw : Wld G Z M s.heap H locs) (hln : ls.size = nL) (hv : VW own index C y (.code y bytes maxL ret) n) (hs : k < Z.2 ∧ Z.1 k = .inl (ci, cs)) (hcl : vwCl[ci]? = some (C, T, N)) (hM : Met l y (.code y bytes maxL ret :: TBL) (rmX d) (xPc G Z M (.ref (G.2.1 k) :: As)) Qc 0 0 (inA G Z)) (hn : As.length = n) (hst : st0 = As.reverse ++ .ref (G.2.1 k) :: rest) (hcat : (rest.map fun v => v.category).sum ≤ 8) (hR : rok R maxL d) (hdg : decode cc pc = .ok (.invokevirtual index, 3)) :
    va_Run p l e R s m args below meth c H locs 0 0 0 0 (F0 m pc ls st0) rest (Qc (Value.ref (G.2.1 k) :: As).toArray) (inA G Z) := by
  obtain ⟨hCF, hK, hN, hI⟩ := F
  have he := wd_get (G := G) (M := M) hs.1
  rw [hs.2] at he
  refine va_runV (As := As) (rest := rest) hCF hM (cwV n hCF.2.2.2.2 hv.1 rfl rfl rfl hv.2 hR) ⟨xPc_blind G Z M _, va_recv hK hw.1 hcl he, fun U hU hW => ⟨rfl, by rw [hU]; exact hw.1, va_K.moved hW.alike hK, hN.warm hW, hI⟩⟩ rfl hn hln hst (lv_room hcat) hdg ⟨Nat.zero_le _, Nat.zero_le _⟩
theorem x_runS {y : MethodName} {index maxL n d : Nat} {bytes : ByteArray} {ret : Option FieldType} {As : List Value} {Qc : Array Value → State → Outcome → State → Prop} (F : Fx G Z p m c cc nL s args own) (hw : Wld G Z M s.heap H locs) (hln : ls.size = nL) (hv : SW own index y (.code y bytes maxL ret) n) (hM : Met l y (.code y bytes maxL ret :: TBL) (rmX d) (xPc G Z M As) Qc 0 0 (inA G Z)) (hn : As.length = n) (hst : st0 = As.reverse ++ rest) (hcat : (rest.map fun v => v.category).sum ≤ 8) (hR : rok R maxL d) (hdg : decode cc pc = .ok (.invokestatic index, 3)) :
    va_Run p l e R s m args below meth c H locs 0 0 0 0 (F0 m pc ls st0) rest (Qc As.toArray) (inA G Z) := by
  obtain ⟨hCF, hK, hN, hI⟩ := F
  have hts := hCF.2.2.2.2
  refine va_runS (As := As) (rest := rest) hCF hM ⟨callB_of n hts hv.1 rfl rfl rfl (hts _ hv.2.1) (hts _ hv.2.2.1) hv.2.2.2.2 hR, hts _ hv.2.2.2.1⟩ ⟨xPc_blind G Z M _, fun U hU hW => ⟨rfl, by rw [hU]; exact hw.1, va_K.moved hW.alike hK, hN.warm hW, hI⟩⟩ rfl hn hln hst (lv_room hcat) hdg ⟨Nat.zero_le _, Nat.zero_le _⟩
theorem x_runN {y : MethodName} {index maxL n d : Nat} {bytes : ByteArray} {ret : Option FieldType} {As : List Value} {Qc : Array Value → State → Outcome → State → Prop} (F : Fx G Z p m c cc nL s args own) (hw : Wld G Z M s.heap H locs) (hln : ls.size = nL) (hv : NN own index y (.code y bytes maxL ret) n) (hM : Met l y (.code y bytes maxL ret :: TBL) (rmX d) (xPc G Z M As) Qc 0 0 (inA G Z)) (hn : As.length = n) (hst : st0 = As.reverse ++ rest) (hcat : (rest.map fun v => v.category).sum ≤ 8) (hR : rok R maxL d) (hdg : decode cc pc = .ok (.invokestatic index, 3)) :
    va_Run p l e R s m args below meth c H locs 0 0 0 0 (F0 m pc ls st0) rest (Qc As.toArray) (inA G Z) := by
  obtain ⟨hCF, hK, hN, hI⟩ := F
  have hts := hCF.2.2.2.2
  refine va_runSN (As := As) (rest := rest) (host := "PawnLane") hCF hM ⟨va_cnB n hts hv.1 rfl rfl rfl (hN _ hv.2.2.1) (hts _ hv.2.1) hv.2.2.2.2 hR, hts _ hv.2.2.2.1, trivial⟩ ⟨xPc_blind G Z M _, fun U hU hW => ⟨rfl, by rw [hU]; exact hw.1, va_K.moved hW.alike hK, hN.warm hW, hI⟩⟩ rfl hn hln hst (lv_room hcat) hdg ⟨Nat.zero_le _, Nat.zero_le _⟩
theorem x_aftI {a : Array Value} {r : Int32} (hw : Wld G Z M s.heap H locs) (hr : va_Run p l e R s m args below meth c H locs 0 0 0 0 (F0 m pc ls st0) rest (xQi G Z r M' a) (inA G Z))
    (kk : ∀ (H1 : Heap) (locs1 : List Loc), Wld G Z M' s.heap H1 locs1 → W p l e R s m args below meth c H1 locs1 0 0 Q (F0 m (pc + 3) ls (.int r :: rest))) : W p l e R s m args below meth c H locs 0 0 Q (F0 m pc ls st0) := by
  refine va_calli hr hw.2 (fun _ _ h => h) (fun _ h => h) (fun r1 u t H1 locs1 ht _ hr1 hP _ _ hS => ?_)
  have hP : va_P G.1 vwCl (wd G Z M') t.heap := hP
  have hr1 : r1 = r := hr1
  rw [ht] at hP
  rw [hr1]
  exact kk H1 locs1 ⟨hP, hS⟩
theorem x_aftL {a : Array Value} {r : Int64} (hw : Wld G Z M s.heap H locs) (hr : va_Run p l e R s m args below meth c H locs 0 0 0 0 (F0 m pc ls st0) rest (xQl G Z r M' a) (inA G Z))
    (kk : ∀ (H1 : Heap) (locs1 : List Loc), Wld G Z M' s.heap H1 locs1 → W p l e R s m args below meth c H1 locs1 0 0 Q (F0 m (pc + 3) ls (.long r :: rest))) : W p l e R s m args below meth c H locs 0 0 Q (F0 m pc ls st0) := by
  refine va_calll hr hw.2 (fun _ _ h => h) (fun _ h => h) (fun r1 u t H1 locs1 ht _ hr1 hP _ _ hS => ?_)
  have hP : va_P G.1 vwCl (wd G Z M') t.heap := hP
  have hr1 : r1 = r := hr1
  rw [ht] at hP
  rw [hr1]
  exact kk H1 locs1 ⟨hP, hS⟩
theorem x_aftV {a : Array Value} (hw : Wld G Z M s.heap H locs) (hr : va_Run p l e R s m args below meth c H locs 0 0 0 0 (F0 m pc ls st0) rest (xQv G Z M' a) (inA G Z))
    (kk : ∀ (H1 : Heap) (locs1 : List Loc), Wld G Z M' s.heap H1 locs1 → W p l e R s m args below meth c H1 locs1 0 0 Q (F0 m (pc + 3) ls rest)) : W p l e R s m args below meth c H locs 0 0 Q (F0 m pc ls st0) := by
  refine va_callv hr hw.2 (fun _ _ h => h) (fun _ h => h) (fun u t H1 locs1 ht _ _ hP _ _ hS => ?_)
  have hP : va_P G.1 vwCl (wd G Z M') t.heap := hP
  rw [ht] at hP
  exact kk H1 locs1 ⟨hP, hS⟩
theorem x_iret {v r : Int32} (F : Fx G Z p m c cc nL s args own) (hw : Wld G Z M s.heap H locs) (hr : meth.sig.returnType = some .int) (hlk : meth.locks = false) (hf : some (v, M) = some (r, M')) (hdg : decode cc pc = .ok (.ireturn, 1)) : W p l e R s m args below meth c H locs 0 0 (MQ below (xQi G Z r M') args s 0 0 (inA G Z)) (F0 m pc ls [.int v]) := by
  cases hf
  exact W.iret F.1.1 F.1.2.1 hr (fun t ht _ => ⟨⟨v, (), rfl, rfl, by show va_P _ _ _ _; rw [ht]; exact hw.1⟩, hw.2.F ht⟩) hw.2.2.2 hdg hlk
theorem x_zret {v r : Int32} (F : Fx G Z p m c cc nL s args own) (hw : Wld G Z M s.heap H locs) (hr : meth.sig.returnType = some .boolean) (hlk : meth.locks = false) (hn : narrow .boolean (.int v) = .int v) (hf : some (v, M) = some (r, M')) (hdg : decode cc pc = .ok (.ireturn, 1)) : W p l e R s m args below meth c H locs 0 0 (MQ below (xQi G Z r M') args s 0 0 (inA G Z)) (F0 m pc ls [.int v]) := by
  cases hf
  exact W.zret F.1.1 F.1.2.1 hr hn (fun t ht _ => ⟨⟨v, (), rfl, rfl, by show va_P _ _ _ _; rw [ht]; exact hw.1⟩, hw.2.F ht⟩) hw.2.2.2 hdg hlk
theorem x_lret {v r : Int64} (F : Fx G Z p m c cc nL s args own) (hw : Wld G Z M s.heap H locs) (hr : meth.sig.returnType = some .long) (hlk : meth.locks = false) (hf : some (v, M) = some (r, M')) (hdg : decode cc pc = .ok (.lreturn, 1)) : W p l e R s m args below meth c H locs 0 0 (MQ below (xQl G Z r M') args s 0 0 (inA G Z)) (F0 m pc ls [.long v]) := by
  cases hf
  exact W.lret F.1.1 F.1.2.1 hr (fun t ht _ => ⟨⟨v, (), rfl, rfl, by show va_P _ _ _ _; rw [ht]; exact hw.1⟩, hw.2.F ht⟩) hw.2.2.2 hdg hlk
theorem x_vret (F : Fx G Z p m c cc nL s args own) (hw : Wld G Z M s.heap H locs) (hr : meth.sig.returnType = none) (hlk : meth.locks = false) (hf : some M = some M') (hdg : decode cc pc = .ok (.return_, 1)) : W p l e R s m args below meth c H locs 0 0 (MQ below (xQv G Z M') args s 0 0 (inA G Z)) (F0 m pc ls []) := by
  cases hf
  exact W.vret F.1.1 F.1.2.1 hr (fun t ht _ => ⟨⟨(), rfl, trivial, by show va_P _ _ _ _; rw [ht]; exact hw.1⟩, hw.2.F ht⟩) hw.2.2.2 hdg hlk
theorem x_met {y : MethodName} {maxL d : Nat} {ret : Option FieldType} {av : List Value} {Qc : Array Value → State → Outcome → State → Prop} (hy : plainName y.cls = true) (hlen : (lg_sl av).length ≤ maxL)
    (body : ∀ (p : Program) (e : Env) (s : State) (m : MethodId) (below : List Frame) (meth : Method) (c : Code) (ls : Array Slot), Fx G Z p m c cc maxL s av.toArray y.cls → meth.sig.returnType = ret → meth.locks = false → lv_has ls maxL (lv_args 0 av) → Wld G Z M s.heap s.heap [] → W p l e (rmX d) s m av.toArray below meth c s.heap [] 0 0 (MQ below Qc av.toArray s 0 0 (inA G Z)) (F0 m 0 ls [])) :
    Met l y (.code y cc maxL ret :: TBL) (rmX d) (xPc G Z M av) Qc 0 0 (inA G Z) := by
  refine Met.ofW (cc := cc) (maxL := maxL) (ret := ret) hy rfl ?_
  intro p e s m args below meth c s₁ B hml hv
  obtain ⟨rfl, hP, hK, hN, hI⟩ := hv
  have hts := atoms_spec (ws := (Cond.code y cc maxL ret :: TBL)) B.pre
  have hown : s.vm.findClass y.cls = some m.cls := findClass_of_methodNamed B.named
  have hl := lv_entry av (n := maxL) hlen
  rw [lg_entry_eq]
  exact body p e s m below meth c _ ⟨⟨B.exec, B.bytes, hml, hown, fun w h => hts w (List.mem_cons_of_mem _ h)⟩, hK, hN, hI⟩ B.returns B.notSynchronized hl ⟨hP, va_S.rf⟩
end XCall
end
section
/-! the two worlds: the developers' object with all that hangs on it (60 cells), and the reference (16) -/
def xTab : List Shp := [.inl (5, [3, 6, 9, 19, 28, 56, 61, 0, 0, 1, 1]), .inl (4, [0, 4, 5]), .inr (0, 6), .inr (0, 240), .inl (4, [0, 7, 8]), .inr (0, 4), .inr (0, 240), .inl (3, [10, 0, 0, 0, 0]), .inl (1, [0, 11, 12, 13, 14, 15, 16, 17]), .inr (0, 6), .inr (0, 6), .inr (0, 6), .inr (0, 6), .inr (0, 6), .inr (0, 6), .inl (0, [18, 0]), .inr (0, 40), .inl (1, [0, 20, 21, 22, 23, 24, 25, 26]), .inr (0, 6), .inr (0, 6), .inr (0, 6), .inr (0, 6), .inr (0, 6), .inr (0, 6), .inl (0, [27, 0]), .inr (0, 40), .inr (29, 3), .inl (1, [0, 30, 31, 32, 33, 34, 35, 36]), .inr (0, 6), .inr (0, 6), .inr (0, 6), .inr (0, 6), .inr (0, 6), .inr (0, 6), .inl (0, [37, 0]), .inr (0, 40), .inl (1, [0, 39, 40, 41, 42, 43, 44, 45]), .inr (0, 6), .inr (0, 6), .inr (0, 6), .inr (0, 6), .inr (0, 6), .inr (0, 6), .inl (0, [46, 0]), .inr (0, 40), .inl (1, [0, 48, 49, 50, 51, 52, 53, 54]), .inr (0, 6), .inr (0, 6), .inr (0, 6), .inr (0, 6), .inr (0, 6), .inr (0, 6), .inl (0, [55, 0]), .inr (0, 40), .inl (2, [0, 0, 57, 58, 59, 60]), .inr (0, 6), .inr (0, 6), .inr (0, 6), .inr (0, 64), .inr (0, 6)]
def yTab : List Shp := [.inl (6, [3, 0, 4, 5, 6, 7, 8, 0, 1, 1, 0, 9, 0, 0, 0, 10, 0, 0, 11, 12, 13, 14, 0, 15, 16, 17]), .inr (0, 3964), .inr (0, 6), .inr (0, 6), .inr (0, 240), .inr (0, 4), .inr (0, 240), .inr (0, 6), .inr (0, 30), .inr (0, 6), .inr (0, 6), .inr (0, 6), .inr (0, 6), .inr (1, 64), .inr (1, 64), .inr (0, 64)]
def ZX : Zh := (fun k => xTab.getD k (.inr (0, 0)), 60)
def ZY : Zh := (fun k => yTab.getD k (.inr (0, 0)), 16)
def isL (b : Nat) : Prop := b = 8 ∨ b = 17 ∨ b = 27 ∨ b = 36 ∨ b = 45
def isD (b : Nat) : Prop := b = 15 ∨ b = 24 ∨ b = 34 ∨ b = 43 ∨ b = 52
def isS (b : Nat) : Prop := b = 1 ∨ b = 4
def szS (b : Nat) : Nat := if b = 1 then 6 else 4
theorem isL_8 : isL 8 := Or.inl rfl
theorem isL_17 : isL 17 := Or.inr (Or.inl rfl)
theorem isS_1 : isS 1 := Or.inl rfl
theorem isS_4 : isS 4 := Or.inr rfl
theorem isD_of {b : Nat} (h : isL b) : isD (b + 7) := by rcases h with rfl | rfl | rfl | rfl | rfl <;> simp [isD]
theorem isL_k {i : Int32} (h : bIn i 3 = true) : isL (27 + 9 * Int32.toNatClampNeg i) := by
  have h1 : 0 ≤ i ∧ i.toNatClampNeg < 3 := by simpa [bIn] using h
  have h2 : i.toNatClampNeg = 0 ∨ i.toNatClampNeg = 1 ∨ i.toNatClampNeg = 2 := by omega
  rcases h2 with e | e | e <;> rw [e] <;> simp [isL]
theorem sL {b : Nat} (h : isL b) : b < ZX.2 ∧ ZX.1 b = .inl (1, [0, b + 3, b + 4, b + 5, b + 6, b + 7, b + 8, b + 9]) := by rcases h with rfl | rfl | rfl | rfl | rfl <;> exact ⟨Nat.le_of_ble_eq_true rfl, rfl⟩
theorem sL1 {b : Nat} (h : isL b) : b + 1 < ZX.2 ∧ ZX.1 (b + 1) = .inr (0, 6) := by rcases h with rfl | rfl | rfl | rfl | rfl <;> exact ⟨Nat.le_of_ble_eq_true rfl, rfl⟩
theorem sL2 {b : Nat} (h : isL b) : b + 2 < ZX.2 ∧ ZX.1 (b + 2) = .inr (0, 6) := by rcases h with rfl | rfl | rfl | rfl | rfl <;> exact ⟨Nat.le_of_ble_eq_true rfl, rfl⟩
theorem sL3 {b : Nat} (h : isL b) : b + 3 < ZX.2 ∧ ZX.1 (b + 3) = .inr (0, 6) := by rcases h with rfl | rfl | rfl | rfl | rfl <;> exact ⟨Nat.le_of_ble_eq_true rfl, rfl⟩
theorem sL4 {b : Nat} (h : isL b) : b + 4 < ZX.2 ∧ ZX.1 (b + 4) = .inr (0, 6) := by rcases h with rfl | rfl | rfl | rfl | rfl <;> exact ⟨Nat.le_of_ble_eq_true rfl, rfl⟩
theorem sL5 {b : Nat} (h : isL b) : b + 5 < ZX.2 ∧ ZX.1 (b + 5) = .inr (0, 6) := by rcases h with rfl | rfl | rfl | rfl | rfl <;> exact ⟨Nat.le_of_ble_eq_true rfl, rfl⟩
theorem sL6 {b : Nat} (h : isL b) : b + 6 < ZX.2 ∧ ZX.1 (b + 6) = .inr (0, 6) := by rcases h with rfl | rfl | rfl | rfl | rfl <;> exact ⟨Nat.le_of_ble_eq_true rfl, rfl⟩
theorem sD {b : Nat} (h : isD b) : b < ZX.2 ∧ ZX.1 b = .inl (0, [b + 3, 0]) := by rcases h with rfl | rfl | rfl | rfl | rfl <;> exact ⟨Nat.le_of_ble_eq_true rfl, rfl⟩
theorem sD1 {b : Nat} (h : isD b) : b + 1 < ZX.2 ∧ ZX.1 (b + 1) = .inr (0, 40) := by rcases h with rfl | rfl | rfl | rfl | rfl <;> exact ⟨Nat.le_of_ble_eq_true rfl, rfl⟩
theorem sS {b : Nat} (h : isS b) : b < ZX.2 ∧ ZX.1 b = .inl (4, [0, b + 3, b + 4]) := by rcases h with rfl | rfl <;> exact ⟨Nat.le_of_ble_eq_true rfl, rfl⟩
theorem sS1 {b : Nat} (h : isS b) : b + 1 < ZX.2 ∧ ZX.1 (b + 1) = .inr (0, szS b) := by rcases h with rfl | rfl <;> exact ⟨Nat.le_of_ble_eq_true rfl, rfl⟩
theorem sS2 {b : Nat} (h : isS b) : b + 2 < ZX.2 ∧ ZX.1 (b + 2) = .inr (0, 240) := by rcases h with rfl | rfl <;> exact ⟨Nat.le_of_ble_eq_true rfl, rfl⟩
theorem sP : 0 < ZX.2 ∧ ZX.1 0 = .inl (5, [3, 6, 9, 19, 28, 56, 61, 0, 0, 1, 1]) := ⟨Nat.le_of_ble_eq_true rfl, rfl⟩
theorem sP26 : 26 < ZX.2 ∧ ZX.1 26 = .inr (27 + 2, 3) := ⟨Nat.le_of_ble_eq_true rfl, rfl⟩
theorem sP59 : 59 < ZX.2 ∧ ZX.1 59 = .inr (0, 6) := ⟨Nat.le_of_ble_eq_true rfl, rfl⟩
theorem sR : 7 < ZX.2 ∧ ZX.1 7 = .inl (3, [10, 0, 0, 0, 0]) := ⟨Nat.le_of_ble_eq_true rfl, rfl⟩
theorem sO : 54 < ZX.2 ∧ ZX.1 54 = .inl (2, [0, 0, 57, 58, 59, 60]) := ⟨Nat.le_of_ble_eq_true rfl, rfl⟩
theorem sO55 : 55 < ZX.2 ∧ ZX.1 55 = .inr (0, 6) := ⟨Nat.le_of_ble_eq_true rfl, rfl⟩
theorem sO56 : 56 < ZX.2 ∧ ZX.1 56 = .inr (0, 6) := ⟨Nat.le_of_ble_eq_true rfl, rfl⟩
theorem sO57 : 57 < ZX.2 ∧ ZX.1 57 = .inr (0, 6) := ⟨Nat.le_of_ble_eq_true rfl, rfl⟩
theorem sO58 : 58 < ZX.2 ∧ ZX.1 58 = .inr (0, 64) := ⟨Nat.le_of_ble_eq_true rfl, rfl⟩
theorem sM : 0 < ZY.2 ∧ ZY.1 0 = .inl (6, [3, 0, 4, 5, 6, 7, 8, 0, 1, 1, 0, 9, 0, 0, 0, 10, 0, 0, 11, 12, 13, 14, 0, 15, 16, 17]) := ⟨Nat.le_of_ble_eq_true rfl, rfl⟩
theorem sM1 : 1 < ZY.2 ∧ ZY.1 1 = .inr (0, 3964) := ⟨Nat.le_of_ble_eq_true rfl, rfl⟩
theorem sM2 : 2 < ZY.2 ∧ ZY.1 2 = .inr (0, 6) := ⟨Nat.le_of_ble_eq_true rfl, rfl⟩
theorem sM3 : 3 < ZY.2 ∧ ZY.1 3 = .inr (0, 6) := ⟨Nat.le_of_ble_eq_true rfl, rfl⟩
theorem sM4 : 4 < ZY.2 ∧ ZY.1 4 = .inr (0, 240) := ⟨Nat.le_of_ble_eq_true rfl, rfl⟩
theorem sM5 : 5 < ZY.2 ∧ ZY.1 5 = .inr (0, 4) := ⟨Nat.le_of_ble_eq_true rfl, rfl⟩
theorem sM6 : 6 < ZY.2 ∧ ZY.1 6 = .inr (0, 240) := ⟨Nat.le_of_ble_eq_true rfl, rfl⟩
theorem sM7 : 7 < ZY.2 ∧ ZY.1 7 = .inr (0, 6) := ⟨Nat.le_of_ble_eq_true rfl, rfl⟩
theorem sM8 : 8 < ZY.2 ∧ ZY.1 8 = .inr (0, 30) := ⟨Nat.le_of_ble_eq_true rfl, rfl⟩
theorem sM9 : 9 < ZY.2 ∧ ZY.1 9 = .inr (0, 6) := ⟨Nat.le_of_ble_eq_true rfl, rfl⟩
theorem sM10 : 10 < ZY.2 ∧ ZY.1 10 = .inr (0, 6) := ⟨Nat.le_of_ble_eq_true rfl, rfl⟩
theorem sM11 : 11 < ZY.2 ∧ ZY.1 11 = .inr (0, 6) := ⟨Nat.le_of_ble_eq_true rfl, rfl⟩
theorem sM12 : 12 < ZY.2 ∧ ZY.1 12 = .inr (0, 6) := ⟨Nat.le_of_ble_eq_true rfl, rfl⟩
theorem sM13 : 13 < ZY.2 ∧ ZY.1 13 = .inr (1, 64) := ⟨Nat.le_of_ble_eq_true rfl, rfl⟩
theorem sM14 : 14 < ZY.2 ∧ ZY.1 14 = .inr (1, 64) := ⟨Nat.le_of_ble_eq_true rfl, rfl⟩
theorem sM15 : 15 < ZY.2 ∧ ZY.1 15 = .inr (0, 64) := ⟨Nat.le_of_ble_eq_true rfl, rfl⟩
theorem inT0 : ∀ w ∈ u_ws RX0 TX0 2, w ∈ TBL := by decide +kernel
theorem inT1 : ∀ w ∈ u_ws RX1 TX1 8, w ∈ TBL := by decide +kernel
theorem inT2 : ∀ w ∈ u_ws RX2 TX2 6, w ∈ TBL := by decide +kernel
theorem inT3 : ∀ w ∈ u_ws RX3 TX3 5, w ∈ TBL := by decide +kernel
theorem inT4 : ∀ w ∈ u_ws RX4 TX4 3, w ∈ TBL := by decide +kernel
theorem inT5 : ∀ w ∈ u_ws RX5 TX5 11, w ∈ TBL := by decide +kernel
theorem inT6 : ∀ w ∈ u_ws RX6 TX6 26, w ∈ TBL := by decide +kernel
theorem x_ne {x k : Int32} (n : Int) (hk : k.toInt = n) (h : ¬ x = k) : x.toInt ≠ n := fun e => h (Int32.toInt_inj.mp (e.trans hk.symm))
theorem lc_eq (x y : Int64) : lg_cmp x y = 0 ↔ x = y := by
  unfold lg_cmp
  by_cases h : x > y
  · simp only [if_pos h]
    constructor
    · intro h2; exact absurd h2 (by decide)
    · intro h2; subst h2; exact absurd h (Int64.lt_irrefl)
  · simp only [if_neg h]
    by_cases h2 : x = y
    · simp [h2]
    · simp only [if_neg h2]
      constructor
      · intro h3; exact absurd h3 (by decide)
      · intro h3; exact absurd h3 h2
theorem lc_ge (x y : Int64) : 0 ≤ lg_cmp x y ↔ y ≤ x := lg_cmp_ge x y
theorem lc_gt (x y : Int64) : 0 < lg_cmp x y ↔ y < x := by
  unfold lg_cmp
  by_cases h : x > y
  · simp only [if_pos h]
    exact ⟨fun _ => h, fun _ => by decide⟩
  · simp only [if_neg h]
    by_cases h2 : x = y
    · simp only [if_pos h2]
      exact ⟨fun h3 => absurd h3 (by decide), fun h3 => absurd h3 h⟩
    · simp only [if_neg h2]
      exact ⟨fun h3 => absurd h3 (by decide), fun h3 => absurd h3 h⟩
theorem lc_lt (x y : Int64) : lg_cmp x y < 0 ↔ x < y := by
  have h := lc_ge x y
  rw [← Int32.not_le, ← Int64.not_le, h]
theorem lc_le (x y : Int64) : lg_cmp x y ≤ 0 ↔ x ≤ y := by
  have h := lc_gt x y
  rw [← Int32.not_lt, ← Int64.not_lt, h]
abbrev WXi (G : XG) (Z : Zh) (p : Program) (l : Launch) (e : Env) (d : Nat) (s : State) (m : MethodId) (args : Array Value) (below : List Frame) (meth : Method) (c : Code) (r : Int32) (M' : SX) (H : Heap) (locs : List Loc) (g : JFrame) : Prop := W p l e (rmX d) s m args below meth c H locs 0 0 (MQ below (xQi G Z r M') args s 0 0 (inA G Z)) g
abbrev WXl (G : XG) (Z : Zh) (p : Program) (l : Launch) (e : Env) (d : Nat) (s : State) (m : MethodId) (args : Array Value) (below : List Frame) (meth : Method) (c : Code) (r : Int64) (M' : SX) (H : Heap) (locs : List Loc) (g : JFrame) : Prop := W p l e (rmX d) s m args below meth c H locs 0 0 (MQ below (xQl G Z r M') args s 0 0 (inA G Z)) g
abbrev WXv (G : XG) (Z : Zh) (p : Program) (l : Launch) (e : Env) (d : Nat) (s : State) (m : MethodId) (args : Array Value) (below : List Frame) (meth : Method) (c : Code) (M' : SX) (H : Heap) (locs : List Loc) (g : JFrame) : Prop := W p l e (rmX d) s m args below meth c H locs 0 0 (MQ below (xQv G Z M') args s 0 0 (inA G Z)) g
section XFields
variable {G : XG} {p : Program} {l : Launch} {e : Env} {R : Room} {s : State} {m : MethodId} {args : Array Value} {below : List Frame} {meth : Method} {c : Code} {H : Heap} {locs : List Loc} {Q : State → Prop}
variable {cc : ByteArray} {pc nL index : Nat} {ls : Array Slot} {rest : List Value} {M : SX} {own : String}
theorem g0_0 {b : Nat} (qb : isD b) (F : Fx G ZX p m c cc nL s args own) (hw : Wld G ZX M s.heap H locs) (hlk : Cond.fieldLink own index "PawnLane$Deeds" "packed" "[I" ∈ TBL) (hdg : decode cc pc = .ok (.getfield index, 3)) (kk : W p l e R s m args below meth c H locs 0 0 Q (F0 m (pc + 3) ls (.ref (G.2.1 (b + 1)) :: rest))) : W p l e R s m args below meth c H locs 0 0 Q (F0 m pc ls (.ref (G.2.1 b) :: rest)) := x_get (ci := 0) (j := 0) (code := (b + 1 + 2)) (C := RX0) (T := TX0) (N := 2) F hw (sD qb).1 (sD qb).2 rfl rfl inT0 (by decide) hlk hdg kk
theorem g0_1 {b : Nat} (qb : isD b) (F : Fx G ZX p m c cc nL s args own) (hw : Wld G ZX M s.heap H locs) (hlk : Cond.fieldLink own index "PawnLane$Deeds" "size" "I" ∈ TBL) (hdg : decode cc pc = .ok (.getfield index, 3)) (kk : W p l e R s m args below meth c H locs 0 0 Q (F0 m (pc + 3) ls (.int (M.1 b 1) :: rest))) : W p l e R s m args below meth c H locs 0 0 Q (F0 m pc ls (.ref (G.2.1 b) :: rest)) := x_get (ci := 0) (j := 1) (code := 0) (C := RX0) (T := TX0) (N := 2) F hw (sD qb).1 (sD qb).2 rfl rfl inT0 (by decide) hlk hdg kk
theorem s0_1 {b : Nat} (qb : isD b) {v : Int32} (F : Fx G ZX p m c cc nL s args own) (hw : Wld G ZX M s.heap H locs) (hlk : Cond.fieldLink own index "PawnLane$Deeds" "size" "I" ∈ TBL) (hdg : decode cc pc = .ok (.putfield index, 3)) (kk : ∀ (H1 : Heap) (locs1 : List Loc), Wld G ZX (wI M b 1 v) s.heap H1 locs1 → W p l e R s m args below meth c H1 locs1 0 0 Q (F0 m (pc + 3) ls rest)) : W p l e R s m args below meth c H locs 0 0 Q (F0 m pc ls (.int v :: .ref (G.2.1 b) :: rest)) := x_putI (ci := 0) (j := 1) (C := RX0) (T := TX0) (N := 2) (ty := .int) F hw (sD qb).1 (sD qb).2 rfl rfl inT0 tyX0 tyX0_ok nmX0 (by decide) hlk rfl (by decide +kernel) rfl rfl hdg kk
theorem g1_0 {b : Nat} (qb : isL b) (F : Fx G ZX p m c cc nL s args own) (hw : Wld G ZX M s.heap H locs) (hlk : Cond.fieldLink own index "PawnLane$Lane" "shops" "I" ∈ TBL) (hdg : decode cc pc = .ok (.getfield index, 3)) (kk : W p l e R s m args below meth c H locs 0 0 Q (F0 m (pc + 3) ls (.int (M.1 b 0) :: rest))) : W p l e R s m args below meth c H locs 0 0 Q (F0 m pc ls (.ref (G.2.1 b) :: rest)) := x_get (ci := 1) (j := 0) (code := 0) (C := RX1) (T := TX1) (N := 8) F hw (sL qb).1 (sL qb).2 rfl rfl inT1 (by decide) hlk hdg kk
theorem s1_0 {b : Nat} (qb : isL b) {v : Int32} (F : Fx G ZX p m c cc nL s args own) (hw : Wld G ZX M s.heap H locs) (hlk : Cond.fieldLink own index "PawnLane$Lane" "shops" "I" ∈ TBL) (hdg : decode cc pc = .ok (.putfield index, 3)) (kk : ∀ (H1 : Heap) (locs1 : List Loc), Wld G ZX (wI M b 0 v) s.heap H1 locs1 → W p l e R s m args below meth c H1 locs1 0 0 Q (F0 m (pc + 3) ls rest)) : W p l e R s m args below meth c H locs 0 0 Q (F0 m pc ls (.int v :: .ref (G.2.1 b) :: rest)) := x_putI (ci := 1) (j := 0) (C := RX1) (T := TX1) (N := 8) (ty := .int) F hw (sL qb).1 (sL qb).2 rfl rfl inT1 tyX1 tyX1_ok nmX1 (by decide) hlk rfl (by decide +kernel) rfl rfl hdg kk
theorem g1_1 {b : Nat} (qb : isL b) (F : Fx G ZX p m c cc nL s args own) (hw : Wld G ZX M s.heap H locs) (hlk : Cond.fieldLink own index "PawnLane$Lane" "kind" "[I" ∈ TBL) (hdg : decode cc pc = .ok (.getfield index, 3)) (kk : W p l e R s m args below meth c H locs 0 0 Q (F0 m (pc + 3) ls (.ref (G.2.1 (b + 1)) :: rest))) : W p l e R s m args below meth c H locs 0 0 Q (F0 m pc ls (.ref (G.2.1 b) :: rest)) := x_get (ci := 1) (j := 1) (code := (b + 1 + 2)) (C := RX1) (T := TX1) (N := 8) F hw (sL qb).1 (sL qb).2 rfl rfl inT1 (by decide) hlk hdg kk
theorem g1_2 {b : Nat} (qb : isL b) (F : Fx G ZX p m c cc nL s args own) (hw : Wld G ZX M s.heap H locs) (hlk : Cond.fieldLink own index "PawnLane$Lane" "cash" "[I" ∈ TBL) (hdg : decode cc pc = .ok (.getfield index, 3)) (kk : W p l e R s m args below meth c H locs 0 0 Q (F0 m (pc + 3) ls (.ref (G.2.1 (b + 2)) :: rest))) : W p l e R s m args below meth c H locs 0 0 Q (F0 m pc ls (.ref (G.2.1 b) :: rest)) := x_get (ci := 1) (j := 2) (code := (b + 2 + 2)) (C := RX1) (T := TX1) (N := 8) F hw (sL qb).1 (sL qb).2 rfl rfl inT1 (by decide) hlk hdg kk
theorem g1_3 {b : Nat} (qb : isL b) (F : Fx G ZX p m c cc nL s args own) (hw : Wld G ZX M s.heap H locs) (hlk : Cond.fieldLink own index "PawnLane$Lane" "stock" "[I" ∈ TBL) (hdg : decode cc pc = .ok (.getfield index, 3)) (kk : W p l e R s m args below meth c H locs 0 0 Q (F0 m (pc + 3) ls (.ref (G.2.1 (b + 3)) :: rest))) : W p l e R s m args below meth c H locs 0 0 Q (F0 m pc ls (.ref (G.2.1 b) :: rest)) := x_get (ci := 1) (j := 3) (code := (b + 3 + 2)) (C := RX1) (T := TX1) (N := 8) F hw (sL qb).1 (sL qb).2 rfl rfl inT1 (by decide) hlk hdg kk
theorem g1_4 {b : Nat} (qb : isL b) (F : Fx G ZX p m c cc nL s args own) (hw : Wld G ZX M s.heap H locs) (hlk : Cond.fieldLink own index "PawnLane$Lane" "holder" "[I" ∈ TBL) (hdg : decode cc pc = .ok (.getfield index, 3)) (kk : W p l e R s m args below meth c H locs 0 0 Q (F0 m (pc + 3) ls (.ref (G.2.1 (b + 4)) :: rest))) : W p l e R s m args below meth c H locs 0 0 Q (F0 m pc ls (.ref (G.2.1 b) :: rest)) := x_get (ci := 1) (j := 4) (code := (b + 4 + 2)) (C := RX1) (T := TX1) (N := 8) F hw (sL qb).1 (sL qb).2 rfl rfl inT1 (by decide) hlk hdg kk
theorem g1_5 {b : Nat} (qb : isL b) (F : Fx G ZX p m c cc nL s args own) (hw : Wld G ZX M s.heap H locs) (hlk : Cond.fieldLink own index "PawnLane$Lane" "loan" "[I" ∈ TBL) (hdg : decode cc pc = .ok (.getfield index, 3)) (kk : W p l e R s m args below meth c H locs 0 0 Q (F0 m (pc + 3) ls (.ref (G.2.1 (b + 5)) :: rest))) : W p l e R s m args below meth c H locs 0 0 Q (F0 m pc ls (.ref (G.2.1 b) :: rest)) := x_get (ci := 1) (j := 5) (code := (b + 5 + 2)) (C := RX1) (T := TX1) (N := 8) F hw (sL qb).1 (sL qb).2 rfl rfl inT1 (by decide) hlk hdg kk
theorem g1_6 {b : Nat} (qb : isL b) (F : Fx G ZX p m c cc nL s args own) (hw : Wld G ZX M s.heap H locs) (hlk : Cond.fieldLink own index "PawnLane$Lane" "weeks" "[I" ∈ TBL) (hdg : decode cc pc = .ok (.getfield index, 3)) (kk : W p l e R s m args below meth c H locs 0 0 Q (F0 m (pc + 3) ls (.ref (G.2.1 (b + 6)) :: rest))) : W p l e R s m args below meth c H locs 0 0 Q (F0 m pc ls (.ref (G.2.1 b) :: rest)) := x_get (ci := 1) (j := 6) (code := (b + 6 + 2)) (C := RX1) (T := TX1) (N := 8) F hw (sL qb).1 (sL qb).2 rfl rfl inT1 (by decide) hlk hdg kk
theorem g1_7 {b : Nat} (qb : isL b) (F : Fx G ZX p m c cc nL s args own) (hw : Wld G ZX M s.heap H locs) (hlk : Cond.fieldLink own index "PawnLane$Lane" "deeds" "LPawnLane$Deeds;" ∈ TBL) (hdg : decode cc pc = .ok (.getfield index, 3)) (kk : W p l e R s m args below meth c H locs 0 0 Q (F0 m (pc + 3) ls (.ref (G.2.1 (b + 7)) :: rest))) : W p l e R s m args below meth c H locs 0 0 Q (F0 m pc ls (.ref (G.2.1 b) :: rest)) := x_get (ci := 1) (j := 7) (code := (b + 7 + 2)) (C := RX1) (T := TX1) (N := 8) F hw (sL qb).1 (sL qb).2 rfl rfl inT1 (by decide) hlk hdg kk
theorem g2_0 (F : Fx G ZX p m c cc nL s args own) (hw : Wld G ZX M s.heap H locs) (hlk : Cond.fieldLink own index "PawnLane$Orders" "shops" "I" ∈ TBL) (hdg : decode cc pc = .ok (.getfield index, 3)) (kk : W p l e R s m args below meth c H locs 0 0 Q (F0 m (pc + 3) ls (.int (M.1 54 0) :: rest))) : W p l e R s m args below meth c H locs 0 0 Q (F0 m pc ls (.ref (G.2.1 54) :: rest)) := x_get (ci := 2) (j := 0) (code := 0) (C := RX2) (T := TX2) (N := 6) F hw (sO).1 (sO).2 rfl rfl inT2 (by decide) hlk hdg kk
theorem s2_0 {v : Int32} (F : Fx G ZX p m c cc nL s args own) (hw : Wld G ZX M s.heap H locs) (hlk : Cond.fieldLink own index "PawnLane$Orders" "shops" "I" ∈ TBL) (hdg : decode cc pc = .ok (.putfield index, 3)) (kk : ∀ (H1 : Heap) (locs1 : List Loc), Wld G ZX (wI M 54 0 v) s.heap H1 locs1 → W p l e R s m args below meth c H1 locs1 0 0 Q (F0 m (pc + 3) ls rest)) : W p l e R s m args below meth c H locs 0 0 Q (F0 m pc ls (.int v :: .ref (G.2.1 54) :: rest)) := x_putI (ci := 2) (j := 0) (C := RX2) (T := TX2) (N := 6) (ty := .int) F hw (sO).1 (sO).2 rfl rfl inT2 tyX2 tyX2_ok nmX2 (by decide) hlk rfl (by decide +kernel) rfl rfl hdg kk
theorem g2_1 (F : Fx G ZX p m c cc nL s args own) (hw : Wld G ZX M s.heap H locs) (hlk : Cond.fieldLink own index "PawnLane$Orders" "pawned" "I" ∈ TBL) (hdg : decode cc pc = .ok (.getfield index, 3)) (kk : W p l e R s m args below meth c H locs 0 0 Q (F0 m (pc + 3) ls (.int (M.1 54 1) :: rest))) : W p l e R s m args below meth c H locs 0 0 Q (F0 m pc ls (.ref (G.2.1 54) :: rest)) := x_get (ci := 2) (j := 1) (code := 0) (C := RX2) (T := TX2) (N := 6) F hw (sO).1 (sO).2 rfl rfl inT2 (by decide) hlk hdg kk
theorem s2_1 {v : Int32} (F : Fx G ZX p m c cc nL s args own) (hw : Wld G ZX M s.heap H locs) (hlk : Cond.fieldLink own index "PawnLane$Orders" "pawned" "I" ∈ TBL) (hdg : decode cc pc = .ok (.putfield index, 3)) (kk : ∀ (H1 : Heap) (locs1 : List Loc), Wld G ZX (wI M 54 1 v) s.heap H1 locs1 → W p l e R s m args below meth c H1 locs1 0 0 Q (F0 m (pc + 3) ls rest)) : W p l e R s m args below meth c H locs 0 0 Q (F0 m pc ls (.int v :: .ref (G.2.1 54) :: rest)) := x_putI (ci := 2) (j := 1) (C := RX2) (T := TX2) (N := 6) (ty := .int) F hw (sO).1 (sO).2 rfl rfl inT2 tyX2 tyX2_ok nmX2 (by decide) hlk rfl (by decide +kernel) rfl rfl hdg kk
theorem g2_2 (F : Fx G ZX p m c cc nL s args own) (hw : Wld G ZX M s.heap H locs) (hlk : Cond.fieldLink own index "PawnLane$Orders" "cash" "[I" ∈ TBL) (hdg : decode cc pc = .ok (.getfield index, 3)) (kk : W p l e R s m args below meth c H locs 0 0 Q (F0 m (pc + 3) ls (.ref (G.2.1 55) :: rest))) : W p l e R s m args below meth c H locs 0 0 Q (F0 m pc ls (.ref (G.2.1 54) :: rest)) := x_get (ci := 2) (j := 2) (code := (55 + 2)) (C := RX2) (T := TX2) (N := 6) F hw (sO).1 (sO).2 rfl rfl inT2 (by decide) hlk hdg kk
theorem g2_3 (F : Fx G ZX p m c cc nL s args own) (hw : Wld G ZX M s.heap H locs) (hlk : Cond.fieldLink own index "PawnLane$Orders" "holder" "[I" ∈ TBL) (hdg : decode cc pc = .ok (.getfield index, 3)) (kk : W p l e R s m args below meth c H locs 0 0 Q (F0 m (pc + 3) ls (.ref (G.2.1 56) :: rest))) : W p l e R s m args below meth c H locs 0 0 Q (F0 m pc ls (.ref (G.2.1 54) :: rest)) := x_get (ci := 2) (j := 3) (code := (56 + 2)) (C := RX2) (T := TX2) (N := 6) F hw (sO).1 (sO).2 rfl rfl inT2 (by decide) hlk hdg kk
theorem g2_4 (F : Fx G ZX p m c cc nL s args own) (hw : Wld G ZX M s.heap H locs) (hlk : Cond.fieldLink own index "PawnLane$Orders" "due" "[I" ∈ TBL) (hdg : decode cc pc = .ok (.getfield index, 3)) (kk : W p l e R s m args below meth c H locs 0 0 Q (F0 m (pc + 3) ls (.ref (G.2.1 57) :: rest))) : W p l e R s m args below meth c H locs 0 0 Q (F0 m pc ls (.ref (G.2.1 54) :: rest)) := x_get (ci := 2) (j := 4) (code := (57 + 2)) (C := RX2) (T := TX2) (N := 6) F hw (sO).1 (sO).2 rfl rfl inT2 (by decide) hlk hdg kk
theorem g2_5 (F : Fx G ZX p m c cc nL s args own) (hw : Wld G ZX M s.heap H locs) (hlk : Cond.fieldLink own index "PawnLane$Orders" "bySet" "[I" ∈ TBL) (hdg : decode cc pc = .ok (.getfield index, 3)) (kk : W p l e R s m args below meth c H locs 0 0 Q (F0 m (pc + 3) ls (.ref (G.2.1 58) :: rest))) : W p l e R s m args below meth c H locs 0 0 Q (F0 m pc ls (.ref (G.2.1 54) :: rest)) := x_get (ci := 2) (j := 5) (code := (58 + 2)) (C := RX2) (T := TX2) (N := 6) F hw (sO).1 (sO).2 rfl rfl inT2 (by decide) hlk hdg kk
theorem g3_0 (F : Fx G ZX p m c cc nL s args own) (hw : Wld G ZX M s.heap H locs) (hlk : Cond.fieldLink own index "PawnLane$Reader" "draft" "LPawnLane$Lane;" ∈ TBL) (hdg : decode cc pc = .ok (.getfield index, 3)) (kk : W p l e R s m args below meth c H locs 0 0 Q (F0 m (pc + 3) ls (.ref (G.2.1 8) :: rest))) : W p l e R s m args below meth c H locs 0 0 Q (F0 m pc ls (.ref (G.2.1 7) :: rest)) := x_get (ci := 3) (j := 0) (code := (8 + 2)) (C := RX3) (T := TX3) (N := 5) F hw (sR).1 (sR).2 rfl rfl inT3 (by decide) hlk hdg kk
theorem g3_1 (F : Fx G ZX p m c cc nL s args own) (hw : Wld G ZX M s.heap H locs) (hlk : Cond.fieldLink own index "PawnLane$Reader" "awaited" "I" ∈ TBL) (hdg : decode cc pc = .ok (.getfield index, 3)) (kk : W p l e R s m args below meth c H locs 0 0 Q (F0 m (pc + 3) ls (.int (M.1 7 1) :: rest))) : W p l e R s m args below meth c H locs 0 0 Q (F0 m pc ls (.ref (G.2.1 7) :: rest)) := x_get (ci := 3) (j := 1) (code := 0) (C := RX3) (T := TX3) (N := 5) F hw (sR).1 (sR).2 rfl rfl inT3 (by decide) hlk hdg kk
theorem s3_1 {v : Int32} (F : Fx G ZX p m c cc nL s args own) (hw : Wld G ZX M s.heap H locs) (hlk : Cond.fieldLink own index "PawnLane$Reader" "awaited" "I" ∈ TBL) (hdg : decode cc pc = .ok (.putfield index, 3)) (kk : ∀ (H1 : Heap) (locs1 : List Loc), Wld G ZX (wI M 7 1 v) s.heap H1 locs1 → W p l e R s m args below meth c H1 locs1 0 0 Q (F0 m (pc + 3) ls rest)) : W p l e R s m args below meth c H locs 0 0 Q (F0 m pc ls (.int v :: .ref (G.2.1 7) :: rest)) := x_putI (ci := 3) (j := 1) (C := RX3) (T := TX3) (N := 5) (ty := .int) F hw (sR).1 (sR).2 rfl rfl inT3 tyX3 tyX3_ok nmX3 (by decide) hlk rfl (by decide +kernel) rfl rfl hdg kk
theorem g3_2 (F : Fx G ZX p m c cc nL s args own) (hw : Wld G ZX M s.heap H locs) (hlk : Cond.fieldLink own index "PawnLane$Reader" "ticketsBegan" "Z" ∈ TBL) (hdg : decode cc pc = .ok (.getfield index, 3)) (kk : W p l e R s m args below meth c H locs 0 0 Q (F0 m (pc + 3) ls (.int (M.1 7 2) :: rest))) : W p l e R s m args below meth c H locs 0 0 Q (F0 m pc ls (.ref (G.2.1 7) :: rest)) := x_get (ci := 3) (j := 2) (code := 0) (C := RX3) (T := TX3) (N := 5) F hw (sR).1 (sR).2 rfl rfl inT3 (by decide) hlk hdg kk
theorem s3_2 {v : Int32} (F : Fx G ZX p m c cc nL s args own) (hw : Wld G ZX M s.heap H locs) (hz : narrow .boolean (.int v) = .int v ∧ fits .boolean (.int v) = true) (hlk : Cond.fieldLink own index "PawnLane$Reader" "ticketsBegan" "Z" ∈ TBL) (hdg : decode cc pc = .ok (.putfield index, 3)) (kk : ∀ (H1 : Heap) (locs1 : List Loc), Wld G ZX (wI M 7 2 v) s.heap H1 locs1 → W p l e R s m args below meth c H1 locs1 0 0 Q (F0 m (pc + 3) ls rest)) : W p l e R s m args below meth c H locs 0 0 Q (F0 m pc ls (.int v :: .ref (G.2.1 7) :: rest)) := x_putI (ci := 3) (j := 2) (C := RX3) (T := TX3) (N := 5) (ty := .boolean) F hw (sR).1 (sR).2 rfl rfl inT3 tyX3 tyX3_ok nmX3 (by decide) hlk rfl (by decide +kernel) hz.1 hz.2 hdg kk
theorem g3_3 (F : Fx G ZX p m c cc nL s args own) (hw : Wld G ZX M s.heap H locs) (hlk : Cond.fieldLink own index "PawnLane$Reader" "pawned" "I" ∈ TBL) (hdg : decode cc pc = .ok (.getfield index, 3)) (kk : W p l e R s m args below meth c H locs 0 0 Q (F0 m (pc + 3) ls (.int (M.1 7 3) :: rest))) : W p l e R s m args below meth c H locs 0 0 Q (F0 m pc ls (.ref (G.2.1 7) :: rest)) := x_get (ci := 3) (j := 3) (code := 0) (C := RX3) (T := TX3) (N := 5) F hw (sR).1 (sR).2 rfl rfl inT3 (by decide) hlk hdg kk
theorem s3_3 {v : Int32} (F : Fx G ZX p m c cc nL s args own) (hw : Wld G ZX M s.heap H locs) (hlk : Cond.fieldLink own index "PawnLane$Reader" "pawned" "I" ∈ TBL) (hdg : decode cc pc = .ok (.putfield index, 3)) (kk : ∀ (H1 : Heap) (locs1 : List Loc), Wld G ZX (wI M 7 3 v) s.heap H1 locs1 → W p l e R s m args below meth c H1 locs1 0 0 Q (F0 m (pc + 3) ls rest)) : W p l e R s m args below meth c H locs 0 0 Q (F0 m pc ls (.int v :: .ref (G.2.1 7) :: rest)) := x_putI (ci := 3) (j := 3) (C := RX3) (T := TX3) (N := 5) (ty := .int) F hw (sR).1 (sR).2 rfl rfl inT3 tyX3 tyX3_ok nmX3 (by decide) hlk rfl (by decide +kernel) rfl rfl hdg kk
theorem g3_4 (F : Fx G ZX p m c cc nL s args own) (hw : Wld G ZX M s.heap H locs) (hlk : Cond.fieldLink own index "PawnLane$Reader" "holder" "I" ∈ TBL) (hdg : decode cc pc = .ok (.getfield index, 3)) (kk : W p l e R s m args below meth c H locs 0 0 Q (F0 m (pc + 3) ls (.int (M.1 7 4) :: rest))) : W p l e R s m args below meth c H locs 0 0 Q (F0 m pc ls (.ref (G.2.1 7) :: rest)) := x_get (ci := 3) (j := 4) (code := 0) (C := RX3) (T := TX3) (N := 5) F hw (sR).1 (sR).2 rfl rfl inT3 (by decide) hlk hdg kk
theorem s3_4 {v : Int32} (F : Fx G ZX p m c cc nL s args own) (hw : Wld G ZX M s.heap H locs) (hlk : Cond.fieldLink own index "PawnLane$Reader" "holder" "I" ∈ TBL) (hdg : decode cc pc = .ok (.putfield index, 3)) (kk : ∀ (H1 : Heap) (locs1 : List Loc), Wld G ZX (wI M 7 4 v) s.heap H1 locs1 → W p l e R s m args below meth c H1 locs1 0 0 Q (F0 m (pc + 3) ls rest)) : W p l e R s m args below meth c H locs 0 0 Q (F0 m pc ls (.int v :: .ref (G.2.1 7) :: rest)) := x_putI (ci := 3) (j := 4) (C := RX3) (T := TX3) (N := 5) (ty := .int) F hw (sR).1 (sR).2 rfl rfl inT3 tyX3 tyX3_ok nmX3 (by decide) hlk rfl (by decide +kernel) rfl rfl hdg kk
theorem g4_0 {b : Nat} (qb : isS b) (F : Fx G ZX p m c cc nL s args own) (hw : Wld G ZX M s.heap H locs) (hlk : Cond.fieldLink own index "PawnLane$Sheets" "width" "I" ∈ TBL) (hdg : decode cc pc = .ok (.getfield index, 3)) (kk : W p l e R s m args below meth c H locs 0 0 Q (F0 m (pc + 3) ls (.int (M.1 b 0) :: rest))) : W p l e R s m args below meth c H locs 0 0 Q (F0 m pc ls (.ref (G.2.1 b) :: rest)) := x_get (ci := 4) (j := 0) (code := 0) (C := RX4) (T := TX4) (N := 3) F hw (sS qb).1 (sS qb).2 rfl rfl inT4 (by decide) hlk hdg kk
theorem g4_1 {b : Nat} (qb : isS b) (F : Fx G ZX p m c cc nL s args own) (hw : Wld G ZX M s.heap H locs) (hlk : Cond.fieldLink own index "PawnLane$Sheets" "sizes" "[I" ∈ TBL) (hdg : decode cc pc = .ok (.getfield index, 3)) (kk : W p l e R s m args below meth c H locs 0 0 Q (F0 m (pc + 3) ls (.ref (G.2.1 (b + 1)) :: rest))) : W p l e R s m args below meth c H locs 0 0 Q (F0 m pc ls (.ref (G.2.1 b) :: rest)) := x_get (ci := 4) (j := 1) (code := (b + 1 + 2)) (C := RX4) (T := TX4) (N := 3) F hw (sS qb).1 (sS qb).2 rfl rfl inT4 (by decide) hlk hdg kk
theorem g4_2 {b : Nat} (qb : isS b) (F : Fx G ZX p m c cc nL s args own) (hw : Wld G ZX M s.heap H locs) (hlk : Cond.fieldLink own index "PawnLane$Sheets" "places" "[I" ∈ TBL) (hdg : decode cc pc = .ok (.getfield index, 3)) (kk : W p l e R s m args below meth c H locs 0 0 Q (F0 m (pc + 3) ls (.ref (G.2.1 (b + 2)) :: rest))) : W p l e R s m args below meth c H locs 0 0 Q (F0 m pc ls (.ref (G.2.1 b) :: rest)) := x_get (ci := 4) (j := 2) (code := (b + 2 + 2)) (C := RX4) (T := TX4) (N := 3) F hw (sS qb).1 (sS qb).2 rfl rfl inT4 (by decide) hlk hdg kk
theorem g5_0 (F : Fx G ZX p m c cc nL s args own) (hw : Wld G ZX M s.heap H locs) (hlk : Cond.fieldLink own index "PawnLane" "rows" "LPawnLane$Sheets;" ∈ TBL) (hdg : decode cc pc = .ok (.getfield index, 3)) (kk : W p l e R s m args below meth c H locs 0 0 Q (F0 m (pc + 3) ls (.ref (G.2.1 1) :: rest))) : W p l e R s m args below meth c H locs 0 0 Q (F0 m pc ls (.ref (G.2.1 0) :: rest)) := x_get (ci := 5) (j := 0) (code := (1 + 2)) (C := RX5) (T := TX5) (N := 11) F hw (sP).1 (sP).2 rfl rfl inT5 (by decide) hlk hdg kk
theorem g5_1 (F : Fx G ZX p m c cc nL s args own) (hw : Wld G ZX M s.heap H locs) (hlk : Cond.fieldLink own index "PawnLane" "texts" "LPawnLane$Sheets;" ∈ TBL) (hdg : decode cc pc = .ok (.getfield index, 3)) (kk : W p l e R s m args below meth c H locs 0 0 Q (F0 m (pc + 3) ls (.ref (G.2.1 4) :: rest))) : W p l e R s m args below meth c H locs 0 0 Q (F0 m pc ls (.ref (G.2.1 0) :: rest)) := x_get (ci := 5) (j := 1) (code := (4 + 2)) (C := RX5) (T := TX5) (N := 11) F hw (sP).1 (sP).2 rfl rfl inT5 (by decide) hlk hdg kk
theorem g5_2 (F : Fx G ZX p m c cc nL s args own) (hw : Wld G ZX M s.heap H locs) (hlk : Cond.fieldLink own index "PawnLane" "reader" "LPawnLane$Reader;" ∈ TBL) (hdg : decode cc pc = .ok (.getfield index, 3)) (kk : W p l e R s m args below meth c H locs 0 0 Q (F0 m (pc + 3) ls (.ref (G.2.1 7) :: rest))) : W p l e R s m args below meth c H locs 0 0 Q (F0 m pc ls (.ref (G.2.1 0) :: rest)) := x_get (ci := 5) (j := 2) (code := (7 + 2)) (C := RX5) (T := TX5) (N := 11) F hw (sP).1 (sP).2 rfl rfl inT5 (by decide) hlk hdg kk
theorem g5_3 (F : Fx G ZX p m c cc nL s args own) (hw : Wld G ZX M s.heap H locs) (hlk : Cond.fieldLink own index "PawnLane" "lane" "LPawnLane$Lane;" ∈ TBL) (hdg : decode cc pc = .ok (.getfield index, 3)) (kk : W p l e R s m args below meth c H locs 0 0 Q (F0 m (pc + 3) ls (.ref (G.2.1 17) :: rest))) : W p l e R s m args below meth c H locs 0 0 Q (F0 m pc ls (.ref (G.2.1 0) :: rest)) := x_get (ci := 5) (j := 3) (code := (17 + 2)) (C := RX5) (T := TX5) (N := 11) F hw (sP).1 (sP).2 rfl rfl inT5 (by decide) hlk hdg kk
theorem g5_4 (F : Fx G ZX p m c cc nL s args own) (hw : Wld G ZX M s.heap H locs) (hlk : Cond.fieldLink own index "PawnLane" "kept" "[LPawnLane$Lane;" ∈ TBL) (hdg : decode cc pc = .ok (.getfield index, 3)) (kk : W p l e R s m args below meth c H locs 0 0 Q (F0 m (pc + 3) ls (.ref (G.2.1 26) :: rest))) : W p l e R s m args below meth c H locs 0 0 Q (F0 m pc ls (.ref (G.2.1 0) :: rest)) := x_get (ci := 5) (j := 4) (code := (26 + 2)) (C := RX5) (T := TX5) (N := 11) F hw (sP).1 (sP).2 rfl rfl inT5 (by decide) hlk hdg kk
theorem g5_5 (F : Fx G ZX p m c cc nL s args own) (hw : Wld G ZX M s.heap H locs) (hlk : Cond.fieldLink own index "PawnLane" "orders" "LPawnLane$Orders;" ∈ TBL) (hdg : decode cc pc = .ok (.getfield index, 3)) (kk : W p l e R s m args below meth c H locs 0 0 Q (F0 m (pc + 3) ls (.ref (G.2.1 54) :: rest))) : W p l e R s m args below meth c H locs 0 0 Q (F0 m pc ls (.ref (G.2.1 0) :: rest)) := x_get (ci := 5) (j := 5) (code := (54 + 2)) (C := RX5) (T := TX5) (N := 11) F hw (sP).1 (sP).2 rfl rfl inT5 (by decide) hlk hdg kk
theorem g5_6 (F : Fx G ZX p m c cc nL s args own) (hw : Wld G ZX M s.heap H locs) (hlk : Cond.fieldLink own index "PawnLane" "findingTimes" "[I" ∈ TBL) (hdg : decode cc pc = .ok (.getfield index, 3)) (kk : W p l e R s m args below meth c H locs 0 0 Q (F0 m (pc + 3) ls (.ref (G.2.1 59) :: rest))) : W p l e R s m args below meth c H locs 0 0 Q (F0 m pc ls (.ref (G.2.1 0) :: rest)) := x_get (ci := 5) (j := 6) (code := (59 + 2)) (C := RX5) (T := TX5) (N := 11) F hw (sP).1 (sP).2 rfl rfl inT5 (by decide) hlk hdg kk
theorem g5_7 (F : Fx G ZX p m c cc nL s args own) (hw : Wld G ZX M s.heap H locs) (hlk : Cond.fieldLink own index "PawnLane" "latestFinding" "I" ∈ TBL) (hdg : decode cc pc = .ok (.getfield index, 3)) (kk : W p l e R s m args below meth c H locs 0 0 Q (F0 m (pc + 3) ls (.int (M.1 0 7) :: rest))) : W p l e R s m args below meth c H locs 0 0 Q (F0 m pc ls (.ref (G.2.1 0) :: rest)) := x_get (ci := 5) (j := 7) (code := 0) (C := RX5) (T := TX5) (N := 11) F hw (sP).1 (sP).2 rfl rfl inT5 (by decide) hlk hdg kk
theorem s5_7 {v : Int32} (F : Fx G ZX p m c cc nL s args own) (hw : Wld G ZX M s.heap H locs) (hlk : Cond.fieldLink own index "PawnLane" "latestFinding" "I" ∈ TBL) (hdg : decode cc pc = .ok (.putfield index, 3)) (kk : ∀ (H1 : Heap) (locs1 : List Loc), Wld G ZX (wI M 0 7 v) s.heap H1 locs1 → W p l e R s m args below meth c H1 locs1 0 0 Q (F0 m (pc + 3) ls rest)) : W p l e R s m args below meth c H locs 0 0 Q (F0 m pc ls (.int v :: .ref (G.2.1 0) :: rest)) := x_putI (ci := 5) (j := 7) (C := RX5) (T := TX5) (N := 11) (ty := .int) F hw (sP).1 (sP).2 rfl rfl inT5 tyX5 tyX5_ok nmX5 (by decide) hlk rfl (by decide +kernel) rfl rfl hdg kk
theorem g5_8 (F : Fx G ZX p m c cc nL s args own) (hw : Wld G ZX M s.heap H locs) (hlk : Cond.fieldLink own index "PawnLane" "answer" "I" ∈ TBL) (hdg : decode cc pc = .ok (.getfield index, 3)) (kk : W p l e R s m args below meth c H locs 0 0 Q (F0 m (pc + 3) ls (.int (M.1 0 8) :: rest))) : W p l e R s m args below meth c H locs 0 0 Q (F0 m pc ls (.ref (G.2.1 0) :: rest)) := x_get (ci := 5) (j := 8) (code := 0) (C := RX5) (T := TX5) (N := 11) F hw (sP).1 (sP).2 rfl rfl inT5 (by decide) hlk hdg kk
theorem s5_8 {v : Int32} (F : Fx G ZX p m c cc nL s args own) (hw : Wld G ZX M s.heap H locs) (hlk : Cond.fieldLink own index "PawnLane" "answer" "I" ∈ TBL) (hdg : decode cc pc = .ok (.putfield index, 3)) (kk : ∀ (H1 : Heap) (locs1 : List Loc), Wld G ZX (wI M 0 8 v) s.heap H1 locs1 → W p l e R s m args below meth c H1 locs1 0 0 Q (F0 m (pc + 3) ls rest)) : W p l e R s m args below meth c H locs 0 0 Q (F0 m pc ls (.int v :: .ref (G.2.1 0) :: rest)) := x_putI (ci := 5) (j := 8) (C := RX5) (T := TX5) (N := 11) (ty := .int) F hw (sP).1 (sP).2 rfl rfl inT5 tyX5 tyX5_ok nmX5 (by decide) hlk rfl (by decide +kernel) rfl rfl hdg kk
theorem g5_9 (F : Fx G ZX p m c cc nL s args own) (hw : Wld G ZX M s.heap H locs) (hlk : Cond.fieldLink own index "PawnLane" "numerator" "J" ∈ TBL) (hdg : decode cc pc = .ok (.getfield index, 3)) (kk : W p l e R s m args below meth c H locs 0 0 Q (F0 m (pc + 3) ls (.long (M.2 0 9) :: rest))) : W p l e R s m args below meth c H locs 0 0 Q (F0 m pc ls (.ref (G.2.1 0) :: rest)) := x_get (ci := 5) (j := 9) (code := 1) (C := RX5) (T := TX5) (N := 11) F hw (sP).1 (sP).2 rfl rfl inT5 (by decide) hlk hdg kk
theorem s5_9 {v : Int64} (F : Fx G ZX p m c cc nL s args own) (hw : Wld G ZX M s.heap H locs) (hlk : Cond.fieldLink own index "PawnLane" "numerator" "J" ∈ TBL) (hdg : decode cc pc = .ok (.putfield index, 3)) (kk : ∀ (H1 : Heap) (locs1 : List Loc), Wld G ZX (wJ M 0 9 v) s.heap H1 locs1 → W p l e R s m args below meth c H1 locs1 0 0 Q (F0 m (pc + 3) ls rest)) : W p l e R s m args below meth c H locs 0 0 Q (F0 m pc ls (.long v :: .ref (G.2.1 0) :: rest)) := x_putJ (ci := 5) (j := 9) (C := RX5) (T := TX5) (N := 11) F hw (sP).1 (sP).2 rfl rfl inT5 tyX5 tyX5_ok nmX5 (by decide) hlk rfl (by decide +kernel) hdg kk
theorem g5_10 (F : Fx G ZX p m c cc nL s args own) (hw : Wld G ZX M s.heap H locs) (hlk : Cond.fieldLink own index "PawnLane" "denominator" "J" ∈ TBL) (hdg : decode cc pc = .ok (.getfield index, 3)) (kk : W p l e R s m args below meth c H locs 0 0 Q (F0 m (pc + 3) ls (.long (M.2 0 10) :: rest))) : W p l e R s m args below meth c H locs 0 0 Q (F0 m pc ls (.ref (G.2.1 0) :: rest)) := x_get (ci := 5) (j := 10) (code := 1) (C := RX5) (T := TX5) (N := 11) F hw (sP).1 (sP).2 rfl rfl inT5 (by decide) hlk hdg kk
theorem s5_10 {v : Int64} (F : Fx G ZX p m c cc nL s args own) (hw : Wld G ZX M s.heap H locs) (hlk : Cond.fieldLink own index "PawnLane" "denominator" "J" ∈ TBL) (hdg : decode cc pc = .ok (.putfield index, 3)) (kk : ∀ (H1 : Heap) (locs1 : List Loc), Wld G ZX (wJ M 0 10 v) s.heap H1 locs1 → W p l e R s m args below meth c H1 locs1 0 0 Q (F0 m (pc + 3) ls rest)) : W p l e R s m args below meth c H locs 0 0 Q (F0 m pc ls (.long v :: .ref (G.2.1 0) :: rest)) := x_putJ (ci := 5) (j := 10) (C := RX5) (T := TX5) (N := 11) F hw (sP).1 (sP).2 rfl rfl inT5 tyX5 tyX5_ok nmX5 (by decide) hlk rfl (by decide +kernel) hdg kk
theorem g6_0 (F : Fx G ZY p m c cc nL s args own) (hw : Wld G ZY M s.heap H locs) (hlk : Cond.fieldLink own index "PawnLaneModel" "row" "[I" ∈ TBL) (hdg : decode cc pc = .ok (.getfield index, 3)) (kk : W p l e R s m args below meth c H locs 0 0 Q (F0 m (pc + 3) ls (.ref (G.2.1 1) :: rest))) : W p l e R s m args below meth c H locs 0 0 Q (F0 m pc ls (.ref (G.2.1 0) :: rest)) := x_get (ci := 6) (j := 0) (code := (1 + 2)) (C := RX6) (T := TX6) (N := 26) F hw (sM).1 (sM).2 rfl rfl inT6 (by decide) hlk hdg kk
theorem g6_1 (F : Fx G ZY p m c cc nL s args own) (hw : Wld G ZY M s.heap H locs) (hlk : Cond.fieldLink own index "PawnLaneModel" "shops" "I" ∈ TBL) (hdg : decode cc pc = .ok (.getfield index, 3)) (kk : W p l e R s m args below meth c H locs 0 0 Q (F0 m (pc + 3) ls (.int (M.1 0 1) :: rest))) : W p l e R s m args below meth c H locs 0 0 Q (F0 m pc ls (.ref (G.2.1 0) :: rest)) := x_get (ci := 6) (j := 1) (code := 0) (C := RX6) (T := TX6) (N := 26) F hw (sM).1 (sM).2 rfl rfl inT6 (by decide) hlk hdg kk
theorem s6_1 {v : Int32} (F : Fx G ZY p m c cc nL s args own) (hw : Wld G ZY M s.heap H locs) (hlk : Cond.fieldLink own index "PawnLaneModel" "shops" "I" ∈ TBL) (hdg : decode cc pc = .ok (.putfield index, 3)) (kk : ∀ (H1 : Heap) (locs1 : List Loc), Wld G ZY (wI M 0 1 v) s.heap H1 locs1 → W p l e R s m args below meth c H1 locs1 0 0 Q (F0 m (pc + 3) ls rest)) : W p l e R s m args below meth c H locs 0 0 Q (F0 m pc ls (.int v :: .ref (G.2.1 0) :: rest)) := x_putI (ci := 6) (j := 1) (C := RX6) (T := TX6) (N := 26) (ty := .int) F hw (sM).1 (sM).2 rfl rfl inT6 tyX6 tyX6_ok nmX6 (by decide) hlk rfl (by decide +kernel) rfl rfl hdg kk
theorem g6_2 (F : Fx G ZY p m c cc nL s args own) (hw : Wld G ZY M s.heap H locs) (hlk : Cond.fieldLink own index "PawnLaneModel" "kinds" "[I" ∈ TBL) (hdg : decode cc pc = .ok (.getfield index, 3)) (kk : W p l e R s m args below meth c H locs 0 0 Q (F0 m (pc + 3) ls (.ref (G.2.1 2) :: rest))) : W p l e R s m args below meth c H locs 0 0 Q (F0 m pc ls (.ref (G.2.1 0) :: rest)) := x_get (ci := 6) (j := 2) (code := (2 + 2)) (C := RX6) (T := TX6) (N := 26) F hw (sM).1 (sM).2 rfl rfl inT6 (by decide) hlk hdg kk
theorem g6_3 (F : Fx G ZY p m c cc nL s args own) (hw : Wld G ZY M s.heap H locs) (hlk : Cond.fieldLink own index "PawnLaneModel" "sizes" "[I" ∈ TBL) (hdg : decode cc pc = .ok (.getfield index, 3)) (kk : W p l e R s m args below meth c H locs 0 0 Q (F0 m (pc + 3) ls (.ref (G.2.1 3) :: rest))) : W p l e R s m args below meth c H locs 0 0 Q (F0 m pc ls (.ref (G.2.1 0) :: rest)) := x_get (ci := 6) (j := 3) (code := (3 + 2)) (C := RX6) (T := TX6) (N := 26) F hw (sM).1 (sM).2 rfl rfl inT6 (by decide) hlk hdg kk
theorem g6_4 (F : Fx G ZY p m c cc nL s args own) (hw : Wld G ZY M s.heap H locs) (hlk : Cond.fieldLink own index "PawnLaneModel" "items" "[I" ∈ TBL) (hdg : decode cc pc = .ok (.getfield index, 3)) (kk : W p l e R s m args below meth c H locs 0 0 Q (F0 m (pc + 3) ls (.ref (G.2.1 4) :: rest))) : W p l e R s m args below meth c H locs 0 0 Q (F0 m pc ls (.ref (G.2.1 0) :: rest)) := x_get (ci := 6) (j := 4) (code := (4 + 2)) (C := RX6) (T := TX6) (N := 26) F hw (sM).1 (sM).2 rfl rfl inT6 (by decide) hlk hdg kk
theorem g6_5 (F : Fx G ZY p m c cc nL s args own) (hw : Wld G ZY M s.heap H locs) (hlk : Cond.fieldLink own index "PawnLaneModel" "lengths" "[I" ∈ TBL) (hdg : decode cc pc = .ok (.getfield index, 3)) (kk : W p l e R s m args below meth c H locs 0 0 Q (F0 m (pc + 3) ls (.ref (G.2.1 5) :: rest))) : W p l e R s m args below meth c H locs 0 0 Q (F0 m pc ls (.ref (G.2.1 0) :: rest)) := x_get (ci := 6) (j := 5) (code := (5 + 2)) (C := RX6) (T := TX6) (N := 26) F hw (sM).1 (sM).2 rfl rfl inT6 (by decide) hlk hdg kk
theorem g6_6 (F : Fx G ZY p m c cc nL s args own) (hw : Wld G ZY M s.heap H locs) (hlk : Cond.fieldLink own index "PawnLaneModel" "bytes" "[I" ∈ TBL) (hdg : decode cc pc = .ok (.getfield index, 3)) (kk : W p l e R s m args below meth c H locs 0 0 Q (F0 m (pc + 3) ls (.ref (G.2.1 6) :: rest))) : W p l e R s m args below meth c H locs 0 0 Q (F0 m pc ls (.ref (G.2.1 0) :: rest)) := x_get (ci := 6) (j := 6) (code := (6 + 2)) (C := RX6) (T := TX6) (N := 26) F hw (sM).1 (sM).2 rfl rfl inT6 (by decide) hlk hdg kk
theorem g6_7 (F : Fx G ZY p m c cc nL s args own) (hw : Wld G ZY M s.heap H locs) (hlk : Cond.fieldLink own index "PawnLaneModel" "asked" "I" ∈ TBL) (hdg : decode cc pc = .ok (.getfield index, 3)) (kk : W p l e R s m args below meth c H locs 0 0 Q (F0 m (pc + 3) ls (.int (M.1 0 7) :: rest))) : W p l e R s m args below meth c H locs 0 0 Q (F0 m pc ls (.ref (G.2.1 0) :: rest)) := x_get (ci := 6) (j := 7) (code := 0) (C := RX6) (T := TX6) (N := 26) F hw (sM).1 (sM).2 rfl rfl inT6 (by decide) hlk hdg kk
theorem s6_7 {v : Int32} (F : Fx G ZY p m c cc nL s args own) (hw : Wld G ZY M s.heap H locs) (hlk : Cond.fieldLink own index "PawnLaneModel" "asked" "I" ∈ TBL) (hdg : decode cc pc = .ok (.putfield index, 3)) (kk : ∀ (H1 : Heap) (locs1 : List Loc), Wld G ZY (wI M 0 7 v) s.heap H1 locs1 → W p l e R s m args below meth c H1 locs1 0 0 Q (F0 m (pc + 3) ls rest)) : W p l e R s m args below meth c H locs 0 0 Q (F0 m pc ls (.int v :: .ref (G.2.1 0) :: rest)) := x_putI (ci := 6) (j := 7) (C := RX6) (T := TX6) (N := 26) (ty := .int) F hw (sM).1 (sM).2 rfl rfl inT6 tyX6 tyX6_ok nmX6 (by decide) hlk rfl (by decide +kernel) rfl rfl hdg kk
theorem g6_8 (F : Fx G ZY p m c cc nL s args own) (hw : Wld G ZY M s.heap H locs) (hlk : Cond.fieldLink own index "PawnLaneModel" "upper" "J" ∈ TBL) (hdg : decode cc pc = .ok (.getfield index, 3)) (kk : W p l e R s m args below meth c H locs 0 0 Q (F0 m (pc + 3) ls (.long (M.2 0 8) :: rest))) : W p l e R s m args below meth c H locs 0 0 Q (F0 m pc ls (.ref (G.2.1 0) :: rest)) := x_get (ci := 6) (j := 8) (code := 1) (C := RX6) (T := TX6) (N := 26) F hw (sM).1 (sM).2 rfl rfl inT6 (by decide) hlk hdg kk
theorem s6_8 {v : Int64} (F : Fx G ZY p m c cc nL s args own) (hw : Wld G ZY M s.heap H locs) (hlk : Cond.fieldLink own index "PawnLaneModel" "upper" "J" ∈ TBL) (hdg : decode cc pc = .ok (.putfield index, 3)) (kk : ∀ (H1 : Heap) (locs1 : List Loc), Wld G ZY (wJ M 0 8 v) s.heap H1 locs1 → W p l e R s m args below meth c H1 locs1 0 0 Q (F0 m (pc + 3) ls rest)) : W p l e R s m args below meth c H locs 0 0 Q (F0 m pc ls (.long v :: .ref (G.2.1 0) :: rest)) := x_putJ (ci := 6) (j := 8) (C := RX6) (T := TX6) (N := 26) F hw (sM).1 (sM).2 rfl rfl inT6 tyX6 tyX6_ok nmX6 (by decide) hlk rfl (by decide +kernel) hdg kk
theorem g6_9 (F : Fx G ZY p m c cc nL s args own) (hw : Wld G ZY M s.heap H locs) (hlk : Cond.fieldLink own index "PawnLaneModel" "lower" "J" ∈ TBL) (hdg : decode cc pc = .ok (.getfield index, 3)) (kk : W p l e R s m args below meth c H locs 0 0 Q (F0 m (pc + 3) ls (.long (M.2 0 9) :: rest))) : W p l e R s m args below meth c H locs 0 0 Q (F0 m pc ls (.ref (G.2.1 0) :: rest)) := x_get (ci := 6) (j := 9) (code := 1) (C := RX6) (T := TX6) (N := 26) F hw (sM).1 (sM).2 rfl rfl inT6 (by decide) hlk hdg kk
theorem s6_9 {v : Int64} (F : Fx G ZY p m c cc nL s args own) (hw : Wld G ZY M s.heap H locs) (hlk : Cond.fieldLink own index "PawnLaneModel" "lower" "J" ∈ TBL) (hdg : decode cc pc = .ok (.putfield index, 3)) (kk : ∀ (H1 : Heap) (locs1 : List Loc), Wld G ZY (wJ M 0 9 v) s.heap H1 locs1 → W p l e R s m args below meth c H1 locs1 0 0 Q (F0 m (pc + 3) ls rest)) : W p l e R s m args below meth c H locs 0 0 Q (F0 m pc ls (.long v :: .ref (G.2.1 0) :: rest)) := x_putJ (ci := 6) (j := 9) (C := RX6) (T := TX6) (N := 26) F hw (sM).1 (sM).2 rfl rfl inT6 tyX6 tyX6_ok nmX6 (by decide) hlk rfl (by decide +kernel) hdg kk
theorem g6_10 (F : Fx G ZY p m c cc nL s args own) (hw : Wld G ZY M s.heap H locs) (hlk : Cond.fieldLink own index "PawnLaneModel" "finding" "I" ∈ TBL) (hdg : decode cc pc = .ok (.getfield index, 3)) (kk : W p l e R s m args below meth c H locs 0 0 Q (F0 m (pc + 3) ls (.int (M.1 0 10) :: rest))) : W p l e R s m args below meth c H locs 0 0 Q (F0 m pc ls (.ref (G.2.1 0) :: rest)) := x_get (ci := 6) (j := 10) (code := 0) (C := RX6) (T := TX6) (N := 26) F hw (sM).1 (sM).2 rfl rfl inT6 (by decide) hlk hdg kk
theorem s6_10 {v : Int32} (F : Fx G ZY p m c cc nL s args own) (hw : Wld G ZY M s.heap H locs) (hlk : Cond.fieldLink own index "PawnLaneModel" "finding" "I" ∈ TBL) (hdg : decode cc pc = .ok (.putfield index, 3)) (kk : ∀ (H1 : Heap) (locs1 : List Loc), Wld G ZY (wI M 0 10 v) s.heap H1 locs1 → W p l e R s m args below meth c H1 locs1 0 0 Q (F0 m (pc + 3) ls rest)) : W p l e R s m args below meth c H locs 0 0 Q (F0 m pc ls (.int v :: .ref (G.2.1 0) :: rest)) := x_putI (ci := 6) (j := 10) (C := RX6) (T := TX6) (N := 26) (ty := .int) F hw (sM).1 (sM).2 rfl rfl inT6 tyX6 tyX6_ok nmX6 (by decide) hlk rfl (by decide +kernel) rfl rfl hdg kk
theorem g6_11 (F : Fx G ZY p m c cc nL s args own) (hw : Wld G ZY M s.heap H locs) (hlk : Cond.fieldLink own index "PawnLaneModel" "findings" "[I" ∈ TBL) (hdg : decode cc pc = .ok (.getfield index, 3)) (kk : W p l e R s m args below meth c H locs 0 0 Q (F0 m (pc + 3) ls (.ref (G.2.1 7) :: rest))) : W p l e R s m args below meth c H locs 0 0 Q (F0 m pc ls (.ref (G.2.1 0) :: rest)) := x_get (ci := 6) (j := 11) (code := (7 + 2)) (C := RX6) (T := TX6) (N := 26) F hw (sM).1 (sM).2 rfl rfl inT6 (by decide) hlk hdg kk
theorem g6_12 (F : Fx G ZY p m c cc nL s args own) (hw : Wld G ZY M s.heap H locs) (hlk : Cond.fieldLink own index "PawnLaneModel" "from" "I" ∈ TBL) (hdg : decode cc pc = .ok (.getfield index, 3)) (kk : W p l e R s m args below meth c H locs 0 0 Q (F0 m (pc + 3) ls (.int (M.1 0 12) :: rest))) : W p l e R s m args below meth c H locs 0 0 Q (F0 m pc ls (.ref (G.2.1 0) :: rest)) := x_get (ci := 6) (j := 12) (code := 0) (C := RX6) (T := TX6) (N := 26) F hw (sM).1 (sM).2 rfl rfl inT6 (by decide) hlk hdg kk
theorem s6_12 {v : Int32} (F : Fx G ZY p m c cc nL s args own) (hw : Wld G ZY M s.heap H locs) (hlk : Cond.fieldLink own index "PawnLaneModel" "from" "I" ∈ TBL) (hdg : decode cc pc = .ok (.putfield index, 3)) (kk : ∀ (H1 : Heap) (locs1 : List Loc), Wld G ZY (wI M 0 12 v) s.heap H1 locs1 → W p l e R s m args below meth c H1 locs1 0 0 Q (F0 m (pc + 3) ls rest)) : W p l e R s m args below meth c H locs 0 0 Q (F0 m pc ls (.int v :: .ref (G.2.1 0) :: rest)) := x_putI (ci := 6) (j := 12) (C := RX6) (T := TX6) (N := 26) (ty := .int) F hw (sM).1 (sM).2 rfl rfl inT6 tyX6 tyX6_ok nmX6 (by decide) hlk rfl (by decide +kernel) rfl rfl hdg kk
theorem g6_13 (F : Fx G ZY p m c cc nL s args own) (hw : Wld G ZY M s.heap H locs) (hlk : Cond.fieldLink own index "PawnLaneModel" "place" "I" ∈ TBL) (hdg : decode cc pc = .ok (.getfield index, 3)) (kk : W p l e R s m args below meth c H locs 0 0 Q (F0 m (pc + 3) ls (.int (M.1 0 13) :: rest))) : W p l e R s m args below meth c H locs 0 0 Q (F0 m pc ls (.ref (G.2.1 0) :: rest)) := x_get (ci := 6) (j := 13) (code := 0) (C := RX6) (T := TX6) (N := 26) F hw (sM).1 (sM).2 rfl rfl inT6 (by decide) hlk hdg kk
theorem s6_13 {v : Int32} (F : Fx G ZY p m c cc nL s args own) (hw : Wld G ZY M s.heap H locs) (hlk : Cond.fieldLink own index "PawnLaneModel" "place" "I" ∈ TBL) (hdg : decode cc pc = .ok (.putfield index, 3)) (kk : ∀ (H1 : Heap) (locs1 : List Loc), Wld G ZY (wI M 0 13 v) s.heap H1 locs1 → W p l e R s m args below meth c H1 locs1 0 0 Q (F0 m (pc + 3) ls rest)) : W p l e R s m args below meth c H locs 0 0 Q (F0 m pc ls (.int v :: .ref (G.2.1 0) :: rest)) := x_putI (ci := 6) (j := 13) (C := RX6) (T := TX6) (N := 26) (ty := .int) F hw (sM).1 (sM).2 rfl rfl inT6 tyX6 tyX6_ok nmX6 (by decide) hlk rfl (by decide +kernel) rfl rfl hdg kk
theorem g6_14 (F : Fx G ZY p m c cc nL s args own) (hw : Wld G ZY M s.heap H locs) (hlk : Cond.fieldLink own index "PawnLaneModel" "end" "I" ∈ TBL) (hdg : decode cc pc = .ok (.getfield index, 3)) (kk : W p l e R s m args below meth c H locs 0 0 Q (F0 m (pc + 3) ls (.int (M.1 0 14) :: rest))) : W p l e R s m args below meth c H locs 0 0 Q (F0 m pc ls (.ref (G.2.1 0) :: rest)) := x_get (ci := 6) (j := 14) (code := 0) (C := RX6) (T := TX6) (N := 26) F hw (sM).1 (sM).2 rfl rfl inT6 (by decide) hlk hdg kk
theorem s6_14 {v : Int32} (F : Fx G ZY p m c cc nL s args own) (hw : Wld G ZY M s.heap H locs) (hlk : Cond.fieldLink own index "PawnLaneModel" "end" "I" ∈ TBL) (hdg : decode cc pc = .ok (.putfield index, 3)) (kk : ∀ (H1 : Heap) (locs1 : List Loc), Wld G ZY (wI M 0 14 v) s.heap H1 locs1 → W p l e R s m args below meth c H1 locs1 0 0 Q (F0 m (pc + 3) ls rest)) : W p l e R s m args below meth c H locs 0 0 Q (F0 m pc ls (.int v :: .ref (G.2.1 0) :: rest)) := x_putI (ci := 6) (j := 14) (C := RX6) (T := TX6) (N := 26) (ty := .int) F hw (sM).1 (sM).2 rfl rfl inT6 tyX6 tyX6_ok nmX6 (by decide) hlk rfl (by decide +kernel) rfl rfl hdg kk
theorem g6_15 (F : Fx G ZY p m c cc nL s args own) (hw : Wld G ZY M s.heap H locs) (hlk : Cond.fieldLink own index "PawnLaneModel" "readShops" "[I" ∈ TBL) (hdg : decode cc pc = .ok (.getfield index, 3)) (kk : W p l e R s m args below meth c H locs 0 0 Q (F0 m (pc + 3) ls (.ref (G.2.1 8) :: rest))) : W p l e R s m args below meth c H locs 0 0 Q (F0 m pc ls (.ref (G.2.1 0) :: rest)) := x_get (ci := 6) (j := 15) (code := (8 + 2)) (C := RX6) (T := TX6) (N := 26) F hw (sM).1 (sM).2 rfl rfl inT6 (by decide) hlk hdg kk
theorem g6_16 (F : Fx G ZY p m c cc nL s args own) (hw : Wld G ZY M s.heap H locs) (hlk : Cond.fieldLink own index "PawnLaneModel" "readMany" "I" ∈ TBL) (hdg : decode cc pc = .ok (.getfield index, 3)) (kk : W p l e R s m args below meth c H locs 0 0 Q (F0 m (pc + 3) ls (.int (M.1 0 16) :: rest))) : W p l e R s m args below meth c H locs 0 0 Q (F0 m pc ls (.ref (G.2.1 0) :: rest)) := x_get (ci := 6) (j := 16) (code := 0) (C := RX6) (T := TX6) (N := 26) F hw (sM).1 (sM).2 rfl rfl inT6 (by decide) hlk hdg kk
theorem s6_16 {v : Int32} (F : Fx G ZY p m c cc nL s args own) (hw : Wld G ZY M s.heap H locs) (hlk : Cond.fieldLink own index "PawnLaneModel" "readMany" "I" ∈ TBL) (hdg : decode cc pc = .ok (.putfield index, 3)) (kk : ∀ (H1 : Heap) (locs1 : List Loc), Wld G ZY (wI M 0 16 v) s.heap H1 locs1 → W p l e R s m args below meth c H1 locs1 0 0 Q (F0 m (pc + 3) ls rest)) : W p l e R s m args below meth c H locs 0 0 Q (F0 m pc ls (.int v :: .ref (G.2.1 0) :: rest)) := x_putI (ci := 6) (j := 16) (C := RX6) (T := TX6) (N := 26) (ty := .int) F hw (sM).1 (sM).2 rfl rfl inT6 tyX6 tyX6_ok nmX6 (by decide) hlk rfl (by decide +kernel) rfl rfl hdg kk
theorem g6_17 (F : Fx G ZY p m c cc nL s args own) (hw : Wld G ZY M s.heap H locs) (hlk : Cond.fieldLink own index "PawnLaneModel" "readTickets" "I" ∈ TBL) (hdg : decode cc pc = .ok (.getfield index, 3)) (kk : W p l e R s m args below meth c H locs 0 0 Q (F0 m (pc + 3) ls (.int (M.1 0 17) :: rest))) : W p l e R s m args below meth c H locs 0 0 Q (F0 m pc ls (.ref (G.2.1 0) :: rest)) := x_get (ci := 6) (j := 17) (code := 0) (C := RX6) (T := TX6) (N := 26) F hw (sM).1 (sM).2 rfl rfl inT6 (by decide) hlk hdg kk
theorem s6_17 {v : Int32} (F : Fx G ZY p m c cc nL s args own) (hw : Wld G ZY M s.heap H locs) (hlk : Cond.fieldLink own index "PawnLaneModel" "readTickets" "I" ∈ TBL) (hdg : decode cc pc = .ok (.putfield index, 3)) (kk : ∀ (H1 : Heap) (locs1 : List Loc), Wld G ZY (wI M 0 17 v) s.heap H1 locs1 → W p l e R s m args below meth c H1 locs1 0 0 Q (F0 m (pc + 3) ls rest)) : W p l e R s m args below meth c H locs 0 0 Q (F0 m pc ls (.int v :: .ref (G.2.1 0) :: rest)) := x_putI (ci := 6) (j := 17) (C := RX6) (T := TX6) (N := 26) (ty := .int) F hw (sM).1 (sM).2 rfl rfl inT6 tyX6 tyX6_ok nmX6 (by decide) hlk rfl (by decide +kernel) rfl rfl hdg kk
theorem g6_18 (F : Fx G ZY p m c cc nL s args own) (hw : Wld G ZY M s.heap H locs) (hlk : Cond.fieldLink own index "PawnLaneModel" "chalked" "[I" ∈ TBL) (hdg : decode cc pc = .ok (.getfield index, 3)) (kk : W p l e R s m args below meth c H locs 0 0 Q (F0 m (pc + 3) ls (.ref (G.2.1 9) :: rest))) : W p l e R s m args below meth c H locs 0 0 Q (F0 m pc ls (.ref (G.2.1 0) :: rest)) := x_get (ci := 6) (j := 18) (code := (9 + 2)) (C := RX6) (T := TX6) (N := 26) F hw (sM).1 (sM).2 rfl rfl inT6 (by decide) hlk hdg kk
theorem g6_19 (F : Fx G ZY p m c cc nL s args own) (hw : Wld G ZY M s.heap H locs) (hlk : Cond.fieldLink own index "PawnLaneModel" "more" "[I" ∈ TBL) (hdg : decode cc pc = .ok (.getfield index, 3)) (kk : W p l e R s m args below meth c H locs 0 0 Q (F0 m (pc + 3) ls (.ref (G.2.1 10) :: rest))) : W p l e R s m args below meth c H locs 0 0 Q (F0 m pc ls (.ref (G.2.1 0) :: rest)) := x_get (ci := 6) (j := 19) (code := (10 + 2)) (C := RX6) (T := TX6) (N := 26) F hw (sM).1 (sM).2 rfl rfl inT6 (by decide) hlk hdg kk
theorem g6_20 (F : Fx G ZY p m c cc nL s args own) (hw : Wld G ZY M s.heap H locs) (hlk : Cond.fieldLink own index "PawnLaneModel" "due" "[I" ∈ TBL) (hdg : decode cc pc = .ok (.getfield index, 3)) (kk : W p l e R s m args below meth c H locs 0 0 Q (F0 m (pc + 3) ls (.ref (G.2.1 11) :: rest))) : W p l e R s m args below meth c H locs 0 0 Q (F0 m pc ls (.ref (G.2.1 0) :: rest)) := x_get (ci := 6) (j := 20) (code := (11 + 2)) (C := RX6) (T := TX6) (N := 26) F hw (sM).1 (sM).2 rfl rfl inT6 (by decide) hlk hdg kk
theorem g6_21 (F : Fx G ZY p m c cc nL s args own) (hw : Wld G ZY M s.heap H locs) (hlk : Cond.fieldLink own index "PawnLaneModel" "cash" "[I" ∈ TBL) (hdg : decode cc pc = .ok (.getfield index, 3)) (kk : W p l e R s m args below meth c H locs 0 0 Q (F0 m (pc + 3) ls (.ref (G.2.1 12) :: rest))) : W p l e R s m args below meth c H locs 0 0 Q (F0 m pc ls (.ref (G.2.1 0) :: rest)) := x_get (ci := 6) (j := 21) (code := (12 + 2)) (C := RX6) (T := TX6) (N := 26) F hw (sM).1 (sM).2 rfl rfl inT6 (by decide) hlk hdg kk
theorem g6_22 (F : Fx G ZY p m c cc nL s args own) (hw : Wld G ZY M s.heap H locs) (hlk : Cond.fieldLink own index "PawnLaneModel" "all" "I" ∈ TBL) (hdg : decode cc pc = .ok (.getfield index, 3)) (kk : W p l e R s m args below meth c H locs 0 0 Q (F0 m (pc + 3) ls (.int (M.1 0 22) :: rest))) : W p l e R s m args below meth c H locs 0 0 Q (F0 m pc ls (.ref (G.2.1 0) :: rest)) := x_get (ci := 6) (j := 22) (code := 0) (C := RX6) (T := TX6) (N := 26) F hw (sM).1 (sM).2 rfl rfl inT6 (by decide) hlk hdg kk
theorem s6_22 {v : Int32} (F : Fx G ZY p m c cc nL s args own) (hw : Wld G ZY M s.heap H locs) (hlk : Cond.fieldLink own index "PawnLaneModel" "all" "I" ∈ TBL) (hdg : decode cc pc = .ok (.putfield index, 3)) (kk : ∀ (H1 : Heap) (locs1 : List Loc), Wld G ZY (wI M 0 22 v) s.heap H1 locs1 → W p l e R s m args below meth c H1 locs1 0 0 Q (F0 m (pc + 3) ls rest)) : W p l e R s m args below meth c H locs 0 0 Q (F0 m pc ls (.int v :: .ref (G.2.1 0) :: rest)) := x_putI (ci := 6) (j := 22) (C := RX6) (T := TX6) (N := 26) (ty := .int) F hw (sM).1 (sM).2 rfl rfl inT6 tyX6 tyX6_ok nmX6 (by decide) hlk rfl (by decide +kernel) rfl rfl hdg kk
theorem g6_23 (F : Fx G ZY p m c cc nL s args own) (hw : Wld G ZY M s.heap H locs) (hlk : Cond.fieldLink own index "PawnLaneModel" "ways" "[J" ∈ TBL) (hdg : decode cc pc = .ok (.getfield index, 3)) (kk : W p l e R s m args below meth c H locs 0 0 Q (F0 m (pc + 3) ls (.ref (G.2.1 13) :: rest))) : W p l e R s m args below meth c H locs 0 0 Q (F0 m pc ls (.ref (G.2.1 0) :: rest)) := x_get (ci := 6) (j := 23) (code := (13 + 2)) (C := RX6) (T := TX6) (N := 26) F hw (sM).1 (sM).2 rfl rfl inT6 (by decide) hlk hdg kk
theorem g6_24 (F : Fx G ZY p m c cc nL s args own) (hw : Wld G ZY M s.heap H locs) (hlk : Cond.fieldLink own index "PawnLaneModel" "on" "[J" ∈ TBL) (hdg : decode cc pc = .ok (.getfield index, 3)) (kk : W p l e R s m args below meth c H locs 0 0 Q (F0 m (pc + 3) ls (.ref (G.2.1 14) :: rest))) : W p l e R s m args below meth c H locs 0 0 Q (F0 m pc ls (.ref (G.2.1 0) :: rest)) := x_get (ci := 6) (j := 24) (code := (14 + 2)) (C := RX6) (T := TX6) (N := 26) F hw (sM).1 (sM).2 rfl rfl inT6 (by decide) hlk hdg kk
theorem g6_25 (F : Fx G ZY p m c cc nL s args own) (hw : Wld G ZY M s.heap H locs) (hlk : Cond.fieldLink own index "PawnLaneModel" "soon" "[I" ∈ TBL) (hdg : decode cc pc = .ok (.getfield index, 3)) (kk : W p l e R s m args below meth c H locs 0 0 Q (F0 m (pc + 3) ls (.ref (G.2.1 15) :: rest))) : W p l e R s m args below meth c H locs 0 0 Q (F0 m pc ls (.ref (G.2.1 0) :: rest)) := x_get (ci := 6) (j := 25) (code := (15 + 2)) (C := RX6) (T := TX6) (N := 26) F hw (sM).1 (sM).2 rfl rfl inT6 (by decide) hlk hdg kk
end XFields
end
section
theorem tw_0 : Cond.constant RJ6 264 65536 ∈ TBL := tbl_3 (i := 76) (by decide +kernel) (by decide +kernel)
theorem tw_1 : Cond.constant RJ6 265 1431655765 ∈ TBL := tbl_2 (i := 145) (by decide +kernel) (by decide +kernel)
theorem tw_2 : Cond.constant RJ6 266 858993459 ∈ TBL := tbl_2 (i := 146) (by decide +kernel) (by decide +kernel)
theorem tw_3 : Cond.constant RJ6 267 252645135 ∈ TBL := tbl_2 (i := 147) (by decide +kernel) (by decide +kernel)
theorem tw_4 : Cond.code yJ9_max_7cf53 cJ9_max_7cf53 2 (some .int) ∈ TBL := tbl_2 (i := 121) (by decide +kernel) (by decide +kernel)
theorem tw_5 : Cond.initialized RJ9 ∈ TBL := tbl_1 (i := 10) (by decide +kernel) (by decide +kernel)
theorem tw_6 : Cond.methodLink RX5 335 yJ9_max_7cf53 ∈ TBL := tbl_2 (i := 119) (by decide +kernel) (by decide +kernel)
theorem tw_7 : Cond.static yJ9_max_7cf53 ∈ TBL := tbl_2 (i := 120) (by decide +kernel) (by decide +kernel)
theorem sw_RX5_335 : SW RX5 335 yJ9_max_7cf53 (.code yJ9_max_7cf53 cJ9_max_7cf53 2 (some .int)) 2 := ⟨good_C tw_4, tw_5, tw_6, tw_7, by decide +kernel⟩
theorem tw_9 : Cond.fieldLink RX0 15 "PawnLane$Deeds" "size" "I" ∈ TBL := tbl_1 (i := 59) (by decide +kernel) (by decide +kernel)
theorem tw_10 : Cond.fieldLink RX0 9 "PawnLane$Deeds" "packed" "[I" ∈ TBL := tbl_1 (i := 58) (by decide +kernel) (by decide +kernel)
theorem tw_11 : Cond.code yX0_hasRoom cX0_hasRoom 2 (some .boolean) ∈ TBL := tbl_2 (i := 191) (by decide +kernel) (by decide +kernel)
theorem tw_12 : Cond.methodLink RX0 19 yX0_hasRoom ∈ TBL := tbl_2 (i := 200) (by decide +kernel) (by decide +kernel)
theorem tw_13 : Cond.instanceMethod yX0_hasRoom ∈ TBL := tbl_2 (i := 189) (by decide +kernel) (by decide +kernel)
theorem tw_14 : Cond.selects RX0 yX0_hasRoom yX0_hasRoom ∈ TBL := tbl_2 (i := 190) (by decide +kernel) (by decide +kernel)
theorem tw_15 : Cond.initialized RX0 ∈ TBL := tbl_1 (i := 6) (by decide +kernel) (by decide +kernel)
theorem vw_RX0_19 : VW RX0 19 RX0 yX0_hasRoom (.code yX0_hasRoom cX0_hasRoom 2 (some .boolean)) 1 := ⟨good_V tw_12 tw_13 tw_14 tw_15 tw_11, by decide +kernel⟩
theorem tw_17 : Cond.methodLink RX0 23 arraycopyName ∈ TBL := tbl_2 (i := 100) (by decide +kernel) (by decide +kernel)
theorem tw_18 : Cond.native arraycopyName ∈ TBL := tbl_2 (i := 11) (by decide +kernel) (by decide +kernel)
theorem tw_19 : Cond.static arraycopyName ∈ TBL := tbl_2 (i := 10) (by decide +kernel) (by decide +kernel)
theorem tw_20 : Cond.initialized RJ10 ∈ TBL := tbl_1 (i := 9) (by decide +kernel) (by decide +kernel)
theorem tw_21 : Cond.fieldLink RX4 13 "PawnLane$Sheets" "sizes" "[I" ∈ TBL := tbl_1 (i := 30) (by decide +kernel) (by decide +kernel)
theorem tw_22 : Cond.fieldLink RX4 17 "PawnLane$Sheets" "places" "[I" ∈ TBL := tbl_1 (i := 31) (by decide +kernel) (by decide +kernel)
theorem tw_23 : Cond.fieldLink RX4 7 "PawnLane$Sheets" "width" "I" ∈ TBL := tbl_1 (i := 29) (by decide +kernel) (by decide +kernel)
theorem tw_24 : Cond.code yX4_setValue cX4_setValue 4 none ∈ TBL := tbl_1 (i := 203) (by decide +kernel) (by decide +kernel)
theorem tw_25 : Cond.methodLink RX4 26 yX4_setValue ∈ TBL := tbl_1 (i := 200) (by decide +kernel) (by decide +kernel)
theorem tw_26 : Cond.instanceMethod yX4_setValue ∈ TBL := tbl_1 (i := 201) (by decide +kernel) (by decide +kernel)
theorem tw_27 : Cond.selects RX4 yX4_setValue yX4_setValue ∈ TBL := tbl_1 (i := 202) (by decide +kernel) (by decide +kernel)
theorem tw_28 : Cond.initialized RX4 ∈ TBL := tbl_1 (i := 2) (by decide +kernel) (by decide +kernel)
theorem vw_RX4_26 : VW RX4 26 RX4 yX4_setValue (.code yX4_setValue cX4_setValue 4 none) 3 := ⟨good_V tw_25 tw_26 tw_27 tw_28 tw_24, by decide +kernel⟩
theorem tw_30 : Cond.methodLink RX4 30 arraycopyName ∈ TBL := tbl_2 (i := 9) (by decide +kernel) (by decide +kernel)
theorem tw_31 : Cond.code yX4_valueAt cX4_valueAt 3 (some .int) ∈ TBL := tbl_1 (i := 227) (by decide +kernel) (by decide +kernel)
theorem tw_32 : Cond.methodLink RX4 36 yX4_valueAt ∈ TBL := tbl_2 (i := 24) (by decide +kernel) (by decide +kernel)
theorem tw_33 : Cond.instanceMethod yX4_valueAt ∈ TBL := tbl_1 (i := 225) (by decide +kernel) (by decide +kernel)
theorem tw_34 : Cond.selects RX4 yX4_valueAt yX4_valueAt ∈ TBL := tbl_1 (i := 226) (by decide +kernel) (by decide +kernel)
theorem vw_RX4_36 : VW RX4 36 RX4 yX4_valueAt (.code yX4_valueAt cX4_valueAt 3 (some .int)) 2 := ⟨good_V tw_32 tw_33 tw_34 tw_28 tw_31, by decide +kernel⟩
theorem tw_36 : Cond.code yX4_isThere cX4_isThere 2 (some .boolean) ∈ TBL := tbl_1 (i := 219) (by decide +kernel) (by decide +kernel)
theorem tw_37 : Cond.methodLink RX4 40 yX4_isThere ∈ TBL := tbl_4 (i := 49) (by decide +kernel) (by decide +kernel)
theorem tw_38 : Cond.instanceMethod yX4_isThere ∈ TBL := tbl_1 (i := 217) (by decide +kernel) (by decide +kernel)
theorem tw_39 : Cond.selects RX4 yX4_isThere yX4_isThere ∈ TBL := tbl_1 (i := 218) (by decide +kernel) (by decide +kernel)
theorem vw_RX4_40 : VW RX4 40 RX4 yX4_isThere (.code yX4_isThere cX4_isThere 2 (some .boolean)) 1 := ⟨good_V tw_37 tw_38 tw_39 tw_28 tw_36, by decide +kernel⟩
theorem tw_41 : Cond.constantLong RX4 44 31 ∈ TBL := tbl_4 (i := 72) (by decide +kernel) (by decide +kernel)
theorem tw_42 : Cond.fieldLink RX1 9 "PawnLane$Lane" "shops" "I" ∈ TBL := tbl_1 (i := 67) (by decide +kernel) (by decide +kernel)
theorem tw_43 : Cond.fieldLink RX1 37 "PawnLane$Lane" "deeds" "LPawnLane$Deeds;" ∈ TBL := tbl_1 (i := 86) (by decide +kernel) (by decide +kernel)
theorem tw_44 : Cond.fieldLink RX1 41 "PawnLane$Deeds" "size" "I" ∈ TBL := tbl_1 (i := 60) (by decide +kernel) (by decide +kernel)
theorem tw_45 : Cond.fieldLink RX1 25 "PawnLane$Lane" "holder" "[I" ∈ TBL := tbl_1 (i := 80) (by decide +kernel) (by decide +kernel)
theorem tw_46 : Cond.fieldLink RX1 28 "PawnLane$Lane" "loan" "[I" ∈ TBL := tbl_1 (i := 83) (by decide +kernel) (by decide +kernel)
theorem tw_47 : Cond.fieldLink RX1 31 "PawnLane$Lane" "weeks" "[I" ∈ TBL := tbl_1 (i := 84) (by decide +kernel) (by decide +kernel)
theorem tw_48 : Cond.fieldLink RX1 19 "PawnLane$Lane" "cash" "[I" ∈ TBL := tbl_1 (i := 73) (by decide +kernel) (by decide +kernel)
theorem tw_49 : Cond.code yX1_setTicket cX1_setTicket 5 none ∈ TBL := tbl_2 (i := 69) (by decide +kernel) (by decide +kernel)
theorem tw_50 : Cond.methodLink RX1 58 yX1_setTicket ∈ TBL := tbl_2 (i := 66) (by decide +kernel) (by decide +kernel)
theorem tw_51 : Cond.instanceMethod yX1_setTicket ∈ TBL := tbl_2 (i := 67) (by decide +kernel) (by decide +kernel)
theorem tw_52 : Cond.selects RX1 yX1_setTicket yX1_setTicket ∈ TBL := tbl_2 (i := 68) (by decide +kernel) (by decide +kernel)
theorem tw_53 : Cond.initialized RX1 ∈ TBL := tbl_1 (i := 5) (by decide +kernel) (by decide +kernel)
theorem vw_RX1_58 : VW RX1 58 RX1 yX1_setTicket (.code yX1_setTicket cX1_setTicket 5 none) 4 := ⟨good_V tw_50 tw_51 tw_52 tw_53 tw_49, by decide +kernel⟩
theorem tw_55 : Cond.code yX1_isPawned cX1_isPawned 2 (some .boolean) ∈ TBL := tbl_2 (i := 85) (by decide +kernel) (by decide +kernel)
theorem tw_56 : Cond.methodLink RX1 62 yX1_isPawned ∈ TBL := tbl_2 (i := 115) (by decide +kernel) (by decide +kernel)
theorem tw_57 : Cond.instanceMethod yX1_isPawned ∈ TBL := tbl_2 (i := 83) (by decide +kernel) (by decide +kernel)
theorem tw_58 : Cond.selects RX1 yX1_isPawned yX1_isPawned ∈ TBL := tbl_2 (i := 84) (by decide +kernel) (by decide +kernel)
theorem vw_RX1_62 : VW RX1 62 RX1 yX1_isPawned (.code yX1_isPawned cX1_isPawned 2 (some .boolean)) 1 := ⟨good_V tw_56 tw_57 tw_58 tw_53 tw_55, by decide +kernel⟩
theorem tw_60 : Cond.code yX5_isIn cX5_isIn 2 (some .boolean) ∈ TBL := tbl_2 (i := 171) (by decide +kernel) (by decide +kernel)
theorem tw_61 : Cond.initialized RX5 ∈ TBL := tbl_1 (i := 1) (by decide +kernel) (by decide +kernel)
theorem tw_62 : Cond.static yX5_isIn ∈ TBL := tbl_2 (i := 170) (by decide +kernel) (by decide +kernel)
theorem nn_RX1_66 : NN RX1 66 yX5_isIn (.code yX5_isIn cX5_isIn 2 (some .boolean)) 2 := ⟨good_C tw_60, tw_61, by decide +kernel, tw_62, by decide +kernel⟩
theorem tw_64 : Cond.fieldLink RX1 22 "PawnLane$Lane" "stock" "[I" ∈ TBL := tbl_1 (i := 77) (by decide +kernel) (by decide +kernel)
theorem tw_65 : Cond.fieldLink RX1 15 "PawnLane$Lane" "kind" "[I" ∈ TBL := tbl_1 (i := 71) (by decide +kernel) (by decide +kernel)
theorem tw_66 : Cond.code yX5_isOfKind cX5_isOfKind 2 (some .boolean) ∈ TBL := tbl_2 (i := 132) (by decide +kernel) (by decide +kernel)
theorem tw_67 : Cond.static yX5_isOfKind ∈ TBL := tbl_2 (i := 131) (by decide +kernel) (by decide +kernel)
theorem nn_RX1_78 : NN RX1 78 yX5_isOfKind (.code yX5_isOfKind cX5_isOfKind 2 (some .boolean)) 2 := ⟨good_C tw_66, tw_61, by decide +kernel, tw_67, by decide +kernel⟩
theorem tw_69 : Cond.methodLink RX1 81 yJ9_max_7cf53 ∈ TBL := tbl_2 (i := 226) (by decide +kernel) (by decide +kernel)
theorem sw_RX1_81 : SW RX1 81 yJ9_max_7cf53 (.code yJ9_max_7cf53 cJ9_max_7cf53 2 (some .int)) 2 := ⟨good_C tw_4, tw_5, tw_69, tw_7, by decide +kernel⟩
theorem tw_71 : Cond.methodLink RX1 44 arraycopyName ∈ TBL := tbl_2 (i := 95) (by decide +kernel) (by decide +kernel)
theorem tw_72 : Cond.code yX0_becomeLike cX0_becomeLike 2 none ∈ TBL := tbl_2 (i := 99) (by decide +kernel) (by decide +kernel)
theorem tw_73 : Cond.methodLink RX1 50 yX0_becomeLike ∈ TBL := tbl_2 (i := 96) (by decide +kernel) (by decide +kernel)
theorem tw_74 : Cond.instanceMethod yX0_becomeLike ∈ TBL := tbl_2 (i := 97) (by decide +kernel) (by decide +kernel)
theorem tw_75 : Cond.selects RX0 yX0_becomeLike yX0_becomeLike ∈ TBL := tbl_2 (i := 98) (by decide +kernel) (by decide +kernel)
theorem vw_RX1_50 : VW RX1 50 RX0 yX0_becomeLike (.code yX0_becomeLike cX0_becomeLike 2 none) 1 := ⟨good_V tw_73 tw_74 tw_75 tw_15 tw_72, by decide +kernel⟩
theorem tw_77 : Cond.code yX1_removeTicket cX1_removeTicket 2 none ∈ TBL := tbl_2 (i := 65) (by decide +kernel) (by decide +kernel)
theorem tw_78 : Cond.methodLink RX1 54 yX1_removeTicket ∈ TBL := tbl_2 (i := 62) (by decide +kernel) (by decide +kernel)
theorem tw_79 : Cond.instanceMethod yX1_removeTicket ∈ TBL := tbl_2 (i := 63) (by decide +kernel) (by decide +kernel)
theorem tw_80 : Cond.selects RX1 yX1_removeTicket yX1_removeTicket ∈ TBL := tbl_2 (i := 64) (by decide +kernel) (by decide +kernel)
theorem vw_RX1_54 : VW RX1 54 RX1 yX1_removeTicket (.code yX1_removeTicket cX1_removeTicket 2 none) 1 := ⟨good_V tw_78 tw_79 tw_80 tw_53 tw_77, by decide +kernel⟩
theorem tw_82 : Cond.code yX5_dueWith cX5_dueWith 3 (some .int) ∈ TBL := tbl_2 (i := 118) (by decide +kernel) (by decide +kernel)
theorem tw_83 : Cond.static yX5_dueWith ∈ TBL := tbl_2 (i := 117) (by decide +kernel) (by decide +kernel)
theorem nn_RX1_70 : NN RX1 70 yX5_dueWith (.code yX5_dueWith cX5_dueWith 3 (some .int)) 3 := ⟨good_C tw_82, tw_61, by decide +kernel, tw_83, by decide +kernel⟩
theorem tw_85 : Cond.code yX1_isHeldIn cX1_isHeldIn 3 (some .boolean) ∈ TBL := tbl_3 (i := 63) (by decide +kernel) (by decide +kernel)
theorem tw_86 : Cond.methodLink RX1 86 yX1_isHeldIn ∈ TBL := tbl_3 (i := 60) (by decide +kernel) (by decide +kernel)
theorem tw_87 : Cond.instanceMethod yX1_isHeldIn ∈ TBL := tbl_3 (i := 61) (by decide +kernel) (by decide +kernel)
theorem tw_88 : Cond.selects RX1 yX1_isHeldIn yX1_isHeldIn ∈ TBL := tbl_3 (i := 62) (by decide +kernel) (by decide +kernel)
theorem vw_RX1_86 : VW RX1 86 RX1 yX1_isHeldIn (.code yX1_isHeldIn cX1_isHeldIn 3 (some .boolean)) 2 := ⟨good_V tw_86 tw_87 tw_88 tw_53 tw_85, by decide +kernel⟩
theorem tw_90 : Cond.code yX0_add cX0_add 6 none ∈ TBL := tbl_2 (i := 199) (by decide +kernel) (by decide +kernel)
theorem tw_91 : Cond.methodLink RX1 92 yX0_add ∈ TBL := tbl_2 (i := 196) (by decide +kernel) (by decide +kernel)
theorem tw_92 : Cond.instanceMethod yX0_add ∈ TBL := tbl_2 (i := 197) (by decide +kernel) (by decide +kernel)
theorem tw_93 : Cond.selects RX0 yX0_add yX0_add ∈ TBL := tbl_2 (i := 198) (by decide +kernel) (by decide +kernel)
theorem vw_RX1_92 : VW RX1 92 RX0 yX0_add (.code yX0_add cX0_add 6 none) 5 := ⟨good_V tw_91 tw_92 tw_93 tw_15 tw_90, by decide +kernel⟩
theorem tw_95 : Cond.code yX1_pay cX1_pay 4 none ∈ TBL := tbl_2 (i := 204) (by decide +kernel) (by decide +kernel)
theorem tw_96 : Cond.methodLink RX1 96 yX1_pay ∈ TBL := tbl_2 (i := 201) (by decide +kernel) (by decide +kernel)
theorem tw_97 : Cond.instanceMethod yX1_pay ∈ TBL := tbl_2 (i := 203) (by decide +kernel) (by decide +kernel)
theorem tw_98 : Cond.selects RX1 yX1_pay yX1_pay ∈ TBL := tbl_sel (i := 9) (by decide +kernel) (by decide +kernel)
theorem vw_RX1_96 : VW RX1 96 RX1 yX1_pay (.code yX1_pay cX1_pay 4 none) 3 := ⟨good_V tw_96 tw_97 tw_98 tw_53 tw_95, by decide +kernel⟩
theorem tw_100 : Cond.code yX1_ageTickets cX1_ageTickets 3 none ∈ TBL := tbl_2 (i := 234) (by decide +kernel) (by decide +kernel)
theorem tw_101 : Cond.methodLink RX1 100 yX1_ageTickets ∈ TBL := tbl_2 (i := 231) (by decide +kernel) (by decide +kernel)
theorem tw_102 : Cond.instanceMethod yX1_ageTickets ∈ TBL := tbl_2 (i := 233) (by decide +kernel) (by decide +kernel)
theorem tw_103 : Cond.selects RX1 yX1_ageTickets yX1_ageTickets ∈ TBL := tbl_sel (i := 10) (by decide +kernel) (by decide +kernel)
theorem vw_RX1_100 : VW RX1 100 RX1 yX1_ageTickets (.code yX1_ageTickets cX1_ageTickets 3 none) 1 := ⟨good_V tw_101 tw_102 tw_103 tw_53 tw_100, by decide +kernel⟩
theorem tw_105 : Cond.code yX1_dueOf cX1_dueOf 3 (some .int) ∈ TBL := tbl_2 (i := 114) (by decide +kernel) (by decide +kernel)
theorem tw_106 : Cond.methodLink RX1 74 yX1_dueOf ∈ TBL := tbl_2 (i := 141) (by decide +kernel) (by decide +kernel)
theorem tw_107 : Cond.instanceMethod yX1_dueOf ∈ TBL := tbl_2 (i := 112) (by decide +kernel) (by decide +kernel)
theorem tw_108 : Cond.selects RX1 yX1_dueOf yX1_dueOf ∈ TBL := tbl_2 (i := 113) (by decide +kernel) (by decide +kernel)
theorem vw_RX1_74 : VW RX1 74 RX1 yX1_dueOf (.code yX1_dueOf cX1_dueOf 3 (some .int)) 2 := ⟨good_V tw_106 tw_107 tw_108 tw_53 tw_105, by decide +kernel⟩
theorem tw_110 : Cond.code yX0_removeLast cX0_removeLast 1 none ∈ TBL := tbl_3 (i := 38) (by decide +kernel) (by decide +kernel)
theorem tw_111 : Cond.methodLink RX1 139 yX0_removeLast ∈ TBL := tbl_3 (i := 35) (by decide +kernel) (by decide +kernel)
theorem tw_112 : Cond.instanceMethod yX0_removeLast ∈ TBL := tbl_3 (i := 36) (by decide +kernel) (by decide +kernel)
theorem tw_113 : Cond.selects RX0 yX0_removeLast yX0_removeLast ∈ TBL := tbl_3 (i := 37) (by decide +kernel) (by decide +kernel)
theorem vw_RX1_139 : VW RX1 139 RX0 yX0_removeLast (.code yX0_removeLast cX0_removeLast 1 none) 0 := ⟨good_V tw_111 tw_112 tw_113 tw_15 tw_110, by decide +kernel⟩
theorem tw_115 : Cond.code yX0_shopOf cX0_shopOf 2 (some .int) ∈ TBL := tbl_3 (i := 18) (by decide +kernel) (by decide +kernel)
theorem tw_116 : Cond.methodLink RX1 124 yX0_shopOf ∈ TBL := tbl_3 (i := 15) (by decide +kernel) (by decide +kernel)
theorem tw_117 : Cond.instanceMethod yX0_shopOf ∈ TBL := tbl_3 (i := 16) (by decide +kernel) (by decide +kernel)
theorem tw_118 : Cond.selects RX0 yX0_shopOf yX0_shopOf ∈ TBL := tbl_3 (i := 17) (by decide +kernel) (by decide +kernel)
theorem vw_RX1_124 : VW RX1 124 RX0 yX0_shopOf (.code yX0_shopOf cX0_shopOf 2 (some .int)) 1 := ⟨good_V tw_116 tw_117 tw_118 tw_15 tw_115, by decide +kernel⟩
theorem tw_120 : Cond.code yX0_otherOf cX0_otherOf 2 (some .int) ∈ TBL := tbl_3 (i := 22) (by decide +kernel) (by decide +kernel)
theorem tw_121 : Cond.methodLink RX1 127 yX0_otherOf ∈ TBL := tbl_3 (i := 19) (by decide +kernel) (by decide +kernel)
theorem tw_122 : Cond.instanceMethod yX0_otherOf ∈ TBL := tbl_3 (i := 20) (by decide +kernel) (by decide +kernel)
theorem tw_123 : Cond.selects RX0 yX0_otherOf yX0_otherOf ∈ TBL := tbl_3 (i := 21) (by decide +kernel) (by decide +kernel)
theorem vw_RX1_127 : VW RX1 127 RX0 yX0_otherOf (.code yX0_otherOf cX0_otherOf 2 (some .int)) 1 := ⟨good_V tw_121 tw_122 tw_123 tw_15 tw_120, by decide +kernel⟩
theorem tw_125 : Cond.code yX0_numberOf cX0_numberOf 2 (some .int) ∈ TBL := tbl_3 (i := 26) (by decide +kernel) (by decide +kernel)
theorem tw_126 : Cond.methodLink RX1 130 yX0_numberOf ∈ TBL := tbl_3 (i := 23) (by decide +kernel) (by decide +kernel)
theorem tw_127 : Cond.instanceMethod yX0_numberOf ∈ TBL := tbl_3 (i := 24) (by decide +kernel) (by decide +kernel)
theorem tw_128 : Cond.selects RX0 yX0_numberOf yX0_numberOf ∈ TBL := tbl_3 (i := 25) (by decide +kernel) (by decide +kernel)
theorem vw_RX1_130 : VW RX1 130 RX0 yX0_numberOf (.code yX0_numberOf cX0_numberOf 2 (some .int)) 1 := ⟨good_V tw_126 tw_127 tw_128 tw_15 tw_125, by decide +kernel⟩
theorem tw_130 : Cond.code yX0_whatOf cX0_whatOf 2 (some .int) ∈ TBL := tbl_3 (i := 30) (by decide +kernel) (by decide +kernel)
theorem tw_131 : Cond.methodLink RX1 133 yX0_whatOf ∈ TBL := tbl_3 (i := 27) (by decide +kernel) (by decide +kernel)
theorem tw_132 : Cond.instanceMethod yX0_whatOf ∈ TBL := tbl_3 (i := 28) (by decide +kernel) (by decide +kernel)
theorem tw_133 : Cond.selects RX0 yX0_whatOf yX0_whatOf ∈ TBL := tbl_3 (i := 29) (by decide +kernel) (by decide +kernel)
theorem vw_RX1_133 : VW RX1 133 RX0 yX0_whatOf (.code yX0_whatOf cX0_whatOf 2 (some .int)) 1 := ⟨good_V tw_131 tw_132 tw_133 tw_15 tw_130, by decide +kernel⟩
theorem tw_135 : Cond.code yX0_weeksOf cX0_weeksOf 2 (some .int) ∈ TBL := tbl_3 (i := 34) (by decide +kernel) (by decide +kernel)
theorem tw_136 : Cond.methodLink RX1 136 yX0_weeksOf ∈ TBL := tbl_3 (i := 31) (by decide +kernel) (by decide +kernel)
theorem tw_137 : Cond.instanceMethod yX0_weeksOf ∈ TBL := tbl_3 (i := 32) (by decide +kernel) (by decide +kernel)
theorem tw_138 : Cond.selects RX0 yX0_weeksOf yX0_weeksOf ∈ TBL := tbl_3 (i := 33) (by decide +kernel) (by decide +kernel)
theorem vw_RX1_136 : VW RX1 136 RX0 yX0_weeksOf (.code yX0_weeksOf cX0_weeksOf 2 (some .int)) 1 := ⟨good_V tw_136 tw_137 tw_138 tw_15 tw_135, by decide +kernel⟩
theorem tw_140 : Cond.code yX1_ruinsHolder cX1_ruinsHolder 2 (some .boolean) ∈ TBL := tbl_3 (i := 215) (by decide +kernel) (by decide +kernel)
theorem tw_141 : Cond.methodLink RX1 89 yX1_ruinsHolder ∈ TBL := tbl_3 (i := 212) (by decide +kernel) (by decide +kernel)
theorem tw_142 : Cond.instanceMethod yX1_ruinsHolder ∈ TBL := tbl_3 (i := 214) (by decide +kernel) (by decide +kernel)
theorem tw_143 : Cond.selects RX1 yX1_ruinsHolder yX1_ruinsHolder ∈ TBL := tbl_sel (i := 17) (by decide +kernel) (by decide +kernel)
theorem vw_RX1_89 : VW RX1 89 RX1 yX1_ruinsHolder (.code yX1_ruinsHolder cX1_ruinsHolder 2 (some .boolean)) 1 := ⟨good_V tw_141 tw_142 tw_143 tw_53 tw_140, by decide +kernel⟩
theorem tw_145 : Cond.code yX1_canRedeem cX1_canRedeem 2 (some .boolean) ∈ TBL := tbl_2 (i := 187) (by decide +kernel) (by decide +kernel)
theorem tw_146 : Cond.methodLink RX1 103 yX1_canRedeem ∈ TBL := tbl_4 (i := 10) (by decide +kernel) (by decide +kernel)
theorem tw_147 : Cond.instanceMethod yX1_canRedeem ∈ TBL := tbl_2 (i := 185) (by decide +kernel) (by decide +kernel)
theorem tw_148 : Cond.selects RX1 yX1_canRedeem yX1_canRedeem ∈ TBL := tbl_2 (i := 186) (by decide +kernel) (by decide +kernel)
theorem vw_RX1_103 : VW RX1 103 RX1 yX1_canRedeem (.code yX1_canRedeem cX1_canRedeem 2 (some .boolean)) 1 := ⟨good_V tw_146 tw_147 tw_148 tw_53 tw_145, by decide +kernel⟩
theorem tw_150 : Cond.code yX1_canPawn cX1_canPawn 4 (some .boolean) ∈ TBL := tbl_2 (i := 212) (by decide +kernel) (by decide +kernel)
theorem tw_151 : Cond.methodLink RX1 113 yX1_canPawn ∈ TBL := tbl_4 (i := 13) (by decide +kernel) (by decide +kernel)
theorem tw_152 : Cond.instanceMethod yX1_canPawn ∈ TBL := tbl_2 (i := 210) (by decide +kernel) (by decide +kernel)
theorem tw_153 : Cond.selects RX1 yX1_canPawn yX1_canPawn ∈ TBL := tbl_2 (i := 211) (by decide +kernel) (by decide +kernel)
theorem vw_RX1_113 : VW RX1 113 RX1 yX1_canPawn (.code yX1_canPawn cX1_canPawn 4 (some .boolean)) 3 := ⟨good_V tw_151 tw_152 tw_153 tw_53 tw_150, by decide +kernel⟩
theorem tw_155 : Cond.code yX1_doGive cX1_doGive 3 none ∈ TBL := tbl_3 (i := 6) (by decide +kernel) (by decide +kernel)
theorem tw_156 : Cond.methodLink RX1 120 yX1_doGive ∈ TBL := tbl_4 (i := 15) (by decide +kernel) (by decide +kernel)
theorem tw_157 : Cond.instanceMethod yX1_doGive ∈ TBL := tbl_3 (i := 4) (by decide +kernel) (by decide +kernel)
theorem tw_158 : Cond.selects RX1 yX1_doGive yX1_doGive ∈ TBL := tbl_3 (i := 5) (by decide +kernel) (by decide +kernel)
theorem vw_RX1_120 : VW RX1 120 RX1 yX1_doGive (.code yX1_doGive cX1_doGive 3 none) 2 := ⟨good_V tw_156 tw_157 tw_158 tw_53 tw_155, by decide +kernel⟩
theorem tw_160 : Cond.code yX1_doPawn cX1_doPawn 4 none ∈ TBL := tbl_2 (i := 216) (by decide +kernel) (by decide +kernel)
theorem tw_161 : Cond.methodLink RX1 117 yX1_doPawn ∈ TBL := tbl_4 (i := 14) (by decide +kernel) (by decide +kernel)
theorem tw_162 : Cond.instanceMethod yX1_doPawn ∈ TBL := tbl_2 (i := 214) (by decide +kernel) (by decide +kernel)
theorem tw_163 : Cond.selects RX1 yX1_doPawn yX1_doPawn ∈ TBL := tbl_2 (i := 215) (by decide +kernel) (by decide +kernel)
theorem vw_RX1_117 : VW RX1 117 RX1 yX1_doPawn (.code yX1_doPawn cX1_doPawn 4 none) 3 := ⟨good_V tw_161 tw_162 tw_163 tw_53 tw_160, by decide +kernel⟩
theorem tw_165 : Cond.code yX1_doWeek cX1_doWeek 1 none ∈ TBL := tbl_2 (i := 230) (by decide +kernel) (by decide +kernel)
theorem tw_166 : Cond.methodLink RX1 110 yX1_doWeek ∈ TBL := tbl_4 (i := 12) (by decide +kernel) (by decide +kernel)
theorem tw_167 : Cond.instanceMethod yX1_doWeek ∈ TBL := tbl_2 (i := 228) (by decide +kernel) (by decide +kernel)
theorem tw_168 : Cond.selects RX1 yX1_doWeek yX1_doWeek ∈ TBL := tbl_2 (i := 229) (by decide +kernel) (by decide +kernel)
theorem vw_RX1_110 : VW RX1 110 RX1 yX1_doWeek (.code yX1_doWeek cX1_doWeek 1 none) 0 := ⟨good_V tw_166 tw_167 tw_168 tw_53 tw_165, by decide +kernel⟩
theorem tw_170 : Cond.code yX1_doRedeem cX1_doRedeem 4 (some .int) ∈ TBL := tbl_2 (i := 195) (by decide +kernel) (by decide +kernel)
theorem tw_171 : Cond.methodLink RX1 106 yX1_doRedeem ∈ TBL := tbl_4 (i := 11) (by decide +kernel) (by decide +kernel)
theorem tw_172 : Cond.instanceMethod yX1_doRedeem ∈ TBL := tbl_2 (i := 193) (by decide +kernel) (by decide +kernel)
theorem tw_173 : Cond.selects RX1 yX1_doRedeem yX1_doRedeem ∈ TBL := tbl_2 (i := 194) (by decide +kernel) (by decide +kernel)
theorem vw_RX1_106 : VW RX1 106 RX1 yX1_doRedeem (.code yX1_doRedeem cX1_doRedeem 4 (some .int)) 1 := ⟨good_V tw_171 tw_172 tw_173 tw_53 tw_170, by decide +kernel⟩
theorem tw_175 : Cond.fieldLink RX3 12 "PawnLane$Reader" "draft" "LPawnLane$Lane;" ∈ TBL := tbl_1 (i := 105) (by decide +kernel) (by decide +kernel)
theorem tw_176 : Cond.fieldLink RX3 49 "PawnLane$Lane" "shops" "I" ∈ TBL := tbl_1 (i := 69) (by decide +kernel) (by decide +kernel)
theorem tw_177 : Cond.fieldLink RX3 18 "PawnLane$Reader" "awaited" "I" ∈ TBL := tbl_1 (i := 107) (by decide +kernel) (by decide +kernel)
theorem tw_178 : Cond.fieldLink RX3 72 "PawnLane$Lane" "stock" "[I" ∈ TBL := tbl_1 (i := 78) (by decide +kernel) (by decide +kernel)
theorem tw_179 : Cond.fieldLink RX3 68 "PawnLane$Lane" "cash" "[I" ∈ TBL := tbl_1 (i := 75) (by decide +kernel) (by decide +kernel)
theorem tw_180 : Cond.fieldLink RX3 26 "PawnLane$Reader" "pawned" "I" ∈ TBL := tbl_1 (i := 109) (by decide +kernel) (by decide +kernel)
theorem tw_181 : Cond.code yX1_isShop cX1_isShop 2 (some .boolean) ∈ TBL := tbl_2 (i := 81) (by decide +kernel) (by decide +kernel)
theorem tw_182 : Cond.methodLink RX3 75 yX1_isShop ∈ TBL := tbl_2 (i := 78) (by decide +kernel) (by decide +kernel)
theorem tw_183 : Cond.instanceMethod yX1_isShop ∈ TBL := tbl_2 (i := 79) (by decide +kernel) (by decide +kernel)
theorem tw_184 : Cond.selects RX1 yX1_isShop yX1_isShop ∈ TBL := tbl_2 (i := 80) (by decide +kernel) (by decide +kernel)
theorem vw_RX3_75 : VW RX3 75 RX1 yX1_isShop (.code yX1_isShop cX1_isShop 2 (some .boolean)) 1 := ⟨good_V tw_182 tw_183 tw_184 tw_53 tw_181, by decide +kernel⟩
theorem tw_186 : Cond.methodLink RX3 78 yX1_isPawned ∈ TBL := tbl_2 (i := 82) (by decide +kernel) (by decide +kernel)
theorem vw_RX3_78 : VW RX3 78 RX1 yX1_isPawned (.code yX1_isPawned cX1_isPawned 2 (some .boolean)) 1 := ⟨good_V tw_186 tw_57 tw_58 tw_53 tw_55, by decide +kernel⟩
theorem tw_188 : Cond.fieldLink RX3 29 "PawnLane$Reader" "holder" "I" ∈ TBL := tbl_1 (i := 110) (by decide +kernel) (by decide +kernel)
theorem tw_189 : Cond.methodLink RX3 81 yX1_setTicket ∈ TBL := tbl_2 (i := 86) (by decide +kernel) (by decide +kernel)
theorem vw_RX3_81 : VW RX3 81 RX1 yX1_setTicket (.code yX1_setTicket cX1_setTicket 5 none) 4 := ⟨good_V tw_189 tw_51 tw_52 tw_53 tw_49, by decide +kernel⟩
theorem tw_191 : Cond.code yX3_kindOf cX3_kindOf 1 (some .int) ∈ TBL := tbl_2 (i := 57) (by decide +kernel) (by decide +kernel)
theorem tw_192 : Cond.initialized RX3 ∈ TBL := tbl_1 (i := 4) (by decide +kernel) (by decide +kernel)
theorem tw_193 : Cond.methodLink RX3 61 yX3_kindOf ∈ TBL := tbl_2 (i := 55) (by decide +kernel) (by decide +kernel)
theorem tw_194 : Cond.static yX3_kindOf ∈ TBL := tbl_2 (i := 56) (by decide +kernel) (by decide +kernel)
theorem sw_RX3_61 : SW RX3 61 yX3_kindOf (.code yX3_kindOf cX3_kindOf 1 (some .int)) 1 := ⟨good_C tw_191, tw_192, tw_193, tw_194, by decide +kernel⟩
theorem tw_196 : Cond.fieldLink RX3 22 "PawnLane$Reader" "ticketsBegan" "Z" ∈ TBL := tbl_1 (i := 108) (by decide +kernel) (by decide +kernel)
theorem tw_197 : Cond.code yX1_addShop cX1_addShop 2 none ∈ TBL := tbl_2 (i := 61) (by decide +kernel) (by decide +kernel)
theorem tw_198 : Cond.methodLink RX3 64 yX1_addShop ∈ TBL := tbl_2 (i := 58) (by decide +kernel) (by decide +kernel)
theorem tw_199 : Cond.instanceMethod yX1_addShop ∈ TBL := tbl_2 (i := 59) (by decide +kernel) (by decide +kernel)
theorem tw_200 : Cond.selects RX1 yX1_addShop yX1_addShop ∈ TBL := tbl_2 (i := 60) (by decide +kernel) (by decide +kernel)
theorem vw_RX3_64 : VW RX3 64 RX1 yX1_addShop (.code yX1_addShop cX1_addShop 2 none) 1 := ⟨good_V tw_198 tw_199 tw_200 tw_53 tw_197, by decide +kernel⟩
theorem tw_202 : Cond.code yX3_takesOfTicket cX3_takesOfTicket 2 (some .boolean) ∈ TBL := tbl_2 (i := 77) (by decide +kernel) (by decide +kernel)
theorem tw_203 : Cond.methodLink RX3 58 yX3_takesOfTicket ∈ TBL := tbl_2 (i := 74) (by decide +kernel) (by decide +kernel)
theorem tw_204 : Cond.instanceMethod yX3_takesOfTicket ∈ TBL := tbl_2 (i := 76) (by decide +kernel) (by decide +kernel)
theorem tw_205 : Cond.selects RX3 yX3_takesOfTicket yX3_takesOfTicket ∈ TBL := tbl_sel (i := 6) (by decide +kernel) (by decide +kernel)
theorem vw_RX3_58 : VW RX3 58 RX3 yX3_takesOfTicket (.code yX3_takesOfTicket cX3_takesOfTicket 2 (some .boolean)) 1 := ⟨good_V tw_203 tw_204 tw_205 tw_192 tw_202, by decide +kernel⟩
theorem tw_207 : Cond.code yX3_takesOfShop cX3_takesOfShop 3 (some .boolean) ∈ TBL := tbl_2 (i := 73) (by decide +kernel) (by decide +kernel)
theorem tw_208 : Cond.methodLink RX3 55 yX3_takesOfShop ∈ TBL := tbl_2 (i := 70) (by decide +kernel) (by decide +kernel)
theorem tw_209 : Cond.instanceMethod yX3_takesOfShop ∈ TBL := tbl_2 (i := 72) (by decide +kernel) (by decide +kernel)
theorem tw_210 : Cond.selects RX3 yX3_takesOfShop yX3_takesOfShop ∈ TBL := tbl_sel (i := 5) (by decide +kernel) (by decide +kernel)
theorem vw_RX3_55 : VW RX3 55 RX3 yX3_takesOfShop (.code yX3_takesOfShop cX3_takesOfShop 3 (some .boolean)) 1 := ⟨good_V tw_208 tw_209 tw_210 tw_192 tw_207, by decide +kernel⟩
theorem tw_212 : Cond.code yX3_beginsItem cX3_beginsItem 3 (some .boolean) ∈ TBL := tbl_2 (i := 54) (by decide +kernel) (by decide +kernel)
theorem tw_213 : Cond.methodLink RX3 52 yX3_beginsItem ∈ TBL := tbl_2 (i := 51) (by decide +kernel) (by decide +kernel)
theorem tw_214 : Cond.instanceMethod yX3_beginsItem ∈ TBL := tbl_2 (i := 53) (by decide +kernel) (by decide +kernel)
theorem tw_215 : Cond.selects RX3 yX3_beginsItem yX3_beginsItem ∈ TBL := tbl_sel (i := 4) (by decide +kernel) (by decide +kernel)
theorem vw_RX3_52 : VW RX3 52 RX3 yX3_beginsItem (.code yX3_beginsItem cX3_beginsItem 3 (some .boolean)) 1 := ⟨good_V tw_213 tw_214 tw_215 tw_192 tw_212, by decide +kernel⟩
theorem tw_217 : Cond.methodLink RX3 41 yX4_valueAt ∈ TBL := tbl_2 (i := 46) (by decide +kernel) (by decide +kernel)
theorem vw_RX3_41 : VW RX3 41 RX4 yX4_valueAt (.code yX4_valueAt cX4_valueAt 3 (some .int)) 2 := ⟨good_V tw_217 tw_33 tw_34 tw_28 tw_31, by decide +kernel⟩
theorem tw_219 : Cond.code yX3_takes cX3_takes 3 (some .boolean) ∈ TBL := tbl_2 (i := 50) (by decide +kernel) (by decide +kernel)
theorem tw_220 : Cond.methodLink RX3 45 yX3_takes ∈ TBL := tbl_2 (i := 47) (by decide +kernel) (by decide +kernel)
theorem tw_221 : Cond.instanceMethod yX3_takes ∈ TBL := tbl_2 (i := 49) (by decide +kernel) (by decide +kernel)
theorem tw_222 : Cond.selects RX3 yX3_takes yX3_takes ∈ TBL := tbl_sel (i := 3) (by decide +kernel) (by decide +kernel)
theorem vw_RX3_45 : VW RX3 45 RX3 yX3_takes (.code yX3_takes cX3_takes 3 (some .boolean)) 1 := ⟨good_V tw_220 tw_221 tw_222 tw_192 tw_219, by decide +kernel⟩
theorem tw_224 : Cond.code yX1_clear cX1_clear 1 none ∈ TBL := tbl_2 (i := 44) (by decide +kernel) (by decide +kernel)
theorem tw_225 : Cond.methodLink RX3 32 yX1_clear ∈ TBL := tbl_2 (i := 41) (by decide +kernel) (by decide +kernel)
theorem tw_226 : Cond.instanceMethod yX1_clear ∈ TBL := tbl_2 (i := 42) (by decide +kernel) (by decide +kernel)
theorem tw_227 : Cond.selects RX1 yX1_clear yX1_clear ∈ TBL := tbl_2 (i := 43) (by decide +kernel) (by decide +kernel)
theorem vw_RX3_32 : VW RX3 32 RX1 yX1_clear (.code yX1_clear cX1_clear 1 none) 0 := ⟨good_V tw_225 tw_226 tw_227 tw_53 tw_224, by decide +kernel⟩
theorem tw_229 : Cond.code yX4_sizeOf cX4_sizeOf 2 (some .int) ∈ TBL := tbl_2 (i := 19) (by decide +kernel) (by decide +kernel)
theorem tw_230 : Cond.methodLink RX3 35 yX4_sizeOf ∈ TBL := tbl_2 (i := 45) (by decide +kernel) (by decide +kernel)
theorem tw_231 : Cond.instanceMethod yX4_sizeOf ∈ TBL := tbl_2 (i := 17) (by decide +kernel) (by decide +kernel)
theorem tw_232 : Cond.selects RX4 yX4_sizeOf yX4_sizeOf ∈ TBL := tbl_2 (i := 18) (by decide +kernel) (by decide +kernel)
theorem vw_RX3_35 : VW RX3 35 RX4 yX4_sizeOf (.code yX4_sizeOf cX4_sizeOf 2 (some .int)) 1 := ⟨good_V tw_230 tw_231 tw_232 tw_28 tw_229, by decide +kernel⟩
theorem tw_234 : Cond.fieldLink RX2 28 "PawnLane$Orders" "bySet" "[I" ∈ TBL := tbl_1 (i := 136) (by decide +kernel) (by decide +kernel)
theorem tw_235 : Cond.constant RX2 78 1000000 ∈ TBL := tbl_3 (i := 121) (by decide +kernel) (by decide +kernel)
theorem tw_236 : Cond.fieldLink RX2 9 "PawnLane$Orders" "shops" "I" ∈ TBL := tbl_1 (i := 131) (by decide +kernel) (by decide +kernel)
theorem tw_237 : Cond.fieldLink RX2 22 "PawnLane$Orders" "holder" "[I" ∈ TBL := tbl_1 (i := 134) (by decide +kernel) (by decide +kernel)
theorem nn_RX2_44 : NN RX2 44 yX5_isIn (.code yX5_isIn cX5_isIn 2 (some .boolean)) 2 := ⟨good_C tw_60, tw_61, by decide +kernel, tw_62, by decide +kernel⟩
theorem tw_239 : Cond.fieldLink RX2 25 "PawnLane$Orders" "due" "[I" ∈ TBL := tbl_1 (i := 135) (by decide +kernel) (by decide +kernel)
theorem tw_240 : Cond.fieldLink RX2 18 "PawnLane$Orders" "cash" "[I" ∈ TBL := tbl_1 (i := 133) (by decide +kernel) (by decide +kernel)
theorem tw_241 : Cond.fieldLink RX2 15 "PawnLane$Orders" "pawned" "I" ∈ TBL := tbl_1 (i := 132) (by decide +kernel) (by decide +kernel)
theorem tw_242 : Cond.code yJ6_bitCount_0f7a4 cJ6_bitCount_0f7a4 1 (some .int) ∈ TBL := tbl_2 (i := 144) (by decide +kernel) (by decide +kernel)
theorem tw_243 : Cond.initialized RJ6 ∈ TBL := tbl_1 (i := 11) (by decide +kernel) (by decide +kernel)
theorem tw_244 : Cond.methodLink RX2 57 yJ6_bitCount_0f7a4 ∈ TBL := tbl_3 (i := 164) (by decide +kernel) (by decide +kernel)
theorem tw_245 : Cond.static yJ6_bitCount_0f7a4 ∈ TBL := tbl_2 (i := 143) (by decide +kernel) (by decide +kernel)
theorem sw_RX2_57 : SW RX2 57 yJ6_bitCount_0f7a4 (.code yJ6_bitCount_0f7a4 cJ6_bitCount_0f7a4 1 (some .int)) 1 := ⟨good_C tw_242, tw_243, tw_244, tw_245, by decide +kernel⟩
theorem tw_247 : Cond.code yJ9_min_7cf53 cJ9_min_7cf53 2 (some .int) ∈ TBL := tbl_3 (i := 124) (by decide +kernel) (by decide +kernel)
theorem tw_248 : Cond.methodLink RX2 79 yJ9_min_7cf53 ∈ TBL := tbl_3 (i := 122) (by decide +kernel) (by decide +kernel)
theorem tw_249 : Cond.static yJ9_min_7cf53 ∈ TBL := tbl_3 (i := 123) (by decide +kernel) (by decide +kernel)
theorem sw_RX2_79 : SW RX2 79 yJ9_min_7cf53 (.code yJ9_min_7cf53 cJ9_min_7cf53 2 (some .int)) 2 := ⟨good_C tw_247, tw_5, tw_248, tw_249, by decide +kernel⟩
theorem tw_251 : Cond.code yX2_isLeft cX2_isLeft 3 (some .boolean) ∈ TBL := tbl_2 (i := 168) (by decide +kernel) (by decide +kernel)
theorem tw_252 : Cond.methodLink RX2 48 yX2_isLeft ∈ TBL := tbl_2 (i := 165) (by decide +kernel) (by decide +kernel)
theorem tw_253 : Cond.instanceMethod yX2_isLeft ∈ TBL := tbl_2 (i := 167) (by decide +kernel) (by decide +kernel)
theorem tw_254 : Cond.selects RX2 yX2_isLeft yX2_isLeft ∈ TBL := tbl_sel (i := 8) (by decide +kernel) (by decide +kernel)
theorem tw_255 : Cond.initialized RX2 ∈ TBL := tbl_1 (i := 7) (by decide +kernel) (by decide +kernel)
theorem vw_RX2_48 : VW RX2 48 RX2 yX2_isLeft (.code yX2_isLeft cX2_isLeft 3 (some .boolean)) 2 := ⟨good_V tw_252 tw_253 tw_254 tw_255 tw_251, by decide +kernel⟩
theorem tw_257 : Cond.code yX2_cashAfter cX2_cashAfter 5 (some .int) ∈ TBL := tbl_2 (i := 175) (by decide +kernel) (by decide +kernel)
theorem tw_258 : Cond.methodLink RX2 51 yX2_cashAfter ∈ TBL := tbl_2 (i := 172) (by decide +kernel) (by decide +kernel)
theorem tw_259 : Cond.instanceMethod yX2_cashAfter ∈ TBL := tbl_2 (i := 173) (by decide +kernel) (by decide +kernel)
theorem tw_260 : Cond.selects RX2 yX2_cashAfter yX2_cashAfter ∈ TBL := tbl_2 (i := 174) (by decide +kernel) (by decide +kernel)
theorem vw_RX2_51 : VW RX2 51 RX2 yX2_cashAfter (.code yX2_cashAfter cX2_cashAfter 5 (some .int)) 2 := ⟨good_V tw_258 tw_259 tw_260 tw_255 tw_257, by decide +kernel⟩
theorem tw_262 : Cond.methodLink RX2 88 yJ9_max_7cf53 ∈ TBL := tbl_3 (i := 177) (by decide +kernel) (by decide +kernel)
theorem sw_RX2_88 : SW RX2 88 yJ9_max_7cf53 (.code yJ9_max_7cf53 cJ9_max_7cf53 2 (some .int)) 2 := ⟨good_C tw_4, tw_5, tw_262, tw_7, by decide +kernel⟩
theorem tw_264 : Cond.fieldLink RX2 38 "PawnLane$Lane" "cash" "[I" ∈ TBL := tbl_1 (i := 74) (by decide +kernel) (by decide +kernel)
theorem tw_265 : Cond.fieldLink RX2 39 "PawnLane$Lane" "holder" "[I" ∈ TBL := tbl_1 (i := 81) (by decide +kernel) (by decide +kernel)
theorem tw_266 : Cond.methodLink RX2 40 yX1_dueOf ∈ TBL := tbl_2 (i := 156) (by decide +kernel) (by decide +kernel)
theorem vw_RX2_40 : VW RX2 40 RX1 yX1_dueOf (.code yX1_dueOf cX1_dueOf 3 (some .int)) 2 := ⟨good_V tw_266 tw_107 tw_108 tw_53 tw_105, by decide +kernel⟩
theorem tw_268 : Cond.fieldLink RX2 31 "PawnLane$Lane" "shops" "I" ∈ TBL := tbl_1 (i := 68) (by decide +kernel) (by decide +kernel)
theorem tw_269 : Cond.code yX1_pawnedSet cX1_pawnedSet 3 (some .int) ∈ TBL := tbl_2 (i := 155) (by decide +kernel) (by decide +kernel)
theorem tw_270 : Cond.methodLink RX2 34 yX1_pawnedSet ∈ TBL := tbl_2 (i := 152) (by decide +kernel) (by decide +kernel)
theorem tw_271 : Cond.instanceMethod yX1_pawnedSet ∈ TBL := tbl_2 (i := 153) (by decide +kernel) (by decide +kernel)
theorem tw_272 : Cond.selects RX1 yX1_pawnedSet yX1_pawnedSet ∈ TBL := tbl_2 (i := 154) (by decide +kernel) (by decide +kernel)
theorem vw_RX2_34 : VW RX2 34 RX1 yX1_pawnedSet (.code yX1_pawnedSet cX1_pawnedSet 3 (some .int)) 0 := ⟨good_V tw_270 tw_271 tw_272 tw_53 tw_269, by decide +kernel⟩
theorem tw_274 : Cond.code yX2_goesOn cX2_goesOn 3 (some .boolean) ∈ TBL := tbl_2 (i := 164) (by decide +kernel) (by decide +kernel)
theorem tw_275 : Cond.methodLink RX2 54 yX2_goesOn ∈ TBL := tbl_2 (i := 161) (by decide +kernel) (by decide +kernel)
theorem tw_276 : Cond.instanceMethod yX2_goesOn ∈ TBL := tbl_2 (i := 162) (by decide +kernel) (by decide +kernel)
theorem tw_277 : Cond.selects RX2 yX2_goesOn yX2_goesOn ∈ TBL := tbl_2 (i := 163) (by decide +kernel) (by decide +kernel)
theorem vw_RX2_54 : VW RX2 54 RX2 yX2_goesOn (.code yX2_goesOn cX2_goesOn 3 (some .boolean)) 2 := ⟨good_V tw_275 tw_276 tw_277 tw_255 tw_274, by decide +kernel⟩
theorem tw_279 : Cond.code yJ6_numberOfTrailingZeros_0f7a4 cJ6_numberOfTrailingZeros_0f7a4 2 (some .int) ∈ TBL := tbl_3 (i := 75) (by decide +kernel) (by decide +kernel)
theorem tw_280 : Cond.methodLink RX2 63 yJ6_numberOfTrailingZeros_0f7a4 ∈ TBL := tbl_3 (i := 228) (by decide +kernel) (by decide +kernel)
theorem tw_281 : Cond.static yJ6_numberOfTrailingZeros_0f7a4 ∈ TBL := tbl_3 (i := 74) (by decide +kernel) (by decide +kernel)
theorem sw_RX2_63 : SW RX2 63 yJ6_numberOfTrailingZeros_0f7a4 (.code yJ6_numberOfTrailingZeros_0f7a4 cJ6_numberOfTrailingZeros_0f7a4 2 (some .int)) 1 := ⟨good_C tw_279, tw_243, tw_280, tw_281, by decide +kernel⟩
theorem tw_283 : Cond.code yX2_spreadNeed cX2_spreadNeed 6 none ∈ TBL := tbl_3 (i := 176) (by decide +kernel) (by decide +kernel)
theorem tw_284 : Cond.methodLink RX2 84 yX2_spreadNeed ∈ TBL := tbl_3 (i := 173) (by decide +kernel) (by decide +kernel)
theorem tw_285 : Cond.instanceMethod yX2_spreadNeed ∈ TBL := tbl_3 (i := 175) (by decide +kernel) (by decide +kernel)
theorem tw_286 : Cond.selects RX2 yX2_spreadNeed yX2_spreadNeed ∈ TBL := tbl_sel (i := 14) (by decide +kernel) (by decide +kernel)
theorem vw_RX2_84 : VW RX2 84 RX2 yX2_spreadNeed (.code yX2_spreadNeed cX2_spreadNeed 6 none) 2 := ⟨good_V tw_284 tw_285 tw_286 tw_255 tw_283, by decide +kernel⟩
theorem tw_288 : Cond.code yJ7_fill_53178 cJ7_fill_53178 4 none ∈ TBL := tbl_1 (i := 28) (by decide +kernel) (by decide +kernel)
theorem tw_289 : Cond.initialized RJ7 ∈ TBL := tbl_1 (i := 3) (by decide +kernel) (by decide +kernel)
theorem tw_290 : Cond.methodLink RX2 66 yJ7_fill_53178 ∈ TBL := tbl_3 (i := 141) (by decide +kernel) (by decide +kernel)
theorem tw_291 : Cond.static yJ7_fill_53178 ∈ TBL := tbl_1 (i := 27) (by decide +kernel) (by decide +kernel)
theorem sw_RX2_66 : SW RX2 66 yJ7_fill_53178 (.code yJ7_fill_53178 cJ7_fill_53178 4 none) 2 := ⟨good_C tw_288, tw_289, tw_290, tw_291, by decide +kernel⟩
theorem tw_293 : Cond.code yX2_nextAfter cX2_nextAfter 4 (some .int) ∈ TBL := tbl_2 (i := 160) (by decide +kernel) (by decide +kernel)
theorem tw_294 : Cond.methodLink RX2 72 yX2_nextAfter ∈ TBL := tbl_3 (i := 116) (by decide +kernel) (by decide +kernel)
theorem tw_295 : Cond.instanceMethod yX2_nextAfter ∈ TBL := tbl_2 (i := 158) (by decide +kernel) (by decide +kernel)
theorem tw_296 : Cond.selects RX2 yX2_nextAfter yX2_nextAfter ∈ TBL := tbl_2 (i := 159) (by decide +kernel) (by decide +kernel)
theorem vw_RX2_72 : VW RX2 72 RX2 yX2_nextAfter (.code yX2_nextAfter cX2_nextAfter 4 (some .int)) 1 := ⟨good_V tw_294 tw_295 tw_296 tw_255 tw_293, by decide +kernel⟩
theorem tw_298 : Cond.code yX2_stepsBy cX2_stepsBy 5 (some .int) ∈ TBL := tbl_3 (i := 120) (by decide +kernel) (by decide +kernel)
theorem tw_299 : Cond.methodLink RX2 75 yX2_stepsBy ∈ TBL := tbl_3 (i := 117) (by decide +kernel) (by decide +kernel)
theorem tw_300 : Cond.instanceMethod yX2_stepsBy ∈ TBL := tbl_3 (i := 119) (by decide +kernel) (by decide +kernel)
theorem tw_301 : Cond.selects RX2 yX2_stepsBy yX2_stepsBy ∈ TBL := tbl_sel (i := 12) (by decide +kernel) (by decide +kernel)
theorem vw_RX2_75 : VW RX2 75 RX2 yX2_stepsBy (.code yX2_stepsBy cX2_stepsBy 5 (some .int)) 2 := ⟨good_V tw_299 tw_300 tw_301 tw_255 tw_298, by decide +kernel⟩
theorem tw_303 : Cond.fieldLink RX5 54 "PawnLane" "answer" "I" ∈ TBL := tbl_1 (i := 158) (by decide +kernel) (by decide +kernel)
theorem tw_304 : Cond.fieldLink RX5 57 "PawnLane" "numerator" "J" ∈ TBL := tbl_1 (i := 159) (by decide +kernel) (by decide +kernel)
theorem tw_305 : Cond.fieldLink RX5 61 "PawnLane" "denominator" "J" ∈ TBL := tbl_1 (i := 160) (by decide +kernel) (by decide +kernel)
theorem tw_306 : Cond.fieldLink RX5 50 "PawnLane" "latestFinding" "I" ∈ TBL := tbl_1 (i := 157) (by decide +kernel) (by decide +kernel)
theorem tw_307 : Cond.fieldLink RX5 46 "PawnLane" "findingTimes" "[I" ∈ TBL := tbl_1 (i := 156) (by decide +kernel) (by decide +kernel)
theorem tw_308 : Cond.fieldLink RX5 35 "PawnLane" "kept" "[LPawnLane$Lane;" ∈ TBL := tbl_1 (i := 154) (by decide +kernel) (by decide +kernel)
theorem tw_309 : Cond.fieldLink RX5 126 "PawnLane$Lane" "shops" "I" ∈ TBL := tbl_1 (i := 70) (by decide +kernel) (by decide +kernel)
theorem tw_310 : Cond.fieldLink RX5 215 "PawnLane$Lane" "holder" "[I" ∈ TBL := tbl_1 (i := 82) (by decide +kernel) (by decide +kernel)
theorem tw_311 : Cond.code yX5_chalked cX5_chalked 5 (some .int) ∈ TBL := tbl_3 (i := 99) (by decide +kernel) (by decide +kernel)
theorem tw_312 : Cond.methodLink RX5 233 yX5_chalked ∈ TBL := tbl_3 (i := 97) (by decide +kernel) (by decide +kernel)
theorem tw_313 : Cond.static yX5_chalked ∈ TBL := tbl_3 (i := 98) (by decide +kernel) (by decide +kernel)
theorem sw_RX5_233 : SW RX5 233 yX5_chalked (.code yX5_chalked cX5_chalked 5 (some .int)) 3 := ⟨good_C tw_311, tw_61, tw_312, tw_313, by decide +kernel⟩
theorem tw_315 : Cond.fieldLink RX5 172 "PawnLane$Lane" "stock" "[I" ∈ TBL := tbl_1 (i := 79) (by decide +kernel) (by decide +kernel)
theorem tw_316 : Cond.fieldLink RX5 31 "PawnLane" "lane" "LPawnLane$Lane;" ∈ TBL := tbl_1 (i := 153) (by decide +kernel) (by decide +kernel)
theorem tw_317 : Cond.methodLink RX5 129 yX1_isShop ∈ TBL := tbl_2 (i := 106) (by decide +kernel) (by decide +kernel)
theorem vw_RX5_129 : VW RX5 129 RX1 yX1_isShop (.code yX1_isShop cX1_isShop 2 (some .boolean)) 1 := ⟨good_V tw_317 tw_183 tw_184 tw_53 tw_181, by decide +kernel⟩
theorem tw_319 : Cond.fieldLink RX5 163 "PawnLane$Lane" "deeds" "LPawnLane$Deeds;" ∈ TBL := tbl_1 (i := 87) (by decide +kernel) (by decide +kernel)
theorem tw_320 : Cond.fieldLink RX5 167 "PawnLane$Deeds" "size" "I" ∈ TBL := tbl_1 (i := 61) (by decide +kernel) (by decide +kernel)
theorem tw_321 : Cond.methodLink RX5 212 yX1_isPawned ∈ TBL := tbl_3 (i := 51) (by decide +kernel) (by decide +kernel)
theorem vw_RX5_212 : VW RX5 212 RX1 yX1_isPawned (.code yX1_isPawned cX1_isPawned 2 (some .boolean)) 1 := ⟨good_V tw_321 tw_57 tw_58 tw_53 tw_55, by decide +kernel⟩
theorem tw_323 : Cond.code yX4_isNumber cX4_isNumber 2 (some .boolean) ∈ TBL := tbl_1 (i := 191) (by decide +kernel) (by decide +kernel)
theorem tw_324 : Cond.methodLink RX5 64 yX4_isNumber ∈ TBL := tbl_1 (i := 188) (by decide +kernel) (by decide +kernel)
theorem tw_325 : Cond.instanceMethod yX4_isNumber ∈ TBL := tbl_1 (i := 189) (by decide +kernel) (by decide +kernel)
theorem tw_326 : Cond.selects RX4 yX4_isNumber yX4_isNumber ∈ TBL := tbl_1 (i := 190) (by decide +kernel) (by decide +kernel)
theorem vw_RX5_64 : VW RX5 64 RX4 yX4_isNumber (.code yX4_isNumber cX4_isNumber 2 (some .boolean)) 1 := ⟨good_V tw_324 tw_325 tw_326 tw_28 tw_323, by decide +kernel⟩
theorem tw_328 : Cond.methodLink RX5 95 yX4_isThere ∈ TBL := tbl_1 (i := 216) (by decide +kernel) (by decide +kernel)
theorem vw_RX5_95 : VW RX5 95 RX4 yX4_isThere (.code yX4_isThere cX4_isThere 2 (some .boolean)) 1 := ⟨good_V tw_328 tw_38 tw_39 tw_28 tw_36, by decide +kernel⟩
theorem tw_330 : Cond.code yX5_found cX5_found 2 (some .int) ∈ TBL := tbl_1 (i := 195) (by decide +kernel) (by decide +kernel)
theorem tw_331 : Cond.methodLink RX5 68 yX5_found ∈ TBL := tbl_1 (i := 192) (by decide +kernel) (by decide +kernel)
theorem tw_332 : Cond.instanceMethod yX5_found ∈ TBL := tbl_1 (i := 194) (by decide +kernel) (by decide +kernel)
theorem tw_333 : Cond.selects RX5 yX5_found yX5_found ∈ TBL := tbl_sel (i := 0) (by decide +kernel) (by decide +kernel)
theorem vw_RX5_68 : VW RX5 68 RX5 yX5_found (.code yX5_found cX5_found 2 (some .int)) 1 := ⟨good_V tw_331 tw_332 tw_333 tw_61 tw_330, by decide +kernel⟩
theorem tw_335 : Cond.code yX5_commonDivisor cX5_commonDivisor 11 (some .long) ∈ TBL := tbl_3 (i := 152) (by decide +kernel) (by decide +kernel)
theorem tw_336 : Cond.methodLink RX5 311 yX5_commonDivisor ∈ TBL := tbl_3 (i := 150) (by decide +kernel) (by decide +kernel)
theorem tw_337 : Cond.static yX5_commonDivisor ∈ TBL := tbl_3 (i := 151) (by decide +kernel) (by decide +kernel)
theorem sw_RX5_311 : SW RX5 311 yX5_commonDivisor (.code yX5_commonDivisor cX5_commonDivisor 11 (some .long)) 2 := ⟨good_C tw_335, tw_61, tw_336, tw_337, by decide +kernel⟩
theorem tw_339 : Cond.code yJ9_max_f86c9 cJ9_max_f86c9 4 (some .long) ∈ TBL := tbl_3 (i := 155) (by decide +kernel) (by decide +kernel)
theorem tw_340 : Cond.methodLink RX5 315 yJ9_max_f86c9 ∈ TBL := tbl_3 (i := 153) (by decide +kernel) (by decide +kernel)
theorem tw_341 : Cond.static yJ9_max_f86c9 ∈ TBL := tbl_3 (i := 154) (by decide +kernel) (by decide +kernel)
theorem sw_RX5_315 : SW RX5 315 yJ9_max_f86c9 (.code yJ9_max_f86c9 cJ9_max_f86c9 4 (some .long)) 2 := ⟨good_C tw_339, tw_5, tw_340, tw_341, by decide +kernel⟩
theorem tw_343 : Cond.fieldLink RX5 14 "PawnLane" "rows" "LPawnLane$Sheets;" ∈ TBL := tbl_1 (i := 150) (by decide +kernel) (by decide +kernel)
theorem tw_344 : Cond.code yX4_begin cX4_begin 5 none ∈ TBL := tbl_1 (i := 199) (by decide +kernel) (by decide +kernel)
theorem tw_345 : Cond.methodLink RX5 72 yX4_begin ∈ TBL := tbl_1 (i := 196) (by decide +kernel) (by decide +kernel)
theorem tw_346 : Cond.instanceMethod yX4_begin ∈ TBL := tbl_1 (i := 197) (by decide +kernel) (by decide +kernel)
theorem tw_347 : Cond.selects RX4 yX4_begin yX4_begin ∈ TBL := tbl_1 (i := 198) (by decide +kernel) (by decide +kernel)
theorem vw_RX5_72 : VW RX5 72 RX4 yX4_begin (.code yX4_begin cX4_begin 5 none) 3 := ⟨good_V tw_345 tw_346 tw_347 tw_28 tw_344, by decide +kernel⟩
theorem tw_349 : Cond.code yX5_refusalOfSheet cX5_refusalOfSheet 3 (some .int) ∈ TBL := tbl_1 (i := 215) (by decide +kernel) (by decide +kernel)
theorem tw_350 : Cond.methodLink RX5 87 yX5_refusalOfSheet ∈ TBL := tbl_1 (i := 212) (by decide +kernel) (by decide +kernel)
theorem tw_351 : Cond.instanceMethod yX5_refusalOfSheet ∈ TBL := tbl_1 (i := 214) (by decide +kernel) (by decide +kernel)
theorem tw_352 : Cond.selects RX5 yX5_refusalOfSheet yX5_refusalOfSheet ∈ TBL := tbl_sel (i := 2) (by decide +kernel) (by decide +kernel)
theorem vw_RX5_87 : VW RX5 87 RX5 yX5_refusalOfSheet (.code yX5_refusalOfSheet cX5_refusalOfSheet 3 (some .int)) 2 := ⟨good_V tw_350 tw_351 tw_352 tw_61 tw_349, by decide +kernel⟩
theorem tw_354 : Cond.code yX4_remove cX4_remove 2 none ∈ TBL := tbl_2 (i := 0) (by decide +kernel) (by decide +kernel)
theorem tw_355 : Cond.methodLink RX5 91 yX4_remove ∈ TBL := tbl_1 (i := 237) (by decide +kernel) (by decide +kernel)
theorem tw_356 : Cond.instanceMethod yX4_remove ∈ TBL := tbl_1 (i := 238) (by decide +kernel) (by decide +kernel)
theorem tw_357 : Cond.selects RX4 yX4_remove yX4_remove ∈ TBL := tbl_1 (i := 239) (by decide +kernel) (by decide +kernel)
theorem vw_RX5_91 : VW RX5 91 RX4 yX4_remove (.code yX4_remove cX4_remove 2 none) 1 := ⟨good_V tw_355 tw_356 tw_357 tw_28 tw_354, by decide +kernel⟩
theorem tw_359 : Cond.code yX4_hasPlaces cX4_hasPlaces 4 (some .boolean) ∈ TBL := tbl_1 (i := 223) (by decide +kernel) (by decide +kernel)
theorem tw_360 : Cond.methodLink RX5 98 yX4_hasPlaces ∈ TBL := tbl_1 (i := 220) (by decide +kernel) (by decide +kernel)
theorem tw_361 : Cond.instanceMethod yX4_hasPlaces ∈ TBL := tbl_1 (i := 221) (by decide +kernel) (by decide +kernel)
theorem tw_362 : Cond.selects RX4 yX4_hasPlaces yX4_hasPlaces ∈ TBL := tbl_1 (i := 222) (by decide +kernel) (by decide +kernel)
theorem vw_RX5_98 : VW RX5 98 RX4 yX4_hasPlaces (.code yX4_hasPlaces cX4_hasPlaces 4 (some .boolean)) 3 := ⟨good_V tw_360 tw_361 tw_362 tw_28 tw_359, by decide +kernel⟩
theorem tw_364 : Cond.code yX4_move cX4_move 6 none ∈ TBL := tbl_2 (i := 8) (by decide +kernel) (by decide +kernel)
theorem tw_365 : Cond.methodLink RX5 102 yX4_move ∈ TBL := tbl_2 (i := 5) (by decide +kernel) (by decide +kernel)
theorem tw_366 : Cond.instanceMethod yX4_move ∈ TBL := tbl_2 (i := 6) (by decide +kernel) (by decide +kernel)
theorem tw_367 : Cond.selects RX4 yX4_move yX4_move ∈ TBL := tbl_2 (i := 7) (by decide +kernel) (by decide +kernel)
theorem vw_RX5_102 : VW RX5 102 RX4 yX4_move (.code yX4_move cX4_move 6 none) 5 := ⟨good_V tw_365 tw_366 tw_367 tw_28 tw_364, by decide +kernel⟩
theorem tw_369 : Cond.methodLink RX5 106 yX4_sizeOf ∈ TBL := tbl_2 (i := 16) (by decide +kernel) (by decide +kernel)
theorem vw_RX5_106 : VW RX5 106 RX4 yX4_sizeOf (.code yX4_sizeOf cX4_sizeOf 2 (some .int)) 1 := ⟨good_V tw_369 tw_231 tw_232 tw_28 tw_229, by decide +kernel⟩
theorem tw_371 : Cond.code yX4_sumOf cX4_sumOf 5 (some .long) ∈ TBL := tbl_2 (i := 23) (by decide +kernel) (by decide +kernel)
theorem tw_372 : Cond.methodLink RX5 109 yX4_sumOf ∈ TBL := tbl_2 (i := 20) (by decide +kernel) (by decide +kernel)
theorem tw_373 : Cond.instanceMethod yX4_sumOf ∈ TBL := tbl_2 (i := 21) (by decide +kernel) (by decide +kernel)
theorem tw_374 : Cond.selects RX4 yX4_sumOf yX4_sumOf ∈ TBL := tbl_2 (i := 22) (by decide +kernel) (by decide +kernel)
theorem vw_RX5_109 : VW RX5 109 RX4 yX4_sumOf (.code yX4_sumOf cX4_sumOf 5 (some .long)) 1 := ⟨good_V tw_372 tw_373 tw_374 tw_28 tw_371, by decide +kernel⟩
theorem tw_376 : Cond.fieldLink RX5 18 "PawnLane" "texts" "LPawnLane$Sheets;" ∈ TBL := tbl_1 (i := 151) (by decide +kernel) (by decide +kernel)
theorem tw_377 : Cond.code yX1_ringOf cX1_ringOf 5 (some .int) ∈ TBL := tbl_3 (i := 72) (by decide +kernel) (by decide +kernel)
theorem tw_378 : Cond.methodLink RX5 221 yX1_ringOf ∈ TBL := tbl_3 (i := 69) (by decide +kernel) (by decide +kernel)
theorem tw_379 : Cond.instanceMethod yX1_ringOf ∈ TBL := tbl_3 (i := 70) (by decide +kernel) (by decide +kernel)
theorem tw_380 : Cond.selects RX1 yX1_ringOf yX1_ringOf ∈ TBL := tbl_3 (i := 71) (by decide +kernel) (by decide +kernel)
theorem vw_RX5_221 : VW RX5 221 RX1 yX1_ringOf (.code yX1_ringOf cX1_ringOf 5 (some .int)) 1 := ⟨good_V tw_378 tw_379 tw_380 tw_53 tw_377, by decide +kernel⟩
theorem tw_382 : Cond.methodLink RX5 224 yJ6_numberOfTrailingZeros_0f7a4 ∈ TBL := tbl_3 (i := 73) (by decide +kernel) (by decide +kernel)
theorem sw_RX5_224 : SW RX5 224 yJ6_numberOfTrailingZeros_0f7a4 (.code yJ6_numberOfTrailingZeros_0f7a4 cJ6_numberOfTrailingZeros_0f7a4 2 (some .int)) 1 := ⟨good_C tw_279, tw_243, tw_382, tw_281, by decide +kernel⟩
theorem tw_384 : Cond.code yX5_refusalOfPlace cX5_refusalOfPlace 5 (some .int) ∈ TBL := tbl_1 (i := 211) (by decide +kernel) (by decide +kernel)
theorem tw_385 : Cond.methodLink RX5 76 yX5_refusalOfPlace ∈ TBL := tbl_1 (i := 208) (by decide +kernel) (by decide +kernel)
theorem tw_386 : Cond.instanceMethod yX5_refusalOfPlace ∈ TBL := tbl_1 (i := 210) (by decide +kernel) (by decide +kernel)
theorem tw_387 : Cond.selects RX5 yX5_refusalOfPlace yX5_refusalOfPlace ∈ TBL := tbl_sel (i := 1) (by decide +kernel) (by decide +kernel)
theorem vw_RX5_76 : VW RX5 76 RX5 yX5_refusalOfPlace (.code yX5_refusalOfPlace cX5_refusalOfPlace 5 (some .int)) 3 := ⟨good_V tw_385 tw_386 tw_387 tw_61 tw_384, by decide +kernel⟩
theorem tw_389 : Cond.methodLink RX5 80 yX4_valueAt ∈ TBL := tbl_1 (i := 224) (by decide +kernel) (by decide +kernel)
theorem vw_RX5_80 : VW RX5 80 RX4 yX4_valueAt (.code yX4_valueAt cX4_valueAt 3 (some .int)) 2 := ⟨good_V tw_389 tw_33 tw_34 tw_28 tw_31, by decide +kernel⟩
theorem tw_391 : Cond.methodLink RX5 84 yX4_setValue ∈ TBL := tbl_1 (i := 228) (by decide +kernel) (by decide +kernel)
theorem vw_RX5_84 : VW RX5 84 RX4 yX4_setValue (.code yX4_setValue cX4_setValue 4 none) 3 := ⟨good_V tw_391 tw_26 tw_27 tw_28 tw_24, by decide +kernel⟩
theorem tw_393 : Cond.methodLink RX5 184 yX1_canPawn ∈ TBL := tbl_2 (i := 209) (by decide +kernel) (by decide +kernel)
theorem vw_RX5_184 : VW RX5 184 RX1 yX1_canPawn (.code yX1_canPawn cX1_canPawn 4 (some .boolean)) 3 := ⟨good_V tw_393 tw_152 tw_153 tw_53 tw_150, by decide +kernel⟩
theorem tw_395 : Cond.methodLink RX5 178 yX0_hasRoom ∈ TBL := tbl_2 (i := 188) (by decide +kernel) (by decide +kernel)
theorem vw_RX5_178 : VW RX5 178 RX0 yX0_hasRoom (.code yX0_hasRoom cX0_hasRoom 2 (some .boolean)) 1 := ⟨good_V tw_395 tw_13 tw_14 tw_15 tw_11, by decide +kernel⟩
theorem tw_397 : Cond.methodLink RX5 187 yX1_doPawn ∈ TBL := tbl_2 (i := 213) (by decide +kernel) (by decide +kernel)
theorem vw_RX5_187 : VW RX5 187 RX1 yX1_doPawn (.code yX1_doPawn cX1_doPawn 4 none) 3 := ⟨good_V tw_397 tw_162 tw_163 tw_53 tw_160, by decide +kernel⟩
theorem tw_399 : Cond.methodLink RX5 190 yX1_pawnedSet ∈ TBL := tbl_2 (i := 217) (by decide +kernel) (by decide +kernel)
theorem vw_RX5_190 : VW RX5 190 RX1 yX1_pawnedSet (.code yX1_pawnedSet cX1_pawnedSet 3 (some .int)) 0 := ⟨good_V tw_399 tw_271 tw_272 tw_53 tw_269, by decide +kernel⟩
theorem tw_401 : Cond.methodLink RX5 151 yJ6_bitCount_0f7a4 ∈ TBL := tbl_2 (i := 142) (by decide +kernel) (by decide +kernel)
theorem sw_RX5_151 : SW RX5 151 yJ6_bitCount_0f7a4 (.code yJ6_bitCount_0f7a4 cJ6_bitCount_0f7a4 1 (some .int)) 1 := ⟨good_C tw_242, tw_243, tw_401, tw_245, by decide +kernel⟩
theorem tw_403 : Cond.fieldLink RX5 203 "PawnLane$Lane" "cash" "[I" ∈ TBL := tbl_1 (i := 76) (by decide +kernel) (by decide +kernel)
theorem tw_404 : Cond.methodLink RX5 206 yX1_doGive ∈ TBL := tbl_3 (i := 3) (by decide +kernel) (by decide +kernel)
theorem vw_RX5_206 : VW RX5 206 RX1 yX1_doGive (.code yX1_doGive cX1_doGive 3 none) 2 := ⟨good_V tw_404 tw_157 tw_158 tw_53 tw_155, by decide +kernel⟩
theorem tw_406 : Cond.code yX1_becomeLike cX1_becomeLike 2 none ∈ TBL := tbl_2 (i := 94) (by decide +kernel) (by decide +kernel)
theorem tw_407 : Cond.methodLink RX5 119 yX1_becomeLike ∈ TBL := tbl_2 (i := 91) (by decide +kernel) (by decide +kernel)
theorem tw_408 : Cond.instanceMethod yX1_becomeLike ∈ TBL := tbl_2 (i := 92) (by decide +kernel) (by decide +kernel)
theorem tw_409 : Cond.selects RX1 yX1_becomeLike yX1_becomeLike ∈ TBL := tbl_2 (i := 93) (by decide +kernel) (by decide +kernel)
theorem vw_RX5_119 : VW RX5 119 RX1 yX1_becomeLike (.code yX1_becomeLike cX1_becomeLike 2 none) 1 := ⟨good_V tw_407 tw_408 tw_409 tw_53 tw_406, by decide +kernel⟩
theorem tw_411 : Cond.code yX1_insideOf cX1_insideOf 5 (some .int) ∈ TBL := tbl_3 (i := 59) (by decide +kernel) (by decide +kernel)
theorem tw_412 : Cond.methodLink RX5 218 yX1_insideOf ∈ TBL := tbl_3 (i := 56) (by decide +kernel) (by decide +kernel)
theorem tw_413 : Cond.instanceMethod yX1_insideOf ∈ TBL := tbl_3 (i := 57) (by decide +kernel) (by decide +kernel)
theorem tw_414 : Cond.selects RX1 yX1_insideOf yX1_insideOf ∈ TBL := tbl_3 (i := 58) (by decide +kernel) (by decide +kernel)
theorem vw_RX5_218 : VW RX5 218 RX1 yX1_insideOf (.code yX1_insideOf cX1_insideOf 5 (some .int)) 1 := ⟨good_V tw_412 tw_413 tw_414 tw_53 tw_411, by decide +kernel⟩
theorem tw_416 : Cond.code yX1_stockOf cX1_stockOf 4 (some .int) ∈ TBL := tbl_3 (i := 84) (by decide +kernel) (by decide +kernel)
theorem tw_417 : Cond.methodLink RX5 227 yX1_stockOf ∈ TBL := tbl_3 (i := 81) (by decide +kernel) (by decide +kernel)
theorem tw_418 : Cond.instanceMethod yX1_stockOf ∈ TBL := tbl_3 (i := 82) (by decide +kernel) (by decide +kernel)
theorem tw_419 : Cond.selects RX1 yX1_stockOf yX1_stockOf ∈ TBL := tbl_3 (i := 83) (by decide +kernel) (by decide +kernel)
theorem vw_RX5_227 : VW RX5 227 RX1 yX1_stockOf (.code yX1_stockOf cX1_stockOf 4 (some .int)) 1 := ⟨good_V tw_417 tw_418 tw_419 tw_53 tw_416, by decide +kernel⟩
theorem tw_421 : Cond.code yX5_refusalOfAside cX5_refusalOfAside 2 (some .int) ∈ TBL := tbl_3 (i := 197) (by decide +kernel) (by decide +kernel)
theorem tw_422 : Cond.methodLink RX5 296 yX5_refusalOfAside ∈ TBL := tbl_3 (i := 194) (by decide +kernel) (by decide +kernel)
theorem tw_423 : Cond.instanceMethod yX5_refusalOfAside ∈ TBL := tbl_3 (i := 196) (by decide +kernel) (by decide +kernel)
theorem tw_424 : Cond.selects RX5 yX5_refusalOfAside yX5_refusalOfAside ∈ TBL := tbl_sel (i := 16) (by decide +kernel) (by decide +kernel)
theorem vw_RX5_296 : VW RX5 296 RX5 yX5_refusalOfAside (.code yX5_refusalOfAside cX5_refusalOfAside 2 (some .int)) 1 := ⟨good_V tw_422 tw_423 tw_424 tw_61 tw_421, by decide +kernel⟩
theorem tw_426 : Cond.code yX4_allBelow cX4_allBelow 5 (some .boolean) ∈ TBL := tbl_3 (i := 201) (by decide +kernel) (by decide +kernel)
theorem tw_427 : Cond.methodLink RX5 299 yX4_allBelow ∈ TBL := tbl_3 (i := 198) (by decide +kernel) (by decide +kernel)
theorem tw_428 : Cond.instanceMethod yX4_allBelow ∈ TBL := tbl_3 (i := 199) (by decide +kernel) (by decide +kernel)
theorem tw_429 : Cond.selects RX4 yX4_allBelow yX4_allBelow ∈ TBL := tbl_3 (i := 200) (by decide +kernel) (by decide +kernel)
theorem vw_RX5_299 : VW RX5 299 RX4 yX4_allBelow (.code yX4_allBelow cX4_allBelow 5 (some .boolean)) 2 := ⟨good_V tw_427 tw_428 tw_429 tw_28 tw_426, by decide +kernel⟩
theorem tw_431 : Cond.fieldLink RX5 135 "PawnLane$Lane" "kind" "[I" ∈ TBL := tbl_1 (i := 72) (by decide +kernel) (by decide +kernel)
theorem tw_432 : Cond.methodLink RX5 230 yX1_dueOf ∈ TBL := tbl_2 (i := 111) (by decide +kernel) (by decide +kernel)
theorem vw_RX5_230 : VW RX5 230 RX1 yX1_dueOf (.code yX1_dueOf cX1_dueOf 3 (some .int)) 2 := ⟨good_V tw_432 tw_107 tw_108 tw_53 tw_105, by decide +kernel⟩
theorem tw_434 : Cond.fieldLink RX5 320 "PawnLane$Lane" "weeks" "[I" ∈ TBL := tbl_1 (i := 85) (by decide +kernel) (by decide +kernel)
theorem tw_435 : Cond.code yX1_heldBy cX1_heldBy 4 (some .int) ∈ TBL := tbl_2 (i := 125) (by decide +kernel) (by decide +kernel)
theorem tw_436 : Cond.methodLink RX5 148 yX1_heldBy ∈ TBL := tbl_2 (i := 122) (by decide +kernel) (by decide +kernel)
theorem tw_437 : Cond.instanceMethod yX1_heldBy ∈ TBL := tbl_2 (i := 123) (by decide +kernel) (by decide +kernel)
theorem tw_438 : Cond.selects RX1 yX1_heldBy yX1_heldBy ∈ TBL := tbl_2 (i := 124) (by decide +kernel) (by decide +kernel)
theorem vw_RX5_148 : VW RX5 148 RX1 yX1_heldBy (.code yX1_heldBy cX1_heldBy 4 (some .int)) 1 := ⟨good_V tw_436 tw_437 tw_438 tw_53 tw_435, by decide +kernel⟩
theorem tw_440 : Cond.code yX5_toldOfShop cX5_toldOfShop 3 (some .int) ∈ TBL := tbl_2 (i := 110) (by decide +kernel) (by decide +kernel)
theorem tw_441 : Cond.methodLink RX5 132 yX5_toldOfShop ∈ TBL := tbl_2 (i := 107) (by decide +kernel) (by decide +kernel)
theorem tw_442 : Cond.instanceMethod yX5_toldOfShop ∈ TBL := tbl_2 (i := 109) (by decide +kernel) (by decide +kernel)
theorem tw_443 : Cond.selects RX5 yX5_toldOfShop yX5_toldOfShop ∈ TBL := tbl_sel (i := 7) (by decide +kernel) (by decide +kernel)
theorem vw_RX5_132 : VW RX5 132 RX5 yX5_toldOfShop (.code yX5_toldOfShop cX5_toldOfShop 3 (some .int)) 2 := ⟨good_V tw_441 tw_442 tw_443 tw_61 tw_440, by decide +kernel⟩
theorem tw_445 : Cond.methodLink RX5 138 yX5_isOfKind ∈ TBL := tbl_2 (i := 130) (by decide +kernel) (by decide +kernel)
theorem sw_RX5_138 : SW RX5 138 yX5_isOfKind (.code yX5_isOfKind cX5_isOfKind 2 (some .boolean)) 2 := ⟨good_C tw_66, tw_61, tw_445, tw_67, by decide +kernel⟩
theorem tw_447 : Cond.code yX1_loansTo cX1_loansTo 4 (some .int) ∈ TBL := tbl_2 (i := 136) (by decide +kernel) (by decide +kernel)
theorem tw_448 : Cond.methodLink RX5 142 yX1_loansTo ∈ TBL := tbl_2 (i := 133) (by decide +kernel) (by decide +kernel)
theorem tw_449 : Cond.instanceMethod yX1_loansTo ∈ TBL := tbl_2 (i := 134) (by decide +kernel) (by decide +kernel)
theorem tw_450 : Cond.selects RX1 yX1_loansTo yX1_loansTo ∈ TBL := tbl_2 (i := 135) (by decide +kernel) (by decide +kernel)
theorem vw_RX5_142 : VW RX5 142 RX1 yX1_loansTo (.code yX1_loansTo cX1_loansTo 4 (some .int)) 1 := ⟨good_V tw_448 tw_449 tw_450 tw_53 tw_447, by decide +kernel⟩
theorem tw_452 : Cond.code yX1_dueTo cX1_dueTo 5 (some .int) ∈ TBL := tbl_2 (i := 140) (by decide +kernel) (by decide +kernel)
theorem tw_453 : Cond.methodLink RX5 145 yX1_dueTo ∈ TBL := tbl_2 (i := 137) (by decide +kernel) (by decide +kernel)
theorem tw_454 : Cond.instanceMethod yX1_dueTo ∈ TBL := tbl_2 (i := 138) (by decide +kernel) (by decide +kernel)
theorem tw_455 : Cond.selects RX1 yX1_dueTo yX1_dueTo ∈ TBL := tbl_2 (i := 139) (by decide +kernel) (by decide +kernel)
theorem vw_RX5_145 : VW RX5 145 RX1 yX1_dueTo (.code yX1_dueTo cX1_dueTo 5 (some .int)) 2 := ⟨good_V tw_453 tw_454 tw_455 tw_53 tw_452, by decide +kernel⟩
theorem tw_457 : Cond.fieldLink RX5 42 "PawnLane" "orders" "LPawnLane$Orders;" ∈ TBL := tbl_1 (i := 155) (by decide +kernel) (by decide +kernel)
theorem tw_458 : Cond.code yX2_lookAt cX2_lookAt 4 none ∈ TBL := tbl_2 (i := 151) (by decide +kernel) (by decide +kernel)
theorem tw_459 : Cond.methodLink RX5 156 yX2_lookAt ∈ TBL := tbl_2 (i := 148) (by decide +kernel) (by decide +kernel)
theorem tw_460 : Cond.instanceMethod yX2_lookAt ∈ TBL := tbl_2 (i := 149) (by decide +kernel) (by decide +kernel)
theorem tw_461 : Cond.selects RX2 yX2_lookAt yX2_lookAt ∈ TBL := tbl_2 (i := 150) (by decide +kernel) (by decide +kernel)
theorem vw_RX5_156 : VW RX5 156 RX2 yX2_lookAt (.code yX2_lookAt cX2_lookAt 4 none) 2 := ⟨good_V tw_459 tw_460 tw_461 tw_255 tw_458, by decide +kernel⟩
theorem tw_463 : Cond.methodLink RX5 160 yX2_nextAfter ∈ TBL := tbl_2 (i := 157) (by decide +kernel) (by decide +kernel)
theorem vw_RX5_160 : VW RX5 160 RX2 yX2_nextAfter (.code yX2_nextAfter cX2_nextAfter 4 (some .int)) 1 := ⟨good_V tw_463 tw_295 tw_296 tw_255 tw_293, by decide +kernel⟩
theorem tw_465 : Cond.methodLink RX5 175 yX1_canRedeem ∈ TBL := tbl_2 (i := 184) (by decide +kernel) (by decide +kernel)
theorem vw_RX5_175 : VW RX5 175 RX1 yX1_canRedeem (.code yX1_canRedeem cX1_canRedeem 2 (some .boolean)) 1 := ⟨good_V tw_465 tw_147 tw_148 tw_53 tw_145, by decide +kernel⟩
theorem tw_467 : Cond.methodLink RX5 181 yX1_doRedeem ∈ TBL := tbl_2 (i := 192) (by decide +kernel) (by decide +kernel)
theorem vw_RX5_181 : VW RX5 181 RX1 yX1_doRedeem (.code yX1_doRedeem cX1_doRedeem 4 (some .int)) 1 := ⟨good_V tw_467 tw_172 tw_173 tw_53 tw_170, by decide +kernel⟩
theorem tw_469 : Cond.code yX1_oldestTicket cX1_oldestTicket 3 (some .int) ∈ TBL := tbl_2 (i := 225) (by decide +kernel) (by decide +kernel)
theorem tw_470 : Cond.methodLink RX5 194 yX1_oldestTicket ∈ TBL := tbl_2 (i := 222) (by decide +kernel) (by decide +kernel)
theorem tw_471 : Cond.instanceMethod yX1_oldestTicket ∈ TBL := tbl_2 (i := 223) (by decide +kernel) (by decide +kernel)
theorem tw_472 : Cond.selects RX1 yX1_oldestTicket yX1_oldestTicket ∈ TBL := tbl_2 (i := 224) (by decide +kernel) (by decide +kernel)
theorem vw_RX5_194 : VW RX5 194 RX1 yX1_oldestTicket (.code yX1_oldestTicket cX1_oldestTicket 3 (some .int)) 0 := ⟨good_V tw_470 tw_471 tw_472 tw_53 tw_469, by decide +kernel⟩
theorem tw_474 : Cond.methodLink RX5 197 yX1_doWeek ∈ TBL := tbl_2 (i := 227) (by decide +kernel) (by decide +kernel)
theorem vw_RX5_197 : VW RX5 197 RX1 yX1_doWeek (.code yX1_doWeek cX1_doWeek 1 none) 0 := ⟨good_V tw_474 tw_167 tw_168 tw_53 tw_165, by decide +kernel⟩
theorem tw_476 : Cond.code yX1_dueInAll cX1_dueInAll 3 (some .int) ∈ TBL := tbl_2 (i := 238) (by decide +kernel) (by decide +kernel)
theorem tw_477 : Cond.methodLink RX5 200 yX1_dueInAll ∈ TBL := tbl_2 (i := 235) (by decide +kernel) (by decide +kernel)
theorem tw_478 : Cond.instanceMethod yX1_dueInAll ∈ TBL := tbl_2 (i := 236) (by decide +kernel) (by decide +kernel)
theorem tw_479 : Cond.selects RX1 yX1_dueInAll yX1_dueInAll ∈ TBL := tbl_2 (i := 237) (by decide +kernel) (by decide +kernel)
theorem vw_RX5_200 : VW RX5 200 RX1 yX1_dueInAll (.code yX1_dueInAll cX1_dueInAll 3 (some .int)) 0 := ⟨good_V tw_477 tw_478 tw_479 tw_53 tw_476, by decide +kernel⟩
theorem tw_481 : Cond.code yX1_undoLast cX1_undoLast 5 none ∈ TBL := tbl_3 (i := 14) (by decide +kernel) (by decide +kernel)
theorem tw_482 : Cond.methodLink RX5 209 yX1_undoLast ∈ TBL := tbl_3 (i := 11) (by decide +kernel) (by decide +kernel)
theorem tw_483 : Cond.instanceMethod yX1_undoLast ∈ TBL := tbl_3 (i := 12) (by decide +kernel) (by decide +kernel)
theorem tw_484 : Cond.selects RX1 yX1_undoLast yX1_undoLast ∈ TBL := tbl_3 (i := 13) (by decide +kernel) (by decide +kernel)
theorem vw_RX5_209 : VW RX5 209 RX1 yX1_undoLast (.code yX1_undoLast cX1_undoLast 5 none) 0 := ⟨good_V tw_482 tw_483 tw_484 tw_53 tw_481, by decide +kernel⟩
theorem tw_486 : Cond.code yX2_needOf cX2_needOf 3 (some .int) ∈ TBL := tbl_3 (i := 172) (by decide +kernel) (by decide +kernel)
theorem tw_487 : Cond.methodLink RX5 253 yX2_needOf ∈ TBL := tbl_3 (i := 169) (by decide +kernel) (by decide +kernel)
theorem tw_488 : Cond.instanceMethod yX2_needOf ∈ TBL := tbl_3 (i := 170) (by decide +kernel) (by decide +kernel)
theorem tw_489 : Cond.selects RX2 yX2_needOf yX2_needOf ∈ TBL := tbl_3 (i := 171) (by decide +kernel) (by decide +kernel)
theorem vw_RX5_253 : VW RX5 253 RX2 yX2_needOf (.code yX2_needOf cX2_needOf 3 (some .int)) 1 := ⟨good_V tw_487 tw_488 tw_489 tw_255 tw_486, by decide +kernel⟩
theorem tw_491 : Cond.methodLink RX5 262 yX2_cashAfter ∈ TBL := tbl_3 (i := 203) (by decide +kernel) (by decide +kernel)
theorem vw_RX5_262 : VW RX5 262 RX2 yX2_cashAfter (.code yX2_cashAfter cX2_cashAfter 5 (some .int)) 2 := ⟨good_V tw_491 tw_259 tw_260 tw_255 tw_257, by decide +kernel⟩
theorem tw_493 : Cond.methodLink RX5 259 yX2_goesOn ∈ TBL := tbl_3 (i := 202) (by decide +kernel) (by decide +kernel)
theorem vw_RX5_259 : VW RX5 259 RX2 yX2_goesOn (.code yX2_goesOn cX2_goesOn 3 (some .boolean)) 2 := ⟨good_V tw_493 tw_276 tw_277 tw_255 tw_274, by decide +kernel⟩
theorem tw_495 : Cond.code yX5_refusalOfOrder cX5_refusalOfOrder 3 (some .int) ∈ TBL := tbl_3 (i := 193) (by decide +kernel) (by decide +kernel)
theorem tw_496 : Cond.methodLink RX5 256 yX5_refusalOfOrder ∈ TBL := tbl_3 (i := 190) (by decide +kernel) (by decide +kernel)
theorem tw_497 : Cond.instanceMethod yX5_refusalOfOrder ∈ TBL := tbl_3 (i := 192) (by decide +kernel) (by decide +kernel)
theorem tw_498 : Cond.selects RX5 yX5_refusalOfOrder yX5_refusalOfOrder ∈ TBL := tbl_sel (i := 15) (by decide +kernel) (by decide +kernel)
theorem vw_RX5_256 : VW RX5 256 RX5 yX5_refusalOfOrder (.code yX5_refusalOfOrder cX5_refusalOfOrder 3 (some .int)) 1 := ⟨good_V tw_496 tw_497 tw_498 tw_61 tw_495, by decide +kernel⟩
theorem tw_500 : Cond.code yX2_isStep cX2_isStep 4 (some .boolean) ∈ TBL := tbl_3 (i := 227) (by decide +kernel) (by decide +kernel)
theorem tw_501 : Cond.methodLink RX5 271 yX2_isStep ∈ TBL := tbl_3 (i := 224) (by decide +kernel) (by decide +kernel)
theorem tw_502 : Cond.instanceMethod yX2_isStep ∈ TBL := tbl_3 (i := 225) (by decide +kernel) (by decide +kernel)
theorem tw_503 : Cond.selects RX2 yX2_isStep yX2_isStep ∈ TBL := tbl_3 (i := 226) (by decide +kernel) (by decide +kernel)
theorem vw_RX5_271 : VW RX5 271 RX2 yX2_isStep (.code yX2_isStep cX2_isStep 4 (some .boolean)) 2 := ⟨good_V tw_501 tw_502 tw_503 tw_255 tw_500, by decide +kernel⟩
theorem tw_505 : Cond.code yX5_refusalOfSets cX5_refusalOfSets 3 (some .int) ∈ TBL := tbl_3 (i := 223) (by decide +kernel) (by decide +kernel)
theorem tw_506 : Cond.methodLink RX5 268 yX5_refusalOfSets ∈ TBL := tbl_3 (i := 220) (by decide +kernel) (by decide +kernel)
theorem tw_507 : Cond.instanceMethod yX5_refusalOfSets ∈ TBL := tbl_3 (i := 222) (by decide +kernel) (by decide +kernel)
theorem tw_508 : Cond.selects RX5 yX5_refusalOfSets yX5_refusalOfSets ∈ TBL := tbl_sel (i := 18) (by decide +kernel) (by decide +kernel)
theorem vw_RX5_268 : VW RX5 268 RX5 yX5_refusalOfSets (.code yX5_refusalOfSets cX5_refusalOfSets 3 (some .int)) 1 := ⟨good_V tw_506 tw_507 tw_508 tw_61 tw_505, by decide +kernel⟩
theorem tw_510 : Cond.code yX1_cashInAll cX1_cashInAll 3 (some .int) ∈ TBL := tbl_4 (i := 39) (by decide +kernel) (by decide +kernel)
theorem tw_511 : Cond.methodLink RX5 323 yX1_cashInAll ∈ TBL := tbl_4 (i := 36) (by decide +kernel) (by decide +kernel)
theorem tw_512 : Cond.instanceMethod yX1_cashInAll ∈ TBL := tbl_4 (i := 37) (by decide +kernel) (by decide +kernel)
theorem tw_513 : Cond.selects RX1 yX1_cashInAll yX1_cashInAll ∈ TBL := tbl_4 (i := 38) (by decide +kernel) (by decide +kernel)
theorem vw_RX5_323 : VW RX5 323 RX1 yX1_cashInAll (.code yX1_cashInAll cX1_cashInAll 3 (some .int)) 0 := ⟨good_V tw_511 tw_512 tw_513 tw_53 tw_510, by decide +kernel⟩
theorem tw_515 : Cond.code yX1_howManyOf cX1_howManyOf 4 (some .int) ∈ TBL := tbl_4 (i := 43) (by decide +kernel) (by decide +kernel)
theorem tw_516 : Cond.methodLink RX5 326 yX1_howManyOf ∈ TBL := tbl_4 (i := 40) (by decide +kernel) (by decide +kernel)
theorem tw_517 : Cond.instanceMethod yX1_howManyOf ∈ TBL := tbl_4 (i := 41) (by decide +kernel) (by decide +kernel)
theorem tw_518 : Cond.selects RX1 yX1_howManyOf yX1_howManyOf ∈ TBL := tbl_4 (i := 42) (by decide +kernel) (by decide +kernel)
theorem vw_RX5_326 : VW RX5 326 RX1 yX1_howManyOf (.code yX1_howManyOf cX1_howManyOf 4 (some .int)) 1 := ⟨good_V tw_516 tw_517 tw_518 tw_53 tw_515, by decide +kernel⟩
theorem tw_520 : Cond.code yX4_howMany cX4_howMany 3 (some .int) ∈ TBL := tbl_4 (i := 48) (by decide +kernel) (by decide +kernel)
theorem tw_521 : Cond.methodLink RX5 329 yX4_howMany ∈ TBL := tbl_4 (i := 45) (by decide +kernel) (by decide +kernel)
theorem tw_522 : Cond.instanceMethod yX4_howMany ∈ TBL := tbl_4 (i := 46) (by decide +kernel) (by decide +kernel)
theorem tw_523 : Cond.selects RX4 yX4_howMany yX4_howMany ∈ TBL := tbl_4 (i := 47) (by decide +kernel) (by decide +kernel)
theorem vw_RX5_329 : VW RX5 329 RX4 yX4_howMany (.code yX4_howMany cX4_howMany 3 (some .int)) 0 := ⟨good_V tw_521 tw_522 tw_523 tw_28 tw_520, by decide +kernel⟩
theorem tw_525 : Cond.code yX5_keptLanes cX5_keptLanes 3 (some .int) ∈ TBL := tbl_4 (i := 53) (by decide +kernel) (by decide +kernel)
theorem tw_526 : Cond.methodLink RX5 332 yX5_keptLanes ∈ TBL := tbl_4 (i := 50) (by decide +kernel) (by decide +kernel)
theorem tw_527 : Cond.instanceMethod yX5_keptLanes ∈ TBL := tbl_4 (i := 52) (by decide +kernel) (by decide +kernel)
theorem tw_528 : Cond.selects RX5 yX5_keptLanes yX5_keptLanes ∈ TBL := tbl_sel (i := 20) (by decide +kernel) (by decide +kernel)
theorem vw_RX5_332 : VW RX5 332 RX5 yX5_keptLanes (.code yX5_keptLanes cX5_keptLanes 3 (some .int)) 0 := ⟨good_V tw_526 tw_527 tw_528 tw_61 tw_525, by decide +kernel⟩
theorem tw_530 : Cond.code yX2_countFrom cX2_countFrom 5 none ∈ TBL := tbl_3 (i := 140) (by decide +kernel) (by decide +kernel)
theorem tw_531 : Cond.methodLink RX5 240 yX2_countFrom ∈ TBL := tbl_3 (i := 137) (by decide +kernel) (by decide +kernel)
theorem tw_532 : Cond.instanceMethod yX2_countFrom ∈ TBL := tbl_3 (i := 138) (by decide +kernel) (by decide +kernel)
theorem tw_533 : Cond.selects RX2 yX2_countFrom yX2_countFrom ∈ TBL := tbl_3 (i := 139) (by decide +kernel) (by decide +kernel)
theorem vw_RX5_240 : VW RX5 240 RX2 yX2_countFrom (.code yX2_countFrom cX2_countFrom 5 none) 1 := ⟨good_V tw_531 tw_532 tw_533 tw_255 tw_530, by decide +kernel⟩
theorem tw_535 : Cond.code yX2_countOf cX2_countOf 2 (some .int) ∈ TBL := tbl_3 (i := 145) (by decide +kernel) (by decide +kernel)
theorem tw_536 : Cond.methodLink RX5 243 yX2_countOf ∈ TBL := tbl_3 (i := 142) (by decide +kernel) (by decide +kernel)
theorem tw_537 : Cond.instanceMethod yX2_countOf ∈ TBL := tbl_3 (i := 143) (by decide +kernel) (by decide +kernel)
theorem tw_538 : Cond.selects RX2 yX2_countOf yX2_countOf ∈ TBL := tbl_3 (i := 144) (by decide +kernel) (by decide +kernel)
theorem vw_RX5_243 : VW RX5 243 RX2 yX2_countOf (.code yX2_countOf cX2_countOf 2 (some .int)) 1 := ⟨good_V tw_536 tw_537 tw_538 tw_255 tw_535, by decide +kernel⟩
theorem tw_540 : Cond.code yX5_tell cX5_tell 7 none ∈ TBL := tbl_3 (i := 149) (by decide +kernel) (by decide +kernel)
theorem tw_541 : Cond.methodLink RX5 246 yX5_tell ∈ TBL := tbl_3 (i := 146) (by decide +kernel) (by decide +kernel)
theorem tw_542 : Cond.instanceMethod yX5_tell ∈ TBL := tbl_3 (i := 148) (by decide +kernel) (by decide +kernel)
theorem tw_543 : Cond.selects RX5 yX5_tell yX5_tell ∈ TBL := tbl_sel (i := 13) (by decide +kernel) (by decide +kernel)
theorem vw_RX5_246 : VW RX5 246 RX5 yX5_tell (.code yX5_tell cX5_tell 7 none) 2 := ⟨good_V tw_541 tw_542 tw_543 tw_61 tw_540, by decide +kernel⟩
theorem tw_545 : Cond.code yX2_largest cX2_largest 3 (some .int) ∈ TBL := tbl_3 (i := 163) (by decide +kernel) (by decide +kernel)
theorem tw_546 : Cond.methodLink RX5 250 yX2_largest ∈ TBL := tbl_3 (i := 160) (by decide +kernel) (by decide +kernel)
theorem tw_547 : Cond.instanceMethod yX2_largest ∈ TBL := tbl_3 (i := 161) (by decide +kernel) (by decide +kernel)
theorem tw_548 : Cond.selects RX2 yX2_largest yX2_largest ∈ TBL := tbl_3 (i := 162) (by decide +kernel) (by decide +kernel)
theorem vw_RX5_250 : VW RX5 250 RX2 yX2_largest (.code yX2_largest cX2_largest 3 (some .int)) 0 := ⟨good_V tw_546 tw_547 tw_548 tw_255 tw_545, by decide +kernel⟩
theorem tw_550 : Cond.code yX1_shutBy cX1_shutBy 5 (some .int) ∈ TBL := tbl_3 (i := 211) (by decide +kernel) (by decide +kernel)
theorem tw_551 : Cond.methodLink RX5 265 yX1_shutBy ∈ TBL := tbl_3 (i := 208) (by decide +kernel) (by decide +kernel)
theorem tw_552 : Cond.instanceMethod yX1_shutBy ∈ TBL := tbl_3 (i := 209) (by decide +kernel) (by decide +kernel)
theorem tw_553 : Cond.selects RX1 yX1_shutBy yX1_shutBy ∈ TBL := tbl_3 (i := 210) (by decide +kernel) (by decide +kernel)
theorem vw_RX5_265 : VW RX5 265 RX1 yX1_shutBy (.code yX1_shutBy cX1_shutBy 5 (some .int)) 1 := ⟨good_V tw_551 tw_552 tw_553 tw_53 tw_550, by decide +kernel⟩
theorem tw_555 : Cond.code yX5_power cX5_power 5 (some .long) ∈ TBL := tbl_3 (i := 239) (by decide +kernel) (by decide +kernel)
theorem tw_556 : Cond.methodLink RX5 274 yX5_power ∈ TBL := tbl_3 (i := 237) (by decide +kernel) (by decide +kernel)
theorem tw_557 : Cond.static yX5_power ∈ TBL := tbl_3 (i := 238) (by decide +kernel) (by decide +kernel)
theorem sw_RX5_274 : SW RX5 274 yX5_power (.code yX5_power cX5_power 5 (some .long)) 2 := ⟨good_C tw_555, tw_61, tw_556, tw_557, by decide +kernel⟩
theorem tw_559 : Cond.constantLong RX5 280 48271 ∈ TBL := tbl_4 (i := 5) (by decide +kernel) (by decide +kernel)
theorem tw_560 : Cond.constantLong RX5 278 2147483647 ∈ TBL := tbl_4 (i := 4) (by decide +kernel) (by decide +kernel)
theorem tw_561 : Cond.code yX1_doByLot cX1_doByLot 5 none ∈ TBL := tbl_4 (i := 9) (by decide +kernel) (by decide +kernel)
theorem tw_562 : Cond.methodLink RX5 282 yX1_doByLot ∈ TBL := tbl_4 (i := 6) (by decide +kernel) (by decide +kernel)
theorem tw_563 : Cond.instanceMethod yX1_doByLot ∈ TBL := tbl_4 (i := 7) (by decide +kernel) (by decide +kernel)
theorem tw_564 : Cond.selects RX1 yX1_doByLot yX1_doByLot ∈ TBL := tbl_4 (i := 8) (by decide +kernel) (by decide +kernel)
theorem vw_RX5_282 : VW RX5 282 RX1 yX1_doByLot (.code yX1_doByLot cX1_doByLot 5 none) 1 := ⟨good_V tw_562 tw_563 tw_564 tw_53 tw_561, by decide +kernel⟩
theorem tw_566 : Cond.code yX5_counted cX5_counted 2 (some .int) ∈ TBL := tbl_4 (i := 35) (by decide +kernel) (by decide +kernel)
theorem tw_567 : Cond.methodLink RX5 285 yX5_counted ∈ TBL := tbl_4 (i := 32) (by decide +kernel) (by decide +kernel)
theorem tw_568 : Cond.instanceMethod yX5_counted ∈ TBL := tbl_4 (i := 34) (by decide +kernel) (by decide +kernel)
theorem tw_569 : Cond.selects RX5 yX5_counted yX5_counted ∈ TBL := tbl_sel (i := 19) (by decide +kernel) (by decide +kernel)
theorem vw_RX5_285 : VW RX5 285 RX5 yX5_counted (.code yX5_counted cX5_counted 2 (some .int)) 1 := ⟨good_V tw_567 tw_568 tw_569 tw_61 tw_566, by decide +kernel⟩
theorem tw_571 : Cond.code yX4_digestOnto cX4_digestOnto 7 (some .long) ∈ TBL := tbl_4 (i := 71) (by decide +kernel) (by decide +kernel)
theorem tw_572 : Cond.methodLink RX5 292 yX4_digestOnto ∈ TBL := tbl_4 (i := 68) (by decide +kernel) (by decide +kernel)
theorem tw_573 : Cond.instanceMethod yX4_digestOnto ∈ TBL := tbl_4 (i := 69) (by decide +kernel) (by decide +kernel)
theorem tw_574 : Cond.selects RX4 yX4_digestOnto yX4_digestOnto ∈ TBL := tbl_4 (i := 70) (by decide +kernel) (by decide +kernel)
theorem vw_RX5_292 : VW RX5 292 RX4 yX4_digestOnto (.code yX4_digestOnto cX4_digestOnto 7 (some .long)) 1 := ⟨good_V tw_572 tw_573 tw_574 tw_28 tw_571, by decide +kernel⟩
theorem tw_576 : Cond.constantLong RX5 290 31 ∈ TBL := tbl_4 (i := 67) (by decide +kernel) (by decide +kernel)
theorem tw_577 : Cond.constantLong RX5 288 17 ∈ TBL := tbl_4 (i := 66) (by decide +kernel) (by decide +kernel)
theorem tw_578 : Cond.code yX2_firstNearer cX2_firstNearer 4 (some .int) ∈ TBL := tbl_3 (i := 132) (by decide +kernel) (by decide +kernel)
theorem tw_579 : Cond.methodLink RX5 308 yX2_firstNearer ∈ TBL := tbl_3 (i := 129) (by decide +kernel) (by decide +kernel)
theorem tw_580 : Cond.instanceMethod yX2_firstNearer ∈ TBL := tbl_3 (i := 130) (by decide +kernel) (by decide +kernel)
theorem tw_581 : Cond.selects RX2 yX2_firstNearer yX2_firstNearer ∈ TBL := tbl_3 (i := 131) (by decide +kernel) (by decide +kernel)
theorem vw_RX5_308 : VW RX5 308 RX2 yX2_firstNearer (.code yX2_firstNearer cX2_firstNearer 4 (some .int)) 1 := ⟨good_V tw_579 tw_580 tw_581 tw_255 tw_578, by decide +kernel⟩
theorem tw_583 : Cond.code yX2_measureTo cX2_measureTo 3 none ∈ TBL := tbl_3 (i := 115) (by decide +kernel) (by decide +kernel)
theorem tw_584 : Cond.methodLink RX5 302 yX2_measureTo ∈ TBL := tbl_3 (i := 112) (by decide +kernel) (by decide +kernel)
theorem tw_585 : Cond.instanceMethod yX2_measureTo ∈ TBL := tbl_3 (i := 113) (by decide +kernel) (by decide +kernel)
theorem tw_586 : Cond.selects RX2 yX2_measureTo yX2_measureTo ∈ TBL := tbl_3 (i := 114) (by decide +kernel) (by decide +kernel)
theorem vw_RX5_302 : VW RX5 302 RX2 yX2_measureTo (.code yX2_measureTo cX2_measureTo 3 none) 1 := ⟨good_V tw_584 tw_585 tw_586 tw_255 tw_583, by decide +kernel⟩
theorem tw_588 : Cond.code yX2_stepsFrom cX2_stepsFrom 2 (some .int) ∈ TBL := tbl_3 (i := 128) (by decide +kernel) (by decide +kernel)
theorem tw_589 : Cond.methodLink RX5 305 yX2_stepsFrom ∈ TBL := tbl_3 (i := 125) (by decide +kernel) (by decide +kernel)
theorem tw_590 : Cond.instanceMethod yX2_stepsFrom ∈ TBL := tbl_3 (i := 126) (by decide +kernel) (by decide +kernel)
theorem tw_591 : Cond.selects RX2 yX2_stepsFrom yX2_stepsFrom ∈ TBL := tbl_3 (i := 127) (by decide +kernel) (by decide +kernel)
theorem vw_RX5_305 : VW RX5 305 RX2 yX2_stepsFrom (.code yX2_stepsFrom cX2_stepsFrom 2 (some .int)) 1 := ⟨good_V tw_589 tw_590 tw_591 tw_255 tw_588, by decide +kernel⟩
theorem tw_593 : Cond.fieldLink RX5 24 "PawnLane" "reader" "LPawnLane$Reader;" ∈ TBL := tbl_1 (i := 152) (by decide +kernel) (by decide +kernel)
theorem tw_594 : Cond.code yX3_faultOf cX3_faultOf 5 (some .int) ∈ TBL := tbl_2 (i := 40) (by decide +kernel) (by decide +kernel)
theorem tw_595 : Cond.methodLink RX5 113 yX3_faultOf ∈ TBL := tbl_2 (i := 37) (by decide +kernel) (by decide +kernel)
theorem tw_596 : Cond.instanceMethod yX3_faultOf ∈ TBL := tbl_2 (i := 38) (by decide +kernel) (by decide +kernel)
theorem tw_597 : Cond.selects RX3 yX3_faultOf yX3_faultOf ∈ TBL := tbl_2 (i := 39) (by decide +kernel) (by decide +kernel)
theorem vw_RX5_113 : VW RX5 113 RX3 yX3_faultOf (.code yX3_faultOf cX3_faultOf 5 (some .int)) 2 := ⟨good_V tw_595 tw_596 tw_597 tw_192 tw_594, by decide +kernel⟩
theorem tw_599 : Cond.methodLink RX5 123 yX1_clear ∈ TBL := tbl_2 (i := 101) (by decide +kernel) (by decide +kernel)
theorem vw_RX5_123 : VW RX5 123 RX1 yX1_clear (.code yX1_clear cX1_clear 1 none) 0 := ⟨good_V tw_599 tw_226 tw_227 tw_53 tw_224, by decide +kernel⟩
theorem tw_601 : Cond.fieldLink RX5 116 "PawnLane$Reader" "draft" "LPawnLane$Lane;" ∈ TBL := tbl_1 (i := 106) (by decide +kernel) (by decide +kernel)
theorem tw_602 : Cond.code yX5_firstOrderTo cX5_firstOrderTo 7 (some .int) ∈ TBL := tbl_3 (i := 111) (by decide +kernel) (by decide +kernel)
theorem tw_603 : Cond.methodLink RX5 237 yX5_firstOrderTo ∈ TBL := tbl_3 (i := 108) (by decide +kernel) (by decide +kernel)
theorem tw_604 : Cond.instanceMethod yX5_firstOrderTo ∈ TBL := tbl_3 (i := 110) (by decide +kernel) (by decide +kernel)
theorem tw_605 : Cond.selects RX5 yX5_firstOrderTo yX5_firstOrderTo ∈ TBL := tbl_sel (i := 11) (by decide +kernel) (by decide +kernel)
theorem vw_RX5_237 : VW RX5 237 RX5 yX5_firstOrderTo (.code yX5_firstOrderTo cX5_firstOrderTo 7 (some .int)) 2 := ⟨good_V tw_603 tw_604 tw_605 tw_61 tw_602, by decide +kernel⟩
theorem tw_607 : Cond.fieldLink RX6 60 "PawnLaneModel" "finding" "I" ∈ TBL := tbl_4 (i := 89) (by decide +kernel) (by decide +kernel)
theorem tw_608 : Cond.fieldLink RX6 32 "PawnLaneModel" "findings" "[I" ∈ TBL := tbl_4 (i := 90) (by decide +kernel) (by decide +kernel)
theorem tw_609 : Cond.fieldLink RX6 64 "PawnLaneModel" "asked" "I" ∈ TBL := tbl_4 (i := 86) (by decide +kernel) (by decide +kernel)
theorem tw_610 : Cond.fieldLink RX6 19 "PawnLaneModel" "items" "[I" ∈ TBL := tbl_4 (i := 83) (by decide +kernel) (by decide +kernel)
theorem tw_611 : Cond.fieldLink RX6 16 "PawnLaneModel" "sizes" "[I" ∈ TBL := tbl_4 (i := 82) (by decide +kernel) (by decide +kernel)
theorem tw_612 : Cond.fieldLink RX6 25 "PawnLaneModel" "bytes" "[I" ∈ TBL := tbl_4 (i := 85) (by decide +kernel) (by decide +kernel)
theorem tw_613 : Cond.fieldLink RX6 101 "PawnLaneModel" "from" "I" ∈ TBL := tbl_4 (i := 91) (by decide +kernel) (by decide +kernel)
theorem tw_614 : Cond.fieldLink RX6 104 "PawnLaneModel" "place" "I" ∈ TBL := tbl_4 (i := 92) (by decide +kernel) (by decide +kernel)
theorem tw_615 : Cond.fieldLink RX6 7 "PawnLaneModel" "row" "[I" ∈ TBL := tbl_4 (i := 79) (by decide +kernel) (by decide +kernel)
theorem tw_616 : Cond.fieldLink RX6 140 "PawnLaneModel" "shops" "I" ∈ TBL := tbl_4 (i := 80) (by decide +kernel) (by decide +kernel)
theorem tw_617 : Cond.fieldLink RX6 13 "PawnLaneModel" "kinds" "[I" ∈ TBL := tbl_4 (i := 81) (by decide +kernel) (by decide +kernel)
theorem tw_618 : Cond.fieldLink RX6 237 "PawnLaneModel" "upper" "J" ∈ TBL := tbl_4 (i := 87) (by decide +kernel) (by decide +kernel)
theorem tw_619 : Cond.fieldLink RX6 28 "PawnLaneModel" "lower" "J" ∈ TBL := tbl_4 (i := 88) (by decide +kernel) (by decide +kernel)
theorem tw_620 : Cond.fieldLink RX6 22 "PawnLaneModel" "lengths" "[I" ∈ TBL := tbl_4 (i := 84) (by decide +kernel) (by decide +kernel)
theorem tw_621 : Cond.constantLong RX6 67 5 ∈ TBL := tbl_4 (i := 166) (by decide +kernel) (by decide +kernel)
theorem tw_622 : Cond.code yX6_in cX6_in 6 (some .boolean) ∈ TBL := tbl_4 (i := 169) (by decide +kernel) (by decide +kernel)
theorem tw_623 : Cond.initialized RX6 ∈ TBL := tbl_1 (i := 8) (by decide +kernel) (by decide +kernel)
theorem tw_624 : Cond.methodLink RX6 69 yX6_in ∈ TBL := tbl_4 (i := 167) (by decide +kernel) (by decide +kernel)
theorem tw_625 : Cond.static yX6_in ∈ TBL := tbl_4 (i := 168) (by decide +kernel) (by decide +kernel)
theorem sw_RX6_69 : SW RX6 69 yX6_in (.code yX6_in cX6_in 6 (some .boolean)) 3 := ⟨good_C tw_622, tw_623, tw_624, tw_625, by decide +kernel⟩
theorem tw_627 : Cond.constantLong RX6 73 3 ∈ TBL := tbl_4 (i := 217) (by decide +kernel) (by decide +kernel)
theorem tw_628 : Cond.fieldLink RX6 107 "PawnLaneModel" "end" "I" ∈ TBL := tbl_4 (i := 93) (by decide +kernel) (by decide +kernel)
theorem tw_629 : Cond.code yX6_here cX6_here 1 (some .int) ∈ TBL := tbl_4 (i := 237) (by decide +kernel) (by decide +kernel)
theorem tw_630 : Cond.methodLink RX6 110 yX6_here ∈ TBL := tbl_4 (i := 234) (by decide +kernel) (by decide +kernel)
theorem tw_631 : Cond.instanceMethod yX6_here ∈ TBL := tbl_4 (i := 236) (by decide +kernel) (by decide +kernel)
theorem tw_632 : Cond.selects RX6 yX6_here yX6_here ∈ TBL := tbl_sel (i := 28) (by decide +kernel) (by decide +kernel)
theorem vw_RX6_110 : VW RX6 110 RX6 yX6_here (.code yX6_here cX6_here 1 (some .int)) 0 := ⟨good_V tw_630 tw_631 tw_632 tw_623 tw_629, by decide +kernel⟩
theorem tw_634 : Cond.code yX6_isPawned cX6_isPawned 2 (some .boolean) ∈ TBL := tbl_5 (i := 37) (by decide +kernel) (by decide +kernel)
theorem tw_635 : Cond.methodLink RX6 143 yX6_isPawned ∈ TBL := tbl_5 (i := 34) (by decide +kernel) (by decide +kernel)
theorem tw_636 : Cond.instanceMethod yX6_isPawned ∈ TBL := tbl_5 (i := 36) (by decide +kernel) (by decide +kernel)
theorem tw_637 : Cond.selects RX6 yX6_isPawned yX6_isPawned ∈ TBL := tbl_sel (i := 35) (by decide +kernel) (by decide +kernel)
theorem vw_RX6_143 : VW RX6 143 RX6 yX6_isPawned (.code yX6_isPawned cX6_isPawned 2 (some .boolean)) 1 := ⟨good_V tw_635 tw_636 tw_637 tw_623 tw_634, by decide +kernel⟩
theorem tw_639 : Cond.code yX6_keepPast cX6_keepPast 2 none ∈ TBL := tbl_5 (i := 84) (by decide +kernel) (by decide +kernel)
theorem tw_640 : Cond.methodLink RX6 178 yX6_keepPast ∈ TBL := tbl_5 (i := 81) (by decide +kernel) (by decide +kernel)
theorem tw_641 : Cond.instanceMethod yX6_keepPast ∈ TBL := tbl_5 (i := 83) (by decide +kernel) (by decide +kernel)
theorem tw_642 : Cond.selects RX6 yX6_keepPast yX6_keepPast ∈ TBL := tbl_sel (i := 42) (by decide +kernel) (by decide +kernel)
theorem vw_RX6_178 : VW RX6 178 RX6 yX6_keepPast (.code yX6_keepPast cX6_keepPast 2 none) 0 := ⟨good_V tw_640 tw_641 tw_642 tw_623 tw_639, by decide +kernel⟩
theorem tw_644 : Cond.constantLong RX6 208 2 ∈ TBL := tbl_5 (i := 130) (by decide +kernel) (by decide +kernel)
theorem tw_645 : Cond.code yX6_copyLane cX6_copyLane 4 none ∈ TBL := tbl_5 (i := 134) (by decide +kernel) (by decide +kernel)
theorem tw_646 : Cond.methodLink RX6 210 yX6_copyLane ∈ TBL := tbl_5 (i := 131) (by decide +kernel) (by decide +kernel)
theorem tw_647 : Cond.instanceMethod yX6_copyLane ∈ TBL := tbl_5 (i := 133) (by decide +kernel) (by decide +kernel)
theorem tw_648 : Cond.selects RX6 yX6_copyLane yX6_copyLane ∈ TBL := tbl_sel (i := 49) (by decide +kernel) (by decide +kernel)
theorem vw_RX6_210 : VW RX6 210 RX6 yX6_copyLane (.code yX6_copyLane cX6_copyLane 4 none) 2 := ⟨good_V tw_646 tw_647 tw_648 tw_623 tw_645, by decide +kernel⟩
theorem tw_650 : Cond.code yX6_find cX6_find 2 (some .int) ∈ TBL := tbl_4 (i := 173) (by decide +kernel) (by decide +kernel)
theorem tw_651 : Cond.methodLink RX6 79 yX6_find ∈ TBL := tbl_4 (i := 170) (by decide +kernel) (by decide +kernel)
theorem tw_652 : Cond.instanceMethod yX6_find ∈ TBL := tbl_4 (i := 172) (by decide +kernel) (by decide +kernel)
theorem tw_653 : Cond.selects RX6 yX6_find yX6_find ∈ TBL := tbl_sel (i := 21) (by decide +kernel) (by decide +kernel)
theorem vw_RX6_79 : VW RX6 79 RX6 yX6_find (.code yX6_find cX6_find 2 (some .int)) 1 := ⟨good_V tw_651 tw_652 tw_653 tw_623 tw_650, by decide +kernel⟩
theorem tw_655 : Cond.code yX6_has cX6_has 2 (some .boolean) ∈ TBL := tbl_5 (i := 76) (by decide +kernel) (by decide +kernel)
theorem tw_656 : Cond.methodLink RX6 181 yX6_has ∈ TBL := tbl_5 (i := 74) (by decide +kernel) (by decide +kernel)
theorem tw_657 : Cond.static yX6_has ∈ TBL := tbl_5 (i := 75) (by decide +kernel) (by decide +kernel)
theorem sw_RX6_181 : SW RX6 181 yX6_has (.code yX6_has cX6_has 2 (some .boolean)) 2 := ⟨good_C tw_655, tw_623, tw_656, tw_657, by decide +kernel⟩
theorem tw_659 : Cond.fieldLink RX6 44 "PawnLaneModel" "due" "[I" ∈ TBL := tbl_4 (i := 99) (by decide +kernel) (by decide +kernel)
theorem tw_660 : Cond.fieldLink RX6 47 "PawnLaneModel" "cash" "[I" ∈ TBL := tbl_4 (i := 100) (by decide +kernel) (by decide +kernel)
theorem tw_661 : Cond.code yX6_isOf cX6_isOf 3 (some .boolean) ∈ TBL := tbl_5 (i := 49) (by decide +kernel) (by decide +kernel)
theorem tw_662 : Cond.methodLink RX6 160 yX6_isOf ∈ TBL := tbl_5 (i := 46) (by decide +kernel) (by decide +kernel)
theorem tw_663 : Cond.instanceMethod yX6_isOf ∈ TBL := tbl_5 (i := 48) (by decide +kernel) (by decide +kernel)
theorem tw_664 : Cond.selects RX6 yX6_isOf yX6_isOf ∈ TBL := tbl_sel (i := 37) (by decide +kernel) (by decide +kernel)
theorem vw_RX6_160 : VW RX6 160 RX6 yX6_isOf (.code yX6_isOf cX6_isOf 3 (some .boolean)) 2 := ⟨good_V tw_662 tw_663 tw_664 tw_623 tw_661, by decide +kernel⟩
theorem tw_666 : Cond.code yX6_isRow cX6_isRow 1 (some .boolean) ∈ TBL := tbl_4 (i := 165) (by decide +kernel) (by decide +kernel)
theorem tw_667 : Cond.methodLink RX6 75 yX6_isRow ∈ TBL := tbl_4 (i := 163) (by decide +kernel) (by decide +kernel)
theorem tw_668 : Cond.static yX6_isRow ∈ TBL := tbl_4 (i := 164) (by decide +kernel) (by decide +kernel)
theorem sw_RX6_75 : SW RX6 75 yX6_isRow (.code yX6_isRow cX6_isRow 1 (some .boolean)) 1 := ⟨good_C tw_666, tw_623, tw_667, tw_668, by decide +kernel⟩
theorem tw_670 : Cond.code yX6_makeRow cX6_makeRow 4 none ∈ TBL := tbl_4 (i := 177) (by decide +kernel) (by decide +kernel)
theorem tw_671 : Cond.methodLink RX6 83 yX6_makeRow ∈ TBL := tbl_4 (i := 174) (by decide +kernel) (by decide +kernel)
theorem tw_672 : Cond.instanceMethod yX6_makeRow ∈ TBL := tbl_4 (i := 176) (by decide +kernel) (by decide +kernel)
theorem tw_673 : Cond.selects RX6 yX6_makeRow yX6_makeRow ∈ TBL := tbl_sel (i := 22) (by decide +kernel) (by decide +kernel)
theorem vw_RX6_83 : VW RX6 83 RX6 yX6_makeRow (.code yX6_makeRow cX6_makeRow 4 none) 2 := ⟨good_V tw_671 tw_672 tw_673 tw_623 tw_670, by decide +kernel⟩
theorem tw_675 : Cond.code yX6_isSpan cX6_isSpan 4 (some .boolean) ∈ TBL := tbl_4 (i := 205) (by decide +kernel) (by decide +kernel)
theorem tw_676 : Cond.methodLink RX6 94 yX6_isSpan ∈ TBL := tbl_4 (i := 202) (by decide +kernel) (by decide +kernel)
theorem tw_677 : Cond.instanceMethod yX6_isSpan ∈ TBL := tbl_4 (i := 204) (by decide +kernel) (by decide +kernel)
theorem tw_678 : Cond.selects RX6 yX6_isSpan yX6_isSpan ∈ TBL := tbl_sel (i := 25) (by decide +kernel) (by decide +kernel)
theorem vw_RX6_94 : VW RX6 94 RX6 yX6_isSpan (.code yX6_isSpan cX6_isSpan 4 (some .boolean)) 3 := ⟨good_V tw_676 tw_677 tw_678 tw_623 tw_675, by decide +kernel⟩
theorem tw_680 : Cond.code yX6_tell cX6_tell 2 (some .int) ∈ TBL := tbl_4 (i := 189) (by decide +kernel) (by decide +kernel)
theorem tw_681 : Cond.methodLink RX6 91 yX6_tell ∈ TBL := tbl_4 (i := 186) (by decide +kernel) (by decide +kernel)
theorem tw_682 : Cond.instanceMethod yX6_tell ∈ TBL := tbl_4 (i := 188) (by decide +kernel) (by decide +kernel)
theorem tw_683 : Cond.selects RX6 yX6_tell yX6_tell ∈ TBL := tbl_sel (i := 24) (by decide +kernel) (by decide +kernel)
theorem vw_RX6_91 : VW RX6 91 RX6 yX6_tell (.code yX6_tell cX6_tell 2 (some .int)) 1 := ⟨good_V tw_681 tw_682 tw_683 tw_623 tw_680, by decide +kernel⟩
theorem tw_685 : Cond.code yX6_isText cX6_isText 1 (some .boolean) ∈ TBL := tbl_4 (i := 216) (by decide +kernel) (by decide +kernel)
theorem tw_686 : Cond.methodLink RX6 98 yX6_isText ∈ TBL := tbl_4 (i := 214) (by decide +kernel) (by decide +kernel)
theorem tw_687 : Cond.static yX6_isText ∈ TBL := tbl_4 (i := 215) (by decide +kernel) (by decide +kernel)
theorem sw_RX6_98 : SW RX6 98 yX6_isText (.code yX6_isText cX6_isText 1 (some .boolean)) 1 := ⟨good_C tw_685, tw_623, tw_686, tw_687, by decide +kernel⟩
theorem tw_689 : Cond.fieldLink RX6 117 "PawnLaneModel" "readMany" "I" ∈ TBL := tbl_4 (i := 95) (by decide +kernel) (by decide +kernel)
theorem tw_690 : Cond.fieldLink RX6 35 "PawnLaneModel" "readShops" "[I" ∈ TBL := tbl_4 (i := 94) (by decide +kernel) (by decide +kernel)
theorem tw_691 : Cond.code yX6_kindOfLetter cX6_kindOfLetter 1 (some .int) ∈ TBL := tbl_5 (i := 12) (by decide +kernel) (by decide +kernel)
theorem tw_692 : Cond.methodLink RX6 114 yX6_kindOfLetter ∈ TBL := tbl_5 (i := 10) (by decide +kernel) (by decide +kernel)
theorem tw_693 : Cond.static yX6_kindOfLetter ∈ TBL := tbl_5 (i := 11) (by decide +kernel) (by decide +kernel)
theorem sw_RX6_114 : SW RX6 114 yX6_kindOfLetter (.code yX6_kindOfLetter cX6_kindOfLetter 1 (some .int)) 1 := ⟨good_C tw_691, tw_623, tw_692, tw_693, by decide +kernel⟩
theorem tw_695 : Cond.fieldLink RX6 120 "PawnLaneModel" "readTickets" "I" ∈ TBL := tbl_4 (i := 96) (by decide +kernel) (by decide +kernel)
theorem tw_696 : Cond.code yX6_figure cX6_figure 4 (some .int) ∈ TBL := tbl_5 (i := 5) (by decide +kernel) (by decide +kernel)
theorem tw_697 : Cond.methodLink RX6 123 yX6_figure ∈ TBL := tbl_5 (i := 2) (by decide +kernel) (by decide +kernel)
theorem tw_698 : Cond.instanceMethod yX6_figure ∈ TBL := tbl_5 (i := 4) (by decide +kernel) (by decide +kernel)
theorem tw_699 : Cond.selects RX6 yX6_figure yX6_figure ∈ TBL := tbl_sel (i := 30) (by decide +kernel) (by decide +kernel)
theorem vw_RX6_123 : VW RX6 123 RX6 yX6_figure (.code yX6_figure cX6_figure 4 (some .int)) 3 := ⟨good_V tw_697 tw_698 tw_699 tw_623 tw_696, by decide +kernel⟩
theorem tw_701 : Cond.code yX6_dueIn cX6_dueIn 5 (some .int) ∈ TBL := tbl_5 (i := 33) (by decide +kernel) (by decide +kernel)
theorem tw_702 : Cond.methodLink RX6 146 yX6_dueIn ∈ TBL := tbl_5 (i := 30) (by decide +kernel) (by decide +kernel)
theorem tw_703 : Cond.instanceMethod yX6_dueIn ∈ TBL := tbl_5 (i := 32) (by decide +kernel) (by decide +kernel)
theorem tw_704 : Cond.selects RX6 yX6_dueIn yX6_dueIn ∈ TBL := tbl_sel (i := 34) (by decide +kernel) (by decide +kernel)
theorem vw_RX6_146 : VW RX6 146 RX6 yX6_dueIn (.code yX6_dueIn cX6_dueIn 5 (some .int)) 2 := ⟨good_V tw_702 tw_703 tw_704 tw_623 tw_701, by decide +kernel⟩
theorem tw_706 : Cond.code yX6_heldBy cX6_heldBy 4 (some .int) ∈ TBL := tbl_5 (i := 41) (by decide +kernel) (by decide +kernel)
theorem tw_707 : Cond.methodLink RX6 149 yX6_heldBy ∈ TBL := tbl_5 (i := 38) (by decide +kernel) (by decide +kernel)
theorem tw_708 : Cond.instanceMethod yX6_heldBy ∈ TBL := tbl_5 (i := 40) (by decide +kernel) (by decide +kernel)
theorem tw_709 : Cond.selects RX6 yX6_heldBy yX6_heldBy ∈ TBL := tbl_sel (i := 36) (by decide +kernel) (by decide +kernel)
theorem vw_RX6_149 : VW RX6 149 RX6 yX6_heldBy (.code yX6_heldBy cX6_heldBy 4 (some .int)) 1 := ⟨good_V tw_707 tw_708 tw_709 tw_623 tw_706, by decide +kernel⟩
theorem tw_711 : Cond.code yX6_isShop cX6_isShop 2 (some .boolean) ∈ TBL := tbl_5 (i := 24) (by decide +kernel) (by decide +kernel)
theorem tw_712 : Cond.methodLink RX6 152 yX6_isShop ∈ TBL := tbl_5 (i := 21) (by decide +kernel) (by decide +kernel)
theorem tw_713 : Cond.instanceMethod yX6_isShop ∈ TBL := tbl_5 (i := 23) (by decide +kernel) (by decide +kernel)
theorem tw_714 : Cond.selects RX6 yX6_isShop yX6_isShop ∈ TBL := tbl_sel (i := 32) (by decide +kernel) (by decide +kernel)
theorem vw_RX6_152 : VW RX6 152 RX6 yX6_isShop (.code yX6_isShop cX6_isShop 2 (some .boolean)) 1 := ⟨good_V tw_712 tw_713 tw_714 tw_623 tw_711, by decide +kernel⟩
theorem tw_716 : Cond.constantLong RX6 176 9 ∈ TBL := tbl_5 (i := 69) (by decide +kernel) (by decide +kernel)
theorem tw_717 : Cond.code yX6_doPawn cX6_doPawn 4 none ∈ TBL := tbl_5 (i := 92) (by decide +kernel) (by decide +kernel)
theorem tw_718 : Cond.methodLink RX6 187 yX6_doPawn ∈ TBL := tbl_5 (i := 89) (by decide +kernel) (by decide +kernel)
theorem tw_719 : Cond.instanceMethod yX6_doPawn ∈ TBL := tbl_5 (i := 91) (by decide +kernel) (by decide +kernel)
theorem tw_720 : Cond.selects RX6 yX6_doPawn yX6_doPawn ∈ TBL := tbl_sel (i := 43) (by decide +kernel) (by decide +kernel)
theorem vw_RX6_187 : VW RX6 187 RX6 yX6_doPawn (.code yX6_doPawn cX6_doPawn 4 none) 3 := ⟨good_V tw_718 tw_719 tw_720 tw_623 tw_717, by decide +kernel⟩
theorem tw_722 : Cond.code yX6_pawned cX6_pawned 3 (some .int) ∈ TBL := tbl_5 (i := 96) (by decide +kernel) (by decide +kernel)
theorem tw_723 : Cond.methodLink RX6 191 yX6_pawned ∈ TBL := tbl_5 (i := 93) (by decide +kernel) (by decide +kernel)
theorem tw_724 : Cond.instanceMethod yX6_pawned ∈ TBL := tbl_5 (i := 95) (by decide +kernel) (by decide +kernel)
theorem tw_725 : Cond.selects RX6 yX6_pawned yX6_pawned ∈ TBL := tbl_sel (i := 44) (by decide +kernel) (by decide +kernel)
theorem vw_RX6_191 : VW RX6 191 RX6 yX6_pawned (.code yX6_pawned cX6_pawned 3 (some .int)) 0 := ⟨good_V tw_723 tw_724 tw_725 tw_623 tw_722, by decide +kernel⟩
theorem tw_727 : Cond.code yX6_bits cX6_bits 3 (some .int) ∈ TBL := tbl_5 (i := 60) (by decide +kernel) (by decide +kernel)
theorem tw_728 : Cond.methodLink RX6 170 yX6_bits ∈ TBL := tbl_5 (i := 58) (by decide +kernel) (by decide +kernel)
theorem tw_729 : Cond.static yX6_bits ∈ TBL := tbl_5 (i := 59) (by decide +kernel) (by decide +kernel)
theorem sw_RX6_170 : SW RX6 170 yX6_bits (.code yX6_bits cX6_bits 3 (some .int)) 1 := ⟨good_C tw_727, tw_623, tw_728, tw_729, by decide +kernel⟩
theorem tw_731 : Cond.constantLong RX6 203 99 ∈ TBL := tbl_5 (i := 117) (by decide +kernel) (by decide +kernel)
theorem tw_732 : Cond.code yX6_doGive cX6_doGive 3 (some .int) ∈ TBL := tbl_5 (i := 121) (by decide +kernel) (by decide +kernel)
theorem tw_733 : Cond.methodLink RX6 205 yX6_doGive ∈ TBL := tbl_5 (i := 118) (by decide +kernel) (by decide +kernel)
theorem tw_734 : Cond.instanceMethod yX6_doGive ∈ TBL := tbl_5 (i := 120) (by decide +kernel) (by decide +kernel)
theorem tw_735 : Cond.selects RX6 yX6_doGive yX6_doGive ∈ TBL := tbl_sel (i := 48) (by decide +kernel) (by decide +kernel)
theorem vw_RX6_205 : VW RX6 205 RX6 yX6_doGive (.code yX6_doGive cX6_doGive 3 (some .int)) 2 := ⟨good_V tw_733 tw_734 tw_735 tw_623 tw_732, by decide +kernel⟩
theorem tw_737 : Cond.code yX6_insideOf cX6_insideOf 5 (some .int) ∈ TBL := tbl_5 (i := 150) (by decide +kernel) (by decide +kernel)
theorem tw_738 : Cond.methodLink RX6 213 yX6_insideOf ∈ TBL := tbl_5 (i := 147) (by decide +kernel) (by decide +kernel)
theorem tw_739 : Cond.instanceMethod yX6_insideOf ∈ TBL := tbl_5 (i := 149) (by decide +kernel) (by decide +kernel)
theorem tw_740 : Cond.selects RX6 yX6_insideOf yX6_insideOf ∈ TBL := tbl_sel (i := 50) (by decide +kernel) (by decide +kernel)
theorem vw_RX6_213 : VW RX6 213 RX6 yX6_insideOf (.code yX6_insideOf cX6_insideOf 5 (some .int)) 1 := ⟨good_V tw_738 tw_739 tw_740 tw_623 tw_737, by decide +kernel⟩
theorem tw_742 : Cond.code yX6_ringOf cX6_ringOf 4 (some .int) ∈ TBL := tbl_5 (i := 158) (by decide +kernel) (by decide +kernel)
theorem tw_743 : Cond.methodLink RX6 216 yX6_ringOf ∈ TBL := tbl_5 (i := 155) (by decide +kernel) (by decide +kernel)
theorem tw_744 : Cond.instanceMethod yX6_ringOf ∈ TBL := tbl_5 (i := 157) (by decide +kernel) (by decide +kernel)
theorem tw_745 : Cond.selects RX6 yX6_ringOf yX6_ringOf ∈ TBL := tbl_sel (i := 51) (by decide +kernel) (by decide +kernel)
theorem vw_RX6_216 : VW RX6 216 RX6 yX6_ringOf (.code yX6_ringOf cX6_ringOf 4 (some .int)) 1 := ⟨good_V tw_743 tw_744 tw_745 tw_623 tw_742, by decide +kernel⟩
theorem tw_747 : Cond.fieldLink RX6 38 "PawnLaneModel" "chalked" "[I" ∈ TBL := tbl_4 (i := 97) (by decide +kernel) (by decide +kernel)
theorem tw_748 : Cond.fieldLink RX6 41 "PawnLaneModel" "more" "[I" ∈ TBL := tbl_4 (i := 98) (by decide +kernel) (by decide +kernel)
theorem tw_749 : Cond.constantLong RX6 155 6 ∈ TBL := tbl_5 (i := 25) (by decide +kernel) (by decide +kernel)
theorem tw_750 : Cond.fieldLink RX6 219 "PawnLaneModel" "all" "I" ∈ TBL := tbl_4 (i := 101) (by decide +kernel) (by decide +kernel)
theorem tw_751 : Cond.code yX6_cashBy cX6_cashBy 5 (some .int) ∈ TBL := tbl_5 (i := 198) (by decide +kernel) (by decide +kernel)
theorem tw_752 : Cond.methodLink RX6 222 yX6_cashBy ∈ TBL := tbl_5 (i := 195) (by decide +kernel) (by decide +kernel)
theorem tw_753 : Cond.instanceMethod yX6_cashBy ∈ TBL := tbl_5 (i := 197) (by decide +kernel) (by decide +kernel)
theorem tw_754 : Cond.selects RX6 yX6_cashBy yX6_cashBy ∈ TBL := tbl_sel (i := 55) (by decide +kernel) (by decide +kernel)
theorem vw_RX6_222 : VW RX6 222 RX6 yX6_cashBy (.code yX6_cashBy cX6_cashBy 5 (some .int)) 2 := ⟨good_V tw_752 tw_753 tw_754 tw_623 tw_751, by decide +kernel⟩
theorem tw_756 : Cond.code yX6_refused cX6_refused 3 (some .int) ∈ TBL := tbl_4 (i := 185) (by decide +kernel) (by decide +kernel)
theorem tw_757 : Cond.methodLink RX6 87 yX6_refused ∈ TBL := tbl_4 (i := 182) (by decide +kernel) (by decide +kernel)
theorem tw_758 : Cond.instanceMethod yX6_refused ∈ TBL := tbl_4 (i := 184) (by decide +kernel) (by decide +kernel)
theorem tw_759 : Cond.selects RX6 yX6_refused yX6_refused ∈ TBL := tbl_sel (i := 23) (by decide +kernel) (by decide +kernel)
theorem vw_RX6_87 : VW RX6 87 RX6 yX6_refused (.code yX6_refused cX6_refused 3 (some .int)) 2 := ⟨good_V tw_757 tw_758 tw_759 tw_623 tw_756, by decide +kernel⟩
theorem tw_761 : Cond.code yX6_skip cX6_skip 1 none ∈ TBL := tbl_4 (i := 233) (by decide +kernel) (by decide +kernel)
theorem tw_762 : Cond.methodLink RX6 127 yX6_skip ∈ TBL := tbl_4 (i := 230) (by decide +kernel) (by decide +kernel)
theorem tw_763 : Cond.instanceMethod yX6_skip ∈ TBL := tbl_4 (i := 232) (by decide +kernel) (by decide +kernel)
theorem tw_764 : Cond.selects RX6 yX6_skip yX6_skip ∈ TBL := tbl_sel (i := 27) (by decide +kernel) (by decide +kernel)
theorem vw_RX6_127 : VW RX6 127 RX6 yX6_skip (.code yX6_skip cX6_skip 1 none) 0 := ⟨good_V tw_762 tw_763 tw_764 tw_623 tw_761, by decide +kernel⟩
theorem tw_766 : Cond.code yX6_readsShop cX6_readsShop 5 (some .boolean) ∈ TBL := tbl_5 (i := 9) (by decide +kernel) (by decide +kernel)
theorem tw_767 : Cond.methodLink RX6 134 yX6_readsShop ∈ TBL := tbl_5 (i := 6) (by decide +kernel) (by decide +kernel)
theorem tw_768 : Cond.instanceMethod yX6_readsShop ∈ TBL := tbl_5 (i := 8) (by decide +kernel) (by decide +kernel)
theorem tw_769 : Cond.selects RX6 yX6_readsShop yX6_readsShop ∈ TBL := tbl_sel (i := 31) (by decide +kernel) (by decide +kernel)
theorem vw_RX6_134 : VW RX6 134 RX6 yX6_readsShop (.code yX6_readsShop cX6_readsShop 5 (some .boolean)) 0 := ⟨good_V tw_767 tw_768 tw_769 tw_623 tw_766, by decide +kernel⟩
theorem tw_771 : Cond.code yX6_readsTicket cX6_readsTicket 4 (some .boolean) ∈ TBL := tbl_5 (i := 1) (by decide +kernel) (by decide +kernel)
theorem tw_772 : Cond.methodLink RX6 130 yX6_readsTicket ∈ TBL := tbl_4 (i := 238) (by decide +kernel) (by decide +kernel)
theorem tw_773 : Cond.instanceMethod yX6_readsTicket ∈ TBL := tbl_5 (i := 0) (by decide +kernel) (by decide +kernel)
theorem tw_774 : Cond.selects RX6 yX6_readsTicket yX6_readsTicket ∈ TBL := tbl_sel (i := 29) (by decide +kernel) (by decide +kernel)
theorem vw_RX6_130 : VW RX6 130 RX6 yX6_readsTicket (.code yX6_readsTicket cX6_readsTicket 4 (some .boolean)) 0 := ⟨good_V tw_772 tw_773 tw_774 tw_623 tw_771, by decide +kernel⟩
theorem tw_776 : Cond.code yX6_toldOf cX6_toldOf 3 (some .int) ∈ TBL := tbl_5 (i := 29) (by decide +kernel) (by decide +kernel)
theorem tw_777 : Cond.methodLink RX6 157 yX6_toldOf ∈ TBL := tbl_5 (i := 26) (by decide +kernel) (by decide +kernel)
theorem tw_778 : Cond.instanceMethod yX6_toldOf ∈ TBL := tbl_5 (i := 28) (by decide +kernel) (by decide +kernel)
theorem tw_779 : Cond.selects RX6 yX6_toldOf yX6_toldOf ∈ TBL := tbl_sel (i := 33) (by decide +kernel) (by decide +kernel)
theorem vw_RX6_157 : VW RX6 157 RX6 yX6_toldOf (.code yX6_toldOf cX6_toldOf 3 (some .int)) 2 := ⟨good_V tw_777 tw_778 tw_779 tw_623 tw_776, by decide +kernel⟩
theorem tw_781 : Cond.code yX6_loansTo cX6_loansTo 4 (some .int) ∈ TBL := tbl_5 (i := 53) (by decide +kernel) (by decide +kernel)
theorem tw_782 : Cond.methodLink RX6 164 yX6_loansTo ∈ TBL := tbl_5 (i := 50) (by decide +kernel) (by decide +kernel)
theorem tw_783 : Cond.instanceMethod yX6_loansTo ∈ TBL := tbl_5 (i := 52) (by decide +kernel) (by decide +kernel)
theorem tw_784 : Cond.selects RX6 yX6_loansTo yX6_loansTo ∈ TBL := tbl_sel (i := 38) (by decide +kernel) (by decide +kernel)
theorem vw_RX6_164 : VW RX6 164 RX6 yX6_loansTo (.code yX6_loansTo cX6_loansTo 4 (some .int)) 1 := ⟨good_V tw_782 tw_783 tw_784 tw_623 tw_781, by decide +kernel⟩
theorem tw_786 : Cond.code yX6_dueTo cX6_dueTo 5 (some .int) ∈ TBL := tbl_5 (i := 57) (by decide +kernel) (by decide +kernel)
theorem tw_787 : Cond.methodLink RX6 167 yX6_dueTo ∈ TBL := tbl_5 (i := 54) (by decide +kernel) (by decide +kernel)
theorem tw_788 : Cond.instanceMethod yX6_dueTo ∈ TBL := tbl_5 (i := 56) (by decide +kernel) (by decide +kernel)
theorem tw_789 : Cond.selects RX6 yX6_dueTo yX6_dueTo ∈ TBL := tbl_sel (i := 39) (by decide +kernel) (by decide +kernel)
theorem vw_RX6_167 : VW RX6 167 RX6 yX6_dueTo (.code yX6_dueTo cX6_dueTo 5 (some .int)) 2 := ⟨good_V tw_787 tw_788 tw_789 tw_623 tw_786, by decide +kernel⟩
theorem tw_791 : Cond.code yX6_canNow cX6_canNow 3 (some .int) ∈ TBL := tbl_5 (i := 64) (by decide +kernel) (by decide +kernel)
theorem tw_792 : Cond.methodLink RX6 173 yX6_canNow ∈ TBL := tbl_5 (i := 61) (by decide +kernel) (by decide +kernel)
theorem tw_793 : Cond.instanceMethod yX6_canNow ∈ TBL := tbl_5 (i := 63) (by decide +kernel) (by decide +kernel)
theorem tw_794 : Cond.selects RX6 yX6_canNow yX6_canNow ∈ TBL := tbl_sel (i := 40) (by decide +kernel) (by decide +kernel)
theorem vw_RX6_173 : VW RX6 173 RX6 yX6_canNow (.code yX6_canNow cX6_canNow 3 (some .int)) 0 := ⟨good_V tw_792 tw_793 tw_794 tw_623 tw_791, by decide +kernel⟩
theorem tw_796 : Cond.code yX6_doRedeem cX6_doRedeem 3 (some .int) ∈ TBL := tbl_5 (i := 80) (by decide +kernel) (by decide +kernel)
theorem tw_797 : Cond.methodLink RX6 184 yX6_doRedeem ∈ TBL := tbl_5 (i := 77) (by decide +kernel) (by decide +kernel)
theorem tw_798 : Cond.instanceMethod yX6_doRedeem ∈ TBL := tbl_5 (i := 79) (by decide +kernel) (by decide +kernel)
theorem tw_799 : Cond.selects RX6 yX6_doRedeem yX6_doRedeem ∈ TBL := tbl_sel (i := 41) (by decide +kernel) (by decide +kernel)
theorem vw_RX6_184 : VW RX6 184 RX6 yX6_doRedeem (.code yX6_doRedeem cX6_doRedeem 3 (some .int)) 1 := ⟨good_V tw_797 tw_798 tw_799 tw_623 tw_796, by decide +kernel⟩
theorem tw_801 : Cond.code yX6_isOld cX6_isOld 2 (some .boolean) ∈ TBL := tbl_5 (i := 104) (by decide +kernel) (by decide +kernel)
theorem tw_802 : Cond.methodLink RX6 194 yX6_isOld ∈ TBL := tbl_5 (i := 101) (by decide +kernel) (by decide +kernel)
theorem tw_803 : Cond.instanceMethod yX6_isOld ∈ TBL := tbl_5 (i := 103) (by decide +kernel) (by decide +kernel)
theorem tw_804 : Cond.selects RX6 yX6_isOld yX6_isOld ∈ TBL := tbl_sel (i := 45) (by decide +kernel) (by decide +kernel)
theorem vw_RX6_194 : VW RX6 194 RX6 yX6_isOld (.code yX6_isOld cX6_isOld 2 (some .boolean)) 0 := ⟨good_V tw_802 tw_803 tw_804 tw_623 tw_801, by decide +kernel⟩
theorem tw_806 : Cond.code yX6_doWeek cX6_doWeek 2 none ∈ TBL := tbl_5 (i := 108) (by decide +kernel) (by decide +kernel)
theorem tw_807 : Cond.methodLink RX6 197 yX6_doWeek ∈ TBL := tbl_5 (i := 105) (by decide +kernel) (by decide +kernel)
theorem tw_808 : Cond.instanceMethod yX6_doWeek ∈ TBL := tbl_5 (i := 107) (by decide +kernel) (by decide +kernel)
theorem tw_809 : Cond.selects RX6 yX6_doWeek yX6_doWeek ∈ TBL := tbl_sel (i := 46) (by decide +kernel) (by decide +kernel)
theorem vw_RX6_197 : VW RX6 197 RX6 yX6_doWeek (.code yX6_doWeek cX6_doWeek 2 none) 0 := ⟨good_V tw_807 tw_808 tw_809 tw_623 tw_806, by decide +kernel⟩
theorem tw_811 : Cond.code yX6_dueInAll cX6_dueInAll 3 (some .int) ∈ TBL := tbl_5 (i := 112) (by decide +kernel) (by decide +kernel)
theorem tw_812 : Cond.methodLink RX6 200 yX6_dueInAll ∈ TBL := tbl_5 (i := 109) (by decide +kernel) (by decide +kernel)
theorem tw_813 : Cond.instanceMethod yX6_dueInAll ∈ TBL := tbl_5 (i := 111) (by decide +kernel) (by decide +kernel)
theorem tw_814 : Cond.selects RX6 yX6_dueInAll yX6_dueInAll ∈ TBL := tbl_sel (i := 47) (by decide +kernel) (by decide +kernel)
theorem vw_RX6_200 : VW RX6 200 RX6 yX6_dueInAll (.code yX6_dueInAll cX6_dueInAll 3 (some .int)) 0 := ⟨good_V tw_812 tw_813 tw_814 tw_623 tw_811, by decide +kernel⟩
theorem tw_816 : Cond.fieldLink RX6 50 "PawnLaneModel" "ways" "[J" ∈ TBL := tbl_4 (i := 102) (by decide +kernel) (by decide +kernel)
theorem tw_817 : Cond.code yX6_next cX6_next 3 (some .boolean) ∈ TBL := tbl_5 (i := 194) (by decide +kernel) (by decide +kernel)
theorem tw_818 : Cond.methodLink RX6 225 yX6_next ∈ TBL := tbl_5 (i := 191) (by decide +kernel) (by decide +kernel)
theorem tw_819 : Cond.instanceMethod yX6_next ∈ TBL := tbl_5 (i := 193) (by decide +kernel) (by decide +kernel)
theorem tw_820 : Cond.selects RX6 yX6_next yX6_next ∈ TBL := tbl_sel (i := 54) (by decide +kernel) (by decide +kernel)
theorem vw_RX6_225 : VW RX6 225 RX6 yX6_next (.code yX6_next cX6_next 3 (some .boolean)) 2 := ⟨good_V tw_818 tw_819 tw_820 tw_623 tw_817, by decide +kernel⟩
theorem tw_822 : Cond.fieldLink RX6 54 "PawnLaneModel" "on" "[J" ∈ TBL := tbl_4 (i := 103) (by decide +kernel) (by decide +kernel)
theorem tw_823 : Cond.fieldLink RX6 57 "PawnLaneModel" "soon" "[I" ∈ TBL := tbl_4 (i := 104) (by decide +kernel) (by decide +kernel)
theorem tw_824 : Cond.code yX6_layTried cX6_layTried 4 none ∈ TBL := tbl_5 (i := 186) (by decide +kernel) (by decide +kernel)
theorem tw_825 : Cond.methodLink RX6 231 yX6_layTried ∈ TBL := tbl_5 (i := 183) (by decide +kernel) (by decide +kernel)
theorem tw_826 : Cond.instanceMethod yX6_layTried ∈ TBL := tbl_5 (i := 185) (by decide +kernel) (by decide +kernel)
theorem tw_827 : Cond.selects RX6 yX6_layTried yX6_layTried ∈ TBL := tbl_sel (i := 52) (by decide +kernel) (by decide +kernel)
theorem vw_RX6_231 : VW RX6 231 RX6 yX6_layTried (.code yX6_layTried cX6_layTried 4 none) 2 := ⟨good_V tw_825 tw_826 tw_827 tw_623 tw_824, by decide +kernel⟩
theorem tw_829 : Cond.code yX6_noRow cX6_noRow 6 (some .int) ∈ TBL := tbl_5 (i := 238) (by decide +kernel) (by decide +kernel)
theorem tw_830 : Cond.methodLink RX6 247 yX6_noRow ∈ TBL := tbl_5 (i := 235) (by decide +kernel) (by decide +kernel)
theorem tw_831 : Cond.instanceMethod yX6_noRow ∈ TBL := tbl_5 (i := 237) (by decide +kernel) (by decide +kernel)
theorem tw_832 : Cond.selects RX6 yX6_noRow yX6_noRow ∈ TBL := tbl_sel (i := 59) (by decide +kernel) (by decide +kernel)
theorem vw_RX6_247 : VW RX6 247 RX6 yX6_noRow (.code yX6_noRow cX6_noRow 6 (some .int)) 3 := ⟨good_V tw_830 tw_831 tw_832 tw_623 tw_829, by decide +kernel⟩
theorem tw_834 : Cond.constantLong RX6 256 16 ∈ TBL := tbl_6 (i := 32) (by decide +kernel) (by decide +kernel)
theorem tw_835 : Cond.constantLong RX6 258 256 ∈ TBL := tbl_6 (i := 33) (by decide +kernel) (by decide +kernel)
theorem tw_836 : Cond.code yX6_cashOfAll cX6_cashOfAll 3 (some .int) ∈ TBL := tbl_6 (i := 58) (by decide +kernel) (by decide +kernel)
theorem tw_837 : Cond.methodLink RX6 272 yX6_cashOfAll ∈ TBL := tbl_6 (i := 55) (by decide +kernel) (by decide +kernel)
theorem tw_838 : Cond.instanceMethod yX6_cashOfAll ∈ TBL := tbl_6 (i := 57) (by decide +kernel) (by decide +kernel)
theorem tw_839 : Cond.selects RX6 yX6_cashOfAll yX6_cashOfAll ∈ TBL := tbl_sel (i := 63) (by decide +kernel) (by decide +kernel)
theorem vw_RX6_272 : VW RX6 272 RX6 yX6_cashOfAll (.code yX6_cashOfAll cX6_cashOfAll 3 (some .int)) 0 := ⟨good_V tw_837 tw_838 tw_839 tw_623 tw_836, by decide +kernel⟩
theorem tw_841 : Cond.code yX6_hawks cX6_hawks 3 (some .int) ∈ TBL := tbl_6 (i := 62) (by decide +kernel) (by decide +kernel)
theorem tw_842 : Cond.methodLink RX6 275 yX6_hawks ∈ TBL := tbl_6 (i := 59) (by decide +kernel) (by decide +kernel)
theorem tw_843 : Cond.instanceMethod yX6_hawks ∈ TBL := tbl_6 (i := 61) (by decide +kernel) (by decide +kernel)
theorem tw_844 : Cond.selects RX6 yX6_hawks yX6_hawks ∈ TBL := tbl_sel (i := 64) (by decide +kernel) (by decide +kernel)
theorem vw_RX6_275 : VW RX6 275 RX6 yX6_hawks (.code yX6_hawks cX6_hawks 3 (some .int)) 0 := ⟨good_V tw_842 tw_843 tw_844 tw_623 tw_841, by decide +kernel⟩
theorem tw_846 : Cond.code yX6_thereOf cX6_thereOf 4 (some .int) ∈ TBL := tbl_6 (i := 66) (by decide +kernel) (by decide +kernel)
theorem tw_847 : Cond.methodLink RX6 278 yX6_thereOf ∈ TBL := tbl_6 (i := 63) (by decide +kernel) (by decide +kernel)
theorem tw_848 : Cond.instanceMethod yX6_thereOf ∈ TBL := tbl_6 (i := 65) (by decide +kernel) (by decide +kernel)
theorem tw_849 : Cond.selects RX6 yX6_thereOf yX6_thereOf ∈ TBL := tbl_sel (i := 65) (by decide +kernel) (by decide +kernel)
theorem vw_RX6_278 : VW RX6 278 RX6 yX6_thereOf (.code yX6_thereOf cX6_thereOf 4 (some .int)) 1 := ⟨good_V tw_847 tw_848 tw_849 tw_623 tw_846, by decide +kernel⟩
theorem tw_851 : Cond.code yX6_faultOf cX6_faultOf 3 (some .int) ∈ TBL := tbl_4 (i := 229) (by decide +kernel) (by decide +kernel)
theorem tw_852 : Cond.methodLink RX6 137 yX6_faultOf ∈ TBL := tbl_4 (i := 226) (by decide +kernel) (by decide +kernel)
theorem tw_853 : Cond.instanceMethod yX6_faultOf ∈ TBL := tbl_4 (i := 228) (by decide +kernel) (by decide +kernel)
theorem tw_854 : Cond.selects RX6 yX6_faultOf yX6_faultOf ∈ TBL := tbl_sel (i := 26) (by decide +kernel) (by decide +kernel)
theorem vw_RX6_137 : VW RX6 137 RX6 yX6_faultOf (.code yX6_faultOf cX6_faultOf 3 (some .int)) 1 := ⟨good_V tw_852 tw_853 tw_854 tw_623 tw_851, by decide +kernel⟩
theorem tw_856 : Cond.code yX6_layWays cX6_layWays 3 none ∈ TBL := tbl_5 (i := 206) (by decide +kernel) (by decide +kernel)
theorem tw_857 : Cond.methodLink RX6 228 yX6_layWays ∈ TBL := tbl_5 (i := 203) (by decide +kernel) (by decide +kernel)
theorem tw_858 : Cond.instanceMethod yX6_layWays ∈ TBL := tbl_5 (i := 205) (by decide +kernel) (by decide +kernel)
theorem tw_859 : Cond.selects RX6 yX6_layWays yX6_layWays ∈ TBL := tbl_sel (i := 56) (by decide +kernel) (by decide +kernel)
theorem vw_RX6_228 : VW RX6 228 RX6 yX6_layWays (.code yX6_layWays cX6_layWays 3 none) 0 := ⟨good_V tw_857 tw_858 tw_859 tw_623 tw_856, by decide +kernel⟩
theorem tw_861 : Cond.code yX6_layOn cX6_layOn 3 none ∈ TBL := tbl_5 (i := 190) (by decide +kernel) (by decide +kernel)
theorem tw_862 : Cond.methodLink RX6 234 yX6_layOn ∈ TBL := tbl_5 (i := 187) (by decide +kernel) (by decide +kernel)
theorem tw_863 : Cond.instanceMethod yX6_layOn ∈ TBL := tbl_5 (i := 189) (by decide +kernel) (by decide +kernel)
theorem tw_864 : Cond.selects RX6 yX6_layOn yX6_layOn ∈ TBL := tbl_sel (i := 53) (by decide +kernel) (by decide +kernel)
theorem vw_RX6_234 : VW RX6 234 RX6 yX6_layOn (.code yX6_layOn cX6_layOn 3 none) 0 := ⟨good_V tw_862 tw_863 tw_864 tw_623 tw_861, by decide +kernel⟩
theorem tw_866 : Cond.code yX6_tellMany cX6_tellMany 3 (some .int) ∈ TBL := tbl_5 (i := 210) (by decide +kernel) (by decide +kernel)
theorem tw_867 : Cond.methodLink RX6 240 yX6_tellMany ∈ TBL := tbl_5 (i := 207) (by decide +kernel) (by decide +kernel)
theorem tw_868 : Cond.instanceMethod yX6_tellMany ∈ TBL := tbl_5 (i := 209) (by decide +kernel) (by decide +kernel)
theorem tw_869 : Cond.selects RX6 yX6_tellMany yX6_tellMany ∈ TBL := tbl_sel (i := 57) (by decide +kernel) (by decide +kernel)
theorem vw_RX6_240 : VW RX6 240 RX6 yX6_tellMany (.code yX6_tellMany cX6_tellMany 3 (some .int)) 1 := ⟨good_V tw_867 tw_868 tw_869 tw_623 tw_866, by decide +kernel⟩
theorem tw_871 : Cond.constantLong RX6 264 48271 ∈ TBL := tbl_6 (i := 26) (by decide +kernel) (by decide +kernel)
theorem tw_872 : Cond.constantLong RX6 266 2147483647 ∈ TBL := tbl_6 (i := 27) (by decide +kernel) (by decide +kernel)
theorem tw_873 : Cond.code yX6_doLot cX6_doLot 6 none ∈ TBL := tbl_6 (i := 31) (by decide +kernel) (by decide +kernel)
theorem tw_874 : Cond.methodLink RX6 268 yX6_doLot ∈ TBL := tbl_6 (i := 28) (by decide +kernel) (by decide +kernel)
theorem tw_875 : Cond.instanceMethod yX6_doLot ∈ TBL := tbl_6 (i := 30) (by decide +kernel) (by decide +kernel)
theorem tw_876 : Cond.selects RX6 yX6_doLot yX6_doLot ∈ TBL := tbl_sel (i := 61) (by decide +kernel) (by decide +kernel)
theorem vw_RX6_268 : VW RX6 268 RX6 yX6_doLot (.code yX6_doLot cX6_doLot 6 none) 1 := ⟨good_V tw_874 tw_875 tw_876 tw_623 tw_873, by decide +kernel⟩
theorem tw_878 : Cond.constantLong RX6 260 20 ∈ TBL := tbl_6 (i := 24) (by decide +kernel) (by decide +kernel)
theorem tw_879 : Cond.constantLong RX6 262 2147483646 ∈ TBL := tbl_6 (i := 25) (by decide +kernel) (by decide +kernel)
theorem tw_880 : Cond.constantLong RX6 281 8 ∈ TBL := tbl_6 (i := 50) (by decide +kernel) (by decide +kernel)
theorem tw_881 : Cond.code yX6_countOf cX6_countOf 2 (some .int) ∈ TBL := tbl_6 (i := 54) (by decide +kernel) (by decide +kernel)
theorem tw_882 : Cond.methodLink RX6 283 yX6_countOf ∈ TBL := tbl_6 (i := 51) (by decide +kernel) (by decide +kernel)
theorem tw_883 : Cond.instanceMethod yX6_countOf ∈ TBL := tbl_6 (i := 53) (by decide +kernel) (by decide +kernel)
theorem tw_884 : Cond.selects RX6 yX6_countOf yX6_countOf ∈ TBL := tbl_sel (i := 62) (by decide +kernel) (by decide +kernel)
theorem vw_RX6_283 : VW RX6 283 RX6 yX6_countOf (.code yX6_countOf cX6_countOf 2 (some .int)) 1 := ⟨good_V tw_882 tw_883 tw_884 tw_623 tw_881, by decide +kernel⟩
theorem tw_886 : Cond.constantLong RX6 288 31 ∈ TBL := tbl_6 (i := 80) (by decide +kernel) (by decide +kernel)
theorem tw_887 : Cond.constantLong RX6 286 17 ∈ TBL := tbl_6 (i := 79) (by decide +kernel) (by decide +kernel)
theorem tw_888 : Cond.code yX6_canAll cX6_canAll 1 (some .boolean) ∈ TBL := tbl_5 (i := 222) (by decide +kernel) (by decide +kernel)
theorem tw_889 : Cond.methodLink RX6 244 yX6_canAll ∈ TBL := tbl_5 (i := 219) (by decide +kernel) (by decide +kernel)
theorem tw_890 : Cond.instanceMethod yX6_canAll ∈ TBL := tbl_5 (i := 221) (by decide +kernel) (by decide +kernel)
theorem tw_891 : Cond.selects RX6 yX6_canAll yX6_canAll ∈ TBL := tbl_sel (i := 58) (by decide +kernel) (by decide +kernel)
theorem vw_RX6_244 : VW RX6 244 RX6 yX6_canAll (.code yX6_canAll cX6_canAll 1 (some .boolean)) 0 := ⟨good_V tw_889 tw_890 tw_891 tw_623 tw_888, by decide +kernel⟩
theorem tw_893 : Cond.code yX6_tellParts cX6_tellParts 11 (some .int) ∈ TBL := tbl_6 (i := 19) (by decide +kernel) (by decide +kernel)
theorem tw_894 : Cond.methodLink RX6 252 yX6_tellParts ∈ TBL := tbl_6 (i := 16) (by decide +kernel) (by decide +kernel)
theorem tw_895 : Cond.instanceMethod yX6_tellParts ∈ TBL := tbl_6 (i := 18) (by decide +kernel) (by decide +kernel)
theorem tw_896 : Cond.selects RX6 yX6_tellParts yX6_tellParts ∈ TBL := tbl_sel (i := 60) (by decide +kernel) (by decide +kernel)
theorem vw_RX6_252 : VW RX6 252 RX6 yX6_tellParts (.code yX6_tellParts cX6_tellParts 11 (some .int)) 2 := ⟨good_V tw_894 tw_895 tw_896 tw_623 tw_893, by decide +kernel⟩
theorem tw_898 : Cond.constantLong RX6 250 12 ∈ TBL := tbl_6 (i := 15) (by decide +kernel) (by decide +kernel)
end
