section
-- ===== PART A: goes FIRST, ahead of the names: the tables' words, and 'selects' of the private methods out of them =====
/-- a private method of a class that the tables say can be made, by its rows of tables_1 -/
def lw_okq (q : MethodName × Nat) : Prop := (q.1.cls ≠ "java/lang/invoke/MethodHandle" ∧ q.1.cls ≠ "java/lang/invoke/VarHandle") ∧ Cond.instantiable q.1.cls q.2 ∈ tables_1 ∧ Cond.privateMethod q.1 ∈ tables_1 ∧ Cond.instanceMethod q.1 ∈ tables_1
theorem lw_p0 : lw_okq (⟨"PawnLane", "found", "(I)I"⟩, 11) := ⟨⟨by decide +kernel, by decide +kernel⟩, List.mem_of_getElem? (i := 13) (by decide +kernel), List.mem_of_getElem? (i := 193) (by decide +kernel), List.mem_of_getElem? (i := 194) (by decide +kernel)⟩
theorem lw_p1 : lw_okq (⟨"PawnLane", "refusalOfPlace", "(LPawnLane$Sheets;II)I"⟩, 11) := ⟨⟨by decide +kernel, by decide +kernel⟩, List.mem_of_getElem? (i := 13) (by decide +kernel), List.mem_of_getElem? (i := 209) (by decide +kernel), List.mem_of_getElem? (i := 210) (by decide +kernel)⟩
theorem lw_p2 : lw_okq (⟨"PawnLane", "refusalOfSheet", "(LPawnLane$Sheets;I)I"⟩, 11) := ⟨⟨by decide +kernel, by decide +kernel⟩, List.mem_of_getElem? (i := 13) (by decide +kernel), List.mem_of_getElem? (i := 213) (by decide +kernel), List.mem_of_getElem? (i := 214) (by decide +kernel)⟩
theorem lw_p3 : lw_okq (⟨"PawnLane$Reader", "takes", "(I)Z"⟩, 5) := ⟨⟨by decide +kernel, by decide +kernel⟩, List.mem_of_getElem? (i := 41) (by decide +kernel), List.mem_of_getElem? (i := 288) (by decide +kernel), List.mem_of_getElem? (i := 289) (by decide +kernel)⟩
theorem lw_p4 : lw_okq (⟨"PawnLane$Reader", "beginsItem", "(I)Z"⟩, 5) := ⟨⟨by decide +kernel, by decide +kernel⟩, List.mem_of_getElem? (i := 41) (by decide +kernel), List.mem_of_getElem? (i := 292) (by decide +kernel), List.mem_of_getElem? (i := 293) (by decide +kernel)⟩
theorem lw_p5 : lw_okq (⟨"PawnLane$Reader", "takesOfShop", "(I)Z"⟩, 5) := ⟨⟨by decide +kernel, by decide +kernel⟩, List.mem_of_getElem? (i := 41) (by decide +kernel), List.mem_of_getElem? (i := 311) (by decide +kernel), List.mem_of_getElem? (i := 312) (by decide +kernel)⟩
theorem lw_p6 : lw_okq (⟨"PawnLane$Reader", "takesOfTicket", "(I)Z"⟩, 5) := ⟨⟨by decide +kernel, by decide +kernel⟩, List.mem_of_getElem? (i := 41) (by decide +kernel), List.mem_of_getElem? (i := 315) (by decide +kernel), List.mem_of_getElem? (i := 316) (by decide +kernel)⟩
theorem lw_p7 : lw_okq (⟨"PawnLane", "toldOfShop", "(II)I"⟩, 11) := ⟨⟨by decide +kernel, by decide +kernel⟩, List.mem_of_getElem? (i := 13) (by decide +kernel), List.mem_of_getElem? (i := 348) (by decide +kernel), List.mem_of_getElem? (i := 349) (by decide +kernel)⟩
theorem lw_p8 : lw_okq (⟨"PawnLane$Orders", "isLeft", "(II)Z"⟩, 6) := ⟨⟨by decide +kernel, by decide +kernel⟩, List.mem_of_getElem? (i := 126) (by decide +kernel), List.mem_of_getElem? (i := 406) (by decide +kernel), List.mem_of_getElem? (i := 407) (by decide +kernel)⟩
theorem lw_p9 : lw_okq (⟨"PawnLane$Lane", "pay", "(III)V"⟩, 8) := ⟨⟨by decide +kernel, by decide +kernel⟩, List.mem_of_getElem? (i := 47) (by decide +kernel), List.mem_of_getElem? (i := 442) (by decide +kernel), List.mem_of_getElem? (i := 443) (by decide +kernel)⟩
theorem lw_p10 : lw_okq (⟨"PawnLane$Lane", "ageTickets", "(I)V"⟩, 8) := ⟨⟨by decide +kernel, by decide +kernel⟩, List.mem_of_getElem? (i := 47) (by decide +kernel), List.mem_of_getElem? (i := 472) (by decide +kernel), List.mem_of_getElem? (i := 473) (by decide +kernel)⟩
theorem lw_p11 : lw_okq (⟨"PawnLane", "firstOrderTo", "(II)I"⟩, 11) := ⟨⟨by decide +kernel, by decide +kernel⟩, List.mem_of_getElem? (i := 13) (by decide +kernel), List.mem_of_getElem? (i := 589) (by decide +kernel), List.mem_of_getElem? (i := 590) (by decide +kernel)⟩
theorem lw_p12 : lw_okq (⟨"PawnLane$Orders", "stepsBy", "(II)I"⟩, 6) := ⟨⟨by decide +kernel, by decide +kernel⟩, List.mem_of_getElem? (i := 126) (by decide +kernel), List.mem_of_getElem? (i := 598) (by decide +kernel), List.mem_of_getElem? (i := 599) (by decide +kernel)⟩
theorem lw_p13 : lw_okq (⟨"PawnLane", "tell", "(JJ)V"⟩, 11) := ⟨⟨by decide +kernel, by decide +kernel⟩, List.mem_of_getElem? (i := 13) (by decide +kernel), List.mem_of_getElem? (i := 627) (by decide +kernel), List.mem_of_getElem? (i := 628) (by decide +kernel)⟩
theorem lw_p14 : lw_okq (⟨"PawnLane$Orders", "spreadNeed", "(II)V"⟩, 6) := ⟨⟨by decide +kernel, by decide +kernel⟩, List.mem_of_getElem? (i := 126) (by decide +kernel), List.mem_of_getElem? (i := 654) (by decide +kernel), List.mem_of_getElem? (i := 655) (by decide +kernel)⟩
theorem lw_p15 : lw_okq (⟨"PawnLane", "refusalOfOrder", "(I)I"⟩, 11) := ⟨⟨by decide +kernel, by decide +kernel⟩, List.mem_of_getElem? (i := 13) (by decide +kernel), List.mem_of_getElem? (i := 671) (by decide +kernel), List.mem_of_getElem? (i := 672) (by decide +kernel)⟩
def lw_privs_1 : List (MethodName × Nat) := [(⟨"PawnLane", "found", "(I)I"⟩, 11), (⟨"PawnLane", "refusalOfPlace", "(LPawnLane$Sheets;II)I"⟩, 11), (⟨"PawnLane", "refusalOfSheet", "(LPawnLane$Sheets;I)I"⟩, 11), (⟨"PawnLane$Reader", "takes", "(I)Z"⟩, 5), (⟨"PawnLane$Reader", "beginsItem", "(I)Z"⟩, 5), (⟨"PawnLane$Reader", "takesOfShop", "(I)Z"⟩, 5), (⟨"PawnLane$Reader", "takesOfTicket", "(I)Z"⟩, 5), (⟨"PawnLane", "toldOfShop", "(II)I"⟩, 11), (⟨"PawnLane$Orders", "isLeft", "(II)Z"⟩, 6), (⟨"PawnLane$Lane", "pay", "(III)V"⟩, 8), (⟨"PawnLane$Lane", "ageTickets", "(I)V"⟩, 8), (⟨"PawnLane", "firstOrderTo", "(II)I"⟩, 11), (⟨"PawnLane$Orders", "stepsBy", "(II)I"⟩, 6), (⟨"PawnLane", "tell", "(JJ)V"⟩, 11), (⟨"PawnLane$Orders", "spreadNeed", "(II)V"⟩, 6), (⟨"PawnLane", "refusalOfOrder", "(I)I"⟩, 11)]
theorem lw_r1 : ∀ q ∈ lw_privs_1, lw_okq q := List.forall_mem_cons.mpr ⟨lw_p0, List.forall_mem_cons.mpr ⟨lw_p1, List.forall_mem_cons.mpr ⟨lw_p2, List.forall_mem_cons.mpr ⟨lw_p3, List.forall_mem_cons.mpr ⟨lw_p4, List.forall_mem_cons.mpr ⟨lw_p5, List.forall_mem_cons.mpr ⟨lw_p6, List.forall_mem_cons.mpr ⟨lw_p7, List.forall_mem_cons.mpr ⟨lw_p8, List.forall_mem_cons.mpr ⟨lw_p9, List.forall_mem_cons.mpr ⟨lw_p10, List.forall_mem_cons.mpr ⟨lw_p11, List.forall_mem_cons.mpr ⟨lw_p12, List.forall_mem_cons.mpr ⟨lw_p13, List.forall_mem_cons.mpr ⟨lw_p14, List.forall_mem_cons.mpr ⟨lw_p15, fun _ h => absurd h List.not_mem_nil⟩⟩⟩⟩⟩⟩⟩⟩⟩⟩⟩⟩⟩⟩⟩⟩
theorem lw_p16 : lw_okq (⟨"PawnLane", "refusalOfAside", "(I)I"⟩, 11) := ⟨⟨by decide +kernel, by decide +kernel⟩, List.mem_of_getElem? (i := 13) (by decide +kernel), List.mem_of_getElem? (i := 675) (by decide +kernel), List.mem_of_getElem? (i := 676) (by decide +kernel)⟩
theorem lw_p17 : lw_okq (⟨"PawnLane$Lane", "ruinsHolder", "(I)Z"⟩, 8) := ⟨⟨by decide +kernel, by decide +kernel⟩, List.mem_of_getElem? (i := 47) (by decide +kernel), List.mem_of_getElem? (i := 693) (by decide +kernel), List.mem_of_getElem? (i := 694) (by decide +kernel)⟩
theorem lw_p18 : lw_okq (⟨"PawnLane", "refusalOfSets", "(I)I"⟩, 11) := ⟨⟨by decide +kernel, by decide +kernel⟩, List.mem_of_getElem? (i := 13) (by decide +kernel), List.mem_of_getElem? (i := 701) (by decide +kernel), List.mem_of_getElem? (i := 702) (by decide +kernel)⟩
theorem lw_p19 : lw_okq (⟨"PawnLane", "counted", "(I)I"⟩, 11) := ⟨⟨by decide +kernel, by decide +kernel⟩, List.mem_of_getElem? (i := 13) (by decide +kernel), List.mem_of_getElem? (i := 753) (by decide +kernel), List.mem_of_getElem? (i := 754) (by decide +kernel)⟩
theorem lw_p20 : lw_okq (⟨"PawnLane", "keptLanes", "()I"⟩, 11) := ⟨⟨by decide +kernel, by decide +kernel⟩, List.mem_of_getElem? (i := 13) (by decide +kernel), List.mem_of_getElem? (i := 771) (by decide +kernel), List.mem_of_getElem? (i := 772) (by decide +kernel)⟩
theorem lw_p21 : lw_okq (⟨"PawnLaneModel", "find", "(I)I"⟩, 26) := ⟨⟨by decide +kernel, by decide +kernel⟩, List.mem_of_getElem? (i := 794) (by decide +kernel), List.mem_of_getElem? (i := 891) (by decide +kernel), List.mem_of_getElem? (i := 892) (by decide +kernel)⟩
theorem lw_p22 : lw_okq (⟨"PawnLaneModel", "makeRow", "(II)V"⟩, 26) := ⟨⟨by decide +kernel, by decide +kernel⟩, List.mem_of_getElem? (i := 794) (by decide +kernel), List.mem_of_getElem? (i := 895) (by decide +kernel), List.mem_of_getElem? (i := 896) (by decide +kernel)⟩
theorem lw_p23 : lw_okq (⟨"PawnLaneModel", "refused", "(II)I"⟩, 26) := ⟨⟨by decide +kernel, by decide +kernel⟩, List.mem_of_getElem? (i := 794) (by decide +kernel), List.mem_of_getElem? (i := 903) (by decide +kernel), List.mem_of_getElem? (i := 904) (by decide +kernel)⟩
theorem lw_p24 : lw_okq (⟨"PawnLaneModel", "tell", "(I)I"⟩, 26) := ⟨⟨by decide +kernel, by decide +kernel⟩, List.mem_of_getElem? (i := 794) (by decide +kernel), List.mem_of_getElem? (i := 907) (by decide +kernel), List.mem_of_getElem? (i := 908) (by decide +kernel)⟩
theorem lw_p25 : lw_okq (⟨"PawnLaneModel", "isSpan", "(III)Z"⟩, 26) := ⟨⟨by decide +kernel, by decide +kernel⟩, List.mem_of_getElem? (i := 794) (by decide +kernel), List.mem_of_getElem? (i := 923) (by decide +kernel), List.mem_of_getElem? (i := 924) (by decide +kernel)⟩
theorem lw_p26 : lw_okq (⟨"PawnLaneModel", "faultOf", "(I)I"⟩, 26) := ⟨⟨by decide +kernel, by decide +kernel⟩, List.mem_of_getElem? (i := 794) (by decide +kernel), List.mem_of_getElem? (i := 947) (by decide +kernel), List.mem_of_getElem? (i := 948) (by decide +kernel)⟩
theorem lw_p27 : lw_okq (⟨"PawnLaneModel", "skip", "()V"⟩, 26) := ⟨⟨by decide +kernel, by decide +kernel⟩, List.mem_of_getElem? (i := 794) (by decide +kernel), List.mem_of_getElem? (i := 951) (by decide +kernel), List.mem_of_getElem? (i := 952) (by decide +kernel)⟩
theorem lw_p28 : lw_okq (⟨"PawnLaneModel", "here", "()I"⟩, 26) := ⟨⟨by decide +kernel, by decide +kernel⟩, List.mem_of_getElem? (i := 794) (by decide +kernel), List.mem_of_getElem? (i := 955) (by decide +kernel), List.mem_of_getElem? (i := 956) (by decide +kernel)⟩
theorem lw_p29 : lw_okq (⟨"PawnLaneModel", "readsTicket", "()Z"⟩, 26) := ⟨⟨by decide +kernel, by decide +kernel⟩, List.mem_of_getElem? (i := 794) (by decide +kernel), List.mem_of_getElem? (i := 959) (by decide +kernel), List.mem_of_getElem? (i := 960) (by decide +kernel)⟩
theorem lw_p30 : lw_okq (⟨"PawnLaneModel", "figure", "(III)I"⟩, 26) := ⟨⟨by decide +kernel, by decide +kernel⟩, List.mem_of_getElem? (i := 794) (by decide +kernel), List.mem_of_getElem? (i := 963) (by decide +kernel), List.mem_of_getElem? (i := 964) (by decide +kernel)⟩
theorem lw_p31 : lw_okq (⟨"PawnLaneModel", "readsShop", "()Z"⟩, 26) := ⟨⟨by decide +kernel, by decide +kernel⟩, List.mem_of_getElem? (i := 794) (by decide +kernel), List.mem_of_getElem? (i := 967) (by decide +kernel), List.mem_of_getElem? (i := 968) (by decide +kernel)⟩
def lw_privs_2 : List (MethodName × Nat) := [(⟨"PawnLane", "refusalOfAside", "(I)I"⟩, 11), (⟨"PawnLane$Lane", "ruinsHolder", "(I)Z"⟩, 8), (⟨"PawnLane", "refusalOfSets", "(I)I"⟩, 11), (⟨"PawnLane", "counted", "(I)I"⟩, 11), (⟨"PawnLane", "keptLanes", "()I"⟩, 11), (⟨"PawnLaneModel", "find", "(I)I"⟩, 26), (⟨"PawnLaneModel", "makeRow", "(II)V"⟩, 26), (⟨"PawnLaneModel", "refused", "(II)I"⟩, 26), (⟨"PawnLaneModel", "tell", "(I)I"⟩, 26), (⟨"PawnLaneModel", "isSpan", "(III)Z"⟩, 26), (⟨"PawnLaneModel", "faultOf", "(I)I"⟩, 26), (⟨"PawnLaneModel", "skip", "()V"⟩, 26), (⟨"PawnLaneModel", "here", "()I"⟩, 26), (⟨"PawnLaneModel", "readsTicket", "()Z"⟩, 26), (⟨"PawnLaneModel", "figure", "(III)I"⟩, 26), (⟨"PawnLaneModel", "readsShop", "()Z"⟩, 26)]
theorem lw_r2 : ∀ q ∈ lw_privs_2, lw_okq q := List.forall_mem_cons.mpr ⟨lw_p16, List.forall_mem_cons.mpr ⟨lw_p17, List.forall_mem_cons.mpr ⟨lw_p18, List.forall_mem_cons.mpr ⟨lw_p19, List.forall_mem_cons.mpr ⟨lw_p20, List.forall_mem_cons.mpr ⟨lw_p21, List.forall_mem_cons.mpr ⟨lw_p22, List.forall_mem_cons.mpr ⟨lw_p23, List.forall_mem_cons.mpr ⟨lw_p24, List.forall_mem_cons.mpr ⟨lw_p25, List.forall_mem_cons.mpr ⟨lw_p26, List.forall_mem_cons.mpr ⟨lw_p27, List.forall_mem_cons.mpr ⟨lw_p28, List.forall_mem_cons.mpr ⟨lw_p29, List.forall_mem_cons.mpr ⟨lw_p30, List.forall_mem_cons.mpr ⟨lw_p31, fun _ h => absurd h List.not_mem_nil⟩⟩⟩⟩⟩⟩⟩⟩⟩⟩⟩⟩⟩⟩⟩⟩
theorem lw_p32 : lw_okq (⟨"PawnLaneModel", "isShop", "(I)Z"⟩, 26) := ⟨⟨by decide +kernel, by decide +kernel⟩, List.mem_of_getElem? (i := 794) (by decide +kernel), List.mem_of_getElem? (i := 982) (by decide +kernel), List.mem_of_getElem? (i := 983) (by decide +kernel)⟩
theorem lw_p33 : lw_okq (⟨"PawnLaneModel", "toldOf", "(II)I"⟩, 26) := ⟨⟨by decide +kernel, by decide +kernel⟩, List.mem_of_getElem? (i := 794) (by decide +kernel), List.mem_of_getElem? (i := 987) (by decide +kernel), List.mem_of_getElem? (i := 988) (by decide +kernel)⟩
theorem lw_p34 : lw_okq (⟨"PawnLaneModel", "dueIn", "(II)I"⟩, 26) := ⟨⟨by decide +kernel, by decide +kernel⟩, List.mem_of_getElem? (i := 794) (by decide +kernel), List.mem_of_getElem? (i := 991) (by decide +kernel), List.mem_of_getElem? (i := 992) (by decide +kernel)⟩
theorem lw_p35 : lw_okq (⟨"PawnLaneModel", "isPawned", "(I)Z"⟩, 26) := ⟨⟨by decide +kernel, by decide +kernel⟩, List.mem_of_getElem? (i := 794) (by decide +kernel), List.mem_of_getElem? (i := 995) (by decide +kernel), List.mem_of_getElem? (i := 996) (by decide +kernel)⟩
theorem lw_p36 : lw_okq (⟨"PawnLaneModel", "heldBy", "(I)I"⟩, 26) := ⟨⟨by decide +kernel, by decide +kernel⟩, List.mem_of_getElem? (i := 794) (by decide +kernel), List.mem_of_getElem? (i := 999) (by decide +kernel), List.mem_of_getElem? (i := 1000) (by decide +kernel)⟩
theorem lw_p37 : lw_okq (⟨"PawnLaneModel", "isOf", "(II)Z"⟩, 26) := ⟨⟨by decide +kernel, by decide +kernel⟩, List.mem_of_getElem? (i := 794) (by decide +kernel), List.mem_of_getElem? (i := 1007) (by decide +kernel), List.mem_of_getElem? (i := 1008) (by decide +kernel)⟩
theorem lw_p38 : lw_okq (⟨"PawnLaneModel", "loansTo", "(I)I"⟩, 26) := ⟨⟨by decide +kernel, by decide +kernel⟩, List.mem_of_getElem? (i := 794) (by decide +kernel), List.mem_of_getElem? (i := 1011) (by decide +kernel), List.mem_of_getElem? (i := 1012) (by decide +kernel)⟩
theorem lw_p39 : lw_okq (⟨"PawnLaneModel", "dueTo", "(II)I"⟩, 26) := ⟨⟨by decide +kernel, by decide +kernel⟩, List.mem_of_getElem? (i := 794) (by decide +kernel), List.mem_of_getElem? (i := 1015) (by decide +kernel), List.mem_of_getElem? (i := 1016) (by decide +kernel)⟩
theorem lw_p40 : lw_okq (⟨"PawnLaneModel", "canNow", "()I"⟩, 26) := ⟨⟨by decide +kernel, by decide +kernel⟩, List.mem_of_getElem? (i := 794) (by decide +kernel), List.mem_of_getElem? (i := 1022) (by decide +kernel), List.mem_of_getElem? (i := 1023) (by decide +kernel)⟩
theorem lw_p41 : lw_okq (⟨"PawnLaneModel", "doRedeem", "(I)I"⟩, 26) := ⟨⟨by decide +kernel, by decide +kernel⟩, List.mem_of_getElem? (i := 794) (by decide +kernel), List.mem_of_getElem? (i := 1038) (by decide +kernel), List.mem_of_getElem? (i := 1039) (by decide +kernel)⟩
theorem lw_p42 : lw_okq (⟨"PawnLaneModel", "keepPast", "()V"⟩, 26) := ⟨⟨by decide +kernel, by decide +kernel⟩, List.mem_of_getElem? (i := 794) (by decide +kernel), List.mem_of_getElem? (i := 1042) (by decide +kernel), List.mem_of_getElem? (i := 1043) (by decide +kernel)⟩
theorem lw_p43 : lw_okq (⟨"PawnLaneModel", "doPawn", "(III)V"⟩, 26) := ⟨⟨by decide +kernel, by decide +kernel⟩, List.mem_of_getElem? (i := 794) (by decide +kernel), List.mem_of_getElem? (i := 1050) (by decide +kernel), List.mem_of_getElem? (i := 1051) (by decide +kernel)⟩
theorem lw_p44 : lw_okq (⟨"PawnLaneModel", "pawned", "()I"⟩, 26) := ⟨⟨by decide +kernel, by decide +kernel⟩, List.mem_of_getElem? (i := 794) (by decide +kernel), List.mem_of_getElem? (i := 1054) (by decide +kernel), List.mem_of_getElem? (i := 1055) (by decide +kernel)⟩
theorem lw_p45 : lw_okq (⟨"PawnLaneModel", "isOld", "()Z"⟩, 26) := ⟨⟨by decide +kernel, by decide +kernel⟩, List.mem_of_getElem? (i := 794) (by decide +kernel), List.mem_of_getElem? (i := 1062) (by decide +kernel), List.mem_of_getElem? (i := 1063) (by decide +kernel)⟩
theorem lw_p46 : lw_okq (⟨"PawnLaneModel", "doWeek", "()V"⟩, 26) := ⟨⟨by decide +kernel, by decide +kernel⟩, List.mem_of_getElem? (i := 794) (by decide +kernel), List.mem_of_getElem? (i := 1066) (by decide +kernel), List.mem_of_getElem? (i := 1067) (by decide +kernel)⟩
theorem lw_p47 : lw_okq (⟨"PawnLaneModel", "dueInAll", "()I"⟩, 26) := ⟨⟨by decide +kernel, by decide +kernel⟩, List.mem_of_getElem? (i := 794) (by decide +kernel), List.mem_of_getElem? (i := 1070) (by decide +kernel), List.mem_of_getElem? (i := 1071) (by decide +kernel)⟩
def lw_privs_3 : List (MethodName × Nat) := [(⟨"PawnLaneModel", "isShop", "(I)Z"⟩, 26), (⟨"PawnLaneModel", "toldOf", "(II)I"⟩, 26), (⟨"PawnLaneModel", "dueIn", "(II)I"⟩, 26), (⟨"PawnLaneModel", "isPawned", "(I)Z"⟩, 26), (⟨"PawnLaneModel", "heldBy", "(I)I"⟩, 26), (⟨"PawnLaneModel", "isOf", "(II)Z"⟩, 26), (⟨"PawnLaneModel", "loansTo", "(I)I"⟩, 26), (⟨"PawnLaneModel", "dueTo", "(II)I"⟩, 26), (⟨"PawnLaneModel", "canNow", "()I"⟩, 26), (⟨"PawnLaneModel", "doRedeem", "(I)I"⟩, 26), (⟨"PawnLaneModel", "keepPast", "()V"⟩, 26), (⟨"PawnLaneModel", "doPawn", "(III)V"⟩, 26), (⟨"PawnLaneModel", "pawned", "()I"⟩, 26), (⟨"PawnLaneModel", "isOld", "()Z"⟩, 26), (⟨"PawnLaneModel", "doWeek", "()V"⟩, 26), (⟨"PawnLaneModel", "dueInAll", "()I"⟩, 26)]
theorem lw_r3 : ∀ q ∈ lw_privs_3, lw_okq q := List.forall_mem_cons.mpr ⟨lw_p32, List.forall_mem_cons.mpr ⟨lw_p33, List.forall_mem_cons.mpr ⟨lw_p34, List.forall_mem_cons.mpr ⟨lw_p35, List.forall_mem_cons.mpr ⟨lw_p36, List.forall_mem_cons.mpr ⟨lw_p37, List.forall_mem_cons.mpr ⟨lw_p38, List.forall_mem_cons.mpr ⟨lw_p39, List.forall_mem_cons.mpr ⟨lw_p40, List.forall_mem_cons.mpr ⟨lw_p41, List.forall_mem_cons.mpr ⟨lw_p42, List.forall_mem_cons.mpr ⟨lw_p43, List.forall_mem_cons.mpr ⟨lw_p44, List.forall_mem_cons.mpr ⟨lw_p45, List.forall_mem_cons.mpr ⟨lw_p46, List.forall_mem_cons.mpr ⟨lw_p47, fun _ h => absurd h List.not_mem_nil⟩⟩⟩⟩⟩⟩⟩⟩⟩⟩⟩⟩⟩⟩⟩⟩
theorem lw_p48 : lw_okq (⟨"PawnLaneModel", "doGive", "(II)I"⟩, 26) := ⟨⟨by decide +kernel, by decide +kernel⟩, List.mem_of_getElem? (i := 794) (by decide +kernel), List.mem_of_getElem? (i := 1079) (by decide +kernel), List.mem_of_getElem? (i := 1080) (by decide +kernel)⟩
theorem lw_p49 : lw_okq (⟨"PawnLaneModel", "copyLane", "(II)V"⟩, 26) := ⟨⟨by decide +kernel, by decide +kernel⟩, List.mem_of_getElem? (i := 794) (by decide +kernel), List.mem_of_getElem? (i := 1092) (by decide +kernel), List.mem_of_getElem? (i := 1093) (by decide +kernel)⟩
theorem lw_p50 : lw_okq (⟨"PawnLaneModel", "insideOf", "(I)I"⟩, 26) := ⟨⟨by decide +kernel, by decide +kernel⟩, List.mem_of_getElem? (i := 794) (by decide +kernel), List.mem_of_getElem? (i := 1108) (by decide +kernel), List.mem_of_getElem? (i := 1109) (by decide +kernel)⟩
theorem lw_p51 : lw_okq (⟨"PawnLaneModel", "ringOf", "(I)I"⟩, 26) := ⟨⟨by decide +kernel, by decide +kernel⟩, List.mem_of_getElem? (i := 794) (by decide +kernel), List.mem_of_getElem? (i := 1116) (by decide +kernel), List.mem_of_getElem? (i := 1117) (by decide +kernel)⟩
theorem lw_p52 : lw_okq (⟨"PawnLaneModel", "layTried", "(II)V"⟩, 26) := ⟨⟨by decide +kernel, by decide +kernel⟩, List.mem_of_getElem? (i := 794) (by decide +kernel), List.mem_of_getElem? (i := 1144) (by decide +kernel), List.mem_of_getElem? (i := 1145) (by decide +kernel)⟩
theorem lw_p53 : lw_okq (⟨"PawnLaneModel", "layOn", "()V"⟩, 26) := ⟨⟨by decide +kernel, by decide +kernel⟩, List.mem_of_getElem? (i := 794) (by decide +kernel), List.mem_of_getElem? (i := 1148) (by decide +kernel), List.mem_of_getElem? (i := 1149) (by decide +kernel)⟩
theorem lw_p54 : lw_okq (⟨"PawnLaneModel", "next", "(II)Z"⟩, 26) := ⟨⟨by decide +kernel, by decide +kernel⟩, List.mem_of_getElem? (i := 794) (by decide +kernel), List.mem_of_getElem? (i := 1152) (by decide +kernel), List.mem_of_getElem? (i := 1153) (by decide +kernel)⟩
theorem lw_p55 : lw_okq (⟨"PawnLaneModel", "cashBy", "(II)I"⟩, 26) := ⟨⟨by decide +kernel, by decide +kernel⟩, List.mem_of_getElem? (i := 794) (by decide +kernel), List.mem_of_getElem? (i := 1156) (by decide +kernel), List.mem_of_getElem? (i := 1157) (by decide +kernel)⟩
theorem lw_p56 : lw_okq (⟨"PawnLaneModel", "layWays", "()V"⟩, 26) := ⟨⟨by decide +kernel, by decide +kernel⟩, List.mem_of_getElem? (i := 794) (by decide +kernel), List.mem_of_getElem? (i := 1164) (by decide +kernel), List.mem_of_getElem? (i := 1165) (by decide +kernel)⟩
theorem lw_p57 : lw_okq (⟨"PawnLaneModel", "tellMany", "(J)I"⟩, 26) := ⟨⟨by decide +kernel, by decide +kernel⟩, List.mem_of_getElem? (i := 794) (by decide +kernel), List.mem_of_getElem? (i := 1168) (by decide +kernel), List.mem_of_getElem? (i := 1169) (by decide +kernel)⟩
theorem lw_p58 : lw_okq (⟨"PawnLaneModel", "canAll", "()Z"⟩, 26) := ⟨⟨by decide +kernel, by decide +kernel⟩, List.mem_of_getElem? (i := 794) (by decide +kernel), List.mem_of_getElem? (i := 1180) (by decide +kernel), List.mem_of_getElem? (i := 1181) (by decide +kernel)⟩
theorem lw_p59 : lw_okq (⟨"PawnLaneModel", "noRow", "(III)I"⟩, 26) := ⟨⟨by decide +kernel, by decide +kernel⟩, List.mem_of_getElem? (i := 794) (by decide +kernel), List.mem_of_getElem? (i := 1196) (by decide +kernel), List.mem_of_getElem? (i := 1197) (by decide +kernel)⟩
theorem lw_p60 : lw_okq (⟨"PawnLaneModel", "tellParts", "(JJ)I"⟩, 26) := ⟨⟨by decide +kernel, by decide +kernel⟩, List.mem_of_getElem? (i := 794) (by decide +kernel), List.mem_of_getElem? (i := 1217) (by decide +kernel), List.mem_of_getElem? (i := 1218) (by decide +kernel)⟩
theorem lw_p61 : lw_okq (⟨"PawnLaneModel", "doLot", "(J)V"⟩, 26) := ⟨⟨by decide +kernel, by decide +kernel⟩, List.mem_of_getElem? (i := 794) (by decide +kernel), List.mem_of_getElem? (i := 1229) (by decide +kernel), List.mem_of_getElem? (i := 1230) (by decide +kernel)⟩
theorem lw_p62 : lw_okq (⟨"PawnLaneModel", "countOf", "(I)I"⟩, 26) := ⟨⟨by decide +kernel, by decide +kernel⟩, List.mem_of_getElem? (i := 794) (by decide +kernel), List.mem_of_getElem? (i := 1252) (by decide +kernel), List.mem_of_getElem? (i := 1253) (by decide +kernel)⟩
theorem lw_p63 : lw_okq (⟨"PawnLaneModel", "cashOfAll", "()I"⟩, 26) := ⟨⟨by decide +kernel, by decide +kernel⟩, List.mem_of_getElem? (i := 794) (by decide +kernel), List.mem_of_getElem? (i := 1256) (by decide +kernel), List.mem_of_getElem? (i := 1257) (by decide +kernel)⟩
def lw_privs_4 : List (MethodName × Nat) := [(⟨"PawnLaneModel", "doGive", "(II)I"⟩, 26), (⟨"PawnLaneModel", "copyLane", "(II)V"⟩, 26), (⟨"PawnLaneModel", "insideOf", "(I)I"⟩, 26), (⟨"PawnLaneModel", "ringOf", "(I)I"⟩, 26), (⟨"PawnLaneModel", "layTried", "(II)V"⟩, 26), (⟨"PawnLaneModel", "layOn", "()V"⟩, 26), (⟨"PawnLaneModel", "next", "(II)Z"⟩, 26), (⟨"PawnLaneModel", "cashBy", "(II)I"⟩, 26), (⟨"PawnLaneModel", "layWays", "()V"⟩, 26), (⟨"PawnLaneModel", "tellMany", "(J)I"⟩, 26), (⟨"PawnLaneModel", "canAll", "()Z"⟩, 26), (⟨"PawnLaneModel", "noRow", "(III)I"⟩, 26), (⟨"PawnLaneModel", "tellParts", "(JJ)I"⟩, 26), (⟨"PawnLaneModel", "doLot", "(J)V"⟩, 26), (⟨"PawnLaneModel", "countOf", "(I)I"⟩, 26), (⟨"PawnLaneModel", "cashOfAll", "()I"⟩, 26)]
theorem lw_r4 : ∀ q ∈ lw_privs_4, lw_okq q := List.forall_mem_cons.mpr ⟨lw_p48, List.forall_mem_cons.mpr ⟨lw_p49, List.forall_mem_cons.mpr ⟨lw_p50, List.forall_mem_cons.mpr ⟨lw_p51, List.forall_mem_cons.mpr ⟨lw_p52, List.forall_mem_cons.mpr ⟨lw_p53, List.forall_mem_cons.mpr ⟨lw_p54, List.forall_mem_cons.mpr ⟨lw_p55, List.forall_mem_cons.mpr ⟨lw_p56, List.forall_mem_cons.mpr ⟨lw_p57, List.forall_mem_cons.mpr ⟨lw_p58, List.forall_mem_cons.mpr ⟨lw_p59, List.forall_mem_cons.mpr ⟨lw_p60, List.forall_mem_cons.mpr ⟨lw_p61, List.forall_mem_cons.mpr ⟨lw_p62, List.forall_mem_cons.mpr ⟨lw_p63, fun _ h => absurd h List.not_mem_nil⟩⟩⟩⟩⟩⟩⟩⟩⟩⟩⟩⟩⟩⟩⟩⟩
theorem lw_p64 : lw_okq (⟨"PawnLaneModel", "hawks", "()I"⟩, 26) := ⟨⟨by decide +kernel, by decide +kernel⟩, List.mem_of_getElem? (i := 794) (by decide +kernel), List.mem_of_getElem? (i := 1260) (by decide +kernel), List.mem_of_getElem? (i := 1261) (by decide +kernel)⟩
theorem lw_p65 : lw_okq (⟨"PawnLaneModel", "thereOf", "(I)I"⟩, 26) := ⟨⟨by decide +kernel, by decide +kernel⟩, List.mem_of_getElem? (i := 794) (by decide +kernel), List.mem_of_getElem? (i := 1264) (by decide +kernel), List.mem_of_getElem? (i := 1265) (by decide +kernel)⟩
def lw_privs_5 : List (MethodName × Nat) := [(⟨"PawnLaneModel", "hawks", "()I"⟩, 26), (⟨"PawnLaneModel", "thereOf", "(I)I"⟩, 26)]
theorem lw_r5 : ∀ q ∈ lw_privs_5, lw_okq q := List.forall_mem_cons.mpr ⟨lw_p64, List.forall_mem_cons.mpr ⟨lw_p65, fun _ h => absurd h List.not_mem_nil⟩⟩
def lw_privs : List (MethodName × Nat) := lw_privs_1 ++ (lw_privs_2 ++ (lw_privs_3 ++ (lw_privs_4 ++ (lw_privs_5))))
def lw_tbl : List Cond := k2_sels lw_privs ++ tables_1
theorem lw_privs_ok : ∀ q ∈ lw_privs, lw_okq q := by
  show ∀ q ∈ lw_privs_1 ++ (lw_privs_2 ++ (lw_privs_3 ++ (lw_privs_4 ++ (lw_privs_5)))), lw_okq q
  exact List.forall_mem_append.mpr ⟨lw_r1, List.forall_mem_append.mpr ⟨lw_r2, List.forall_mem_append.mpr ⟨lw_r3, List.forall_mem_append.mpr ⟨lw_r4, lw_r5⟩⟩⟩⟩
-- ===== end of PART A; then your names; then what follows =====
end
section
/-! ===== BEGIN printed: names, fields, word lists, decode rows ===== -/
def RX0 : String := "PawnLane$Deeds"
def TX0 : u_T := fun k => match k with
  | 0 => ("PawnLane$Deeds", "packed", "[I", true)
  | _ => ("PawnLane$Deeds", "size", "I", false)
def tyX0 : Nat → FieldType := fun k => match k with
  | 0 => .array .int
  | _ => .int
abbrev wsX00 : List Cond := u_ws RX0 TX0 2
theorem nmX0 : ∀ a, a < 2 → ∀ b, b < 2 → a ≠ b → (TX0 a).2.1 ≠ (TX0 b).2.1 := by decide +kernel
theorem tyX0_ok : ∀ k, k < 2 → parseFieldDescriptor (TX0 k).2.2.1 = some (tyX0 k) := by decide +kernel
abbrev cX0_init : ByteArray := prog_2_method_1_code
def yX0_init : MethodName := ⟨RX0, "<init>", "()V"⟩
abbrev cX0_hasRoom : ByteArray := prog_2_method_2_code
def yX0_hasRoom : MethodName := ⟨RX0, "hasRoom", "(I)Z"⟩
abbrev cX0_add : ByteArray := prog_2_method_3_code
def yX0_add : MethodName := ⟨RX0, "add", "(IIIII)V"⟩
abbrev cX0_removeLast : ByteArray := prog_2_method_4_code
def yX0_removeLast : MethodName := ⟨RX0, "removeLast", "()V"⟩
abbrev cX0_becomeLike : ByteArray := prog_2_method_5_code
def yX0_becomeLike : MethodName := ⟨RX0, "becomeLike", "(LPawnLane$Deeds;)V"⟩
abbrev cX0_whatOf : ByteArray := prog_2_method_6_code
def yX0_whatOf : MethodName := ⟨RX0, "whatOf", "(I)I"⟩
abbrev cX0_shopOf : ByteArray := prog_2_method_7_code
def yX0_shopOf : MethodName := ⟨RX0, "shopOf", "(I)I"⟩
abbrev cX0_otherOf : ByteArray := prog_2_method_8_code
def yX0_otherOf : MethodName := ⟨RX0, "otherOf", "(I)I"⟩
abbrev cX0_numberOf : ByteArray := prog_2_method_9_code
def yX0_numberOf : MethodName := ⟨RX0, "numberOf", "(I)I"⟩
abbrev cX0_weeksOf : ByteArray := prog_2_method_10_code
def yX0_weeksOf : MethodName := ⟨RX0, "weeksOf", "(I)I"⟩
def RX1 : String := "PawnLane$Lane"
def TX1 : u_T := fun k => match k with
  | 0 => ("PawnLane$Lane", "shops", "I", false)
  | 1 => ("PawnLane$Lane", "kind", "[I", true)
  | 2 => ("PawnLane$Lane", "cash", "[I", true)
  | 3 => ("PawnLane$Lane", "stock", "[I", true)
  | 4 => ("PawnLane$Lane", "holder", "[I", true)
  | 5 => ("PawnLane$Lane", "loan", "[I", true)
  | 6 => ("PawnLane$Lane", "weeks", "[I", true)
  | _ => ("PawnLane$Lane", "deeds", "LPawnLane$Deeds;", true)
def tyX1 : Nat → FieldType := fun k => match k with
  | 0 => .int
  | 1 => .array .int
  | 2 => .array .int
  | 3 => .array .int
  | 4 => .array .int
  | 5 => .array .int
  | 6 => .array .int
  | _ => .object "PawnLane$Deeds"
abbrev wsX10 : List Cond := u_ws RX1 TX1 8
theorem nmX1 : ∀ a, a < 8 → ∀ b, b < 8 → a ≠ b → (TX1 a).2.1 ≠ (TX1 b).2.1 := by decide +kernel
theorem tyX1_ok : ∀ k, k < 8 → parseFieldDescriptor (TX1 k).2.2.1 = some (tyX1 k) := by decide +kernel
abbrev cX1_init : ByteArray := prog_3_method_1_code
def yX1_init : MethodName := ⟨RX1, "<init>", "()V"⟩
abbrev cX1_clear : ByteArray := prog_3_method_2_code
def yX1_clear : MethodName := ⟨RX1, "clear", "()V"⟩
abbrev cX1_becomeLike : ByteArray := prog_3_method_3_code
def yX1_becomeLike : MethodName := ⟨RX1, "becomeLike", "(LPawnLane$Lane;)V"⟩
abbrev cX1_addShop : ByteArray := prog_3_method_4_code
def yX1_addShop : MethodName := ⟨RX1, "addShop", "(I)V"⟩
abbrev cX1_setTicket : ByteArray := prog_3_method_5_code
def yX1_setTicket : MethodName := ⟨RX1, "setTicket", "(IIII)V"⟩
abbrev cX1_removeTicket : ByteArray := prog_3_method_6_code
def yX1_removeTicket : MethodName := ⟨RX1, "removeTicket", "(I)V"⟩
abbrev cX1_isShop : ByteArray := prog_3_method_7_code
def yX1_isShop : MethodName := ⟨RX1, "isShop", "(I)Z"⟩
abbrev cX1_isPawned : ByteArray := prog_3_method_8_code
def yX1_isPawned : MethodName := ⟨RX1, "isPawned", "(I)Z"⟩
abbrev cX1_isHeldIn : ByteArray := prog_3_method_9_code
def yX1_isHeldIn : MethodName := ⟨RX1, "isHeldIn", "(II)Z"⟩
abbrev cX1_pawnedSet : ByteArray := prog_3_method_10_code
def yX1_pawnedSet : MethodName := ⟨RX1, "pawnedSet", "()I"⟩
abbrev cX1_heldBy : ByteArray := prog_3_method_11_code
def yX1_heldBy : MethodName := ⟨RX1, "heldBy", "(I)I"⟩
abbrev cX1_dueOf : ByteArray := prog_3_method_12_code
def yX1_dueOf : MethodName := ⟨RX1, "dueOf", "(II)I"⟩
abbrev cX1_dueTo : ByteArray := prog_3_method_13_code
def yX1_dueTo : MethodName := ⟨RX1, "dueTo", "(II)I"⟩
abbrev cX1_loansTo : ByteArray := prog_3_method_14_code
def yX1_loansTo : MethodName := ⟨RX1, "loansTo", "(I)I"⟩
abbrev cX1_dueInAll : ByteArray := prog_3_method_15_code
def yX1_dueInAll : MethodName := ⟨RX1, "dueInAll", "()I"⟩
abbrev cX1_cashInAll : ByteArray := prog_3_method_16_code
def yX1_cashInAll : MethodName := ⟨RX1, "cashInAll", "()I"⟩
abbrev cX1_stockOf : ByteArray := prog_3_method_17_code
def yX1_stockOf : MethodName := ⟨RX1, "stockOf", "(I)I"⟩
abbrev cX1_howManyOf : ByteArray := prog_3_method_18_code
def yX1_howManyOf : MethodName := ⟨RX1, "howManyOf", "(I)I"⟩
abbrev cX1_oldestTicket : ByteArray := prog_3_method_19_code
def yX1_oldestTicket : MethodName := ⟨RX1, "oldestTicket", "()I"⟩
abbrev cX1_insideOf : ByteArray := prog_3_method_20_code
def yX1_insideOf : MethodName := ⟨RX1, "insideOf", "(I)I"⟩
abbrev cX1_ringOf : ByteArray := prog_3_method_21_code
def yX1_ringOf : MethodName := ⟨RX1, "ringOf", "(I)I"⟩
abbrev cX1_shutBy : ByteArray := prog_3_method_22_code
def yX1_shutBy : MethodName := ⟨RX1, "shutBy", "(I)I"⟩
abbrev cX1_ruinsHolder : ByteArray := prog_3_method_23_code
def yX1_ruinsHolder : MethodName := ⟨RX1, "ruinsHolder", "(I)Z"⟩
abbrev cX1_canRedeem : ByteArray := prog_3_method_24_code
def yX1_canRedeem : MethodName := ⟨RX1, "canRedeem", "(I)Z"⟩
abbrev cX1_canPawn : ByteArray := prog_3_method_25_code
def yX1_canPawn : MethodName := ⟨RX1, "canPawn", "(III)Z"⟩
abbrev cX1_doRedeem : ByteArray := prog_3_method_26_code
def yX1_doRedeem : MethodName := ⟨RX1, "doRedeem", "(I)I"⟩
abbrev cX1_doPawn : ByteArray := prog_3_method_27_code
def yX1_doPawn : MethodName := ⟨RX1, "doPawn", "(III)V"⟩
abbrev cX1_doWeek : ByteArray := prog_3_method_28_code
def yX1_doWeek : MethodName := ⟨RX1, "doWeek", "()V"⟩
abbrev cX1_doGive : ByteArray := prog_3_method_29_code
def yX1_doGive : MethodName := ⟨RX1, "doGive", "(II)V"⟩
abbrev cX1_doByLot : ByteArray := prog_3_method_30_code
def yX1_doByLot : MethodName := ⟨RX1, "doByLot", "(I)V"⟩
abbrev cX1_undoLast : ByteArray := prog_3_method_31_code
def yX1_undoLast : MethodName := ⟨RX1, "undoLast", "()V"⟩
abbrev cX1_pay : ByteArray := prog_3_method_32_code
def yX1_pay : MethodName := ⟨RX1, "pay", "(III)V"⟩
abbrev cX1_ageTickets : ByteArray := prog_3_method_33_code
def yX1_ageTickets : MethodName := ⟨RX1, "ageTickets", "(I)V"⟩
def RX2 : String := "PawnLane$Orders"
def TX2 : u_T := fun k => match k with
  | 0 => ("PawnLane$Orders", "shops", "I", false)
  | 1 => ("PawnLane$Orders", "pawned", "I", false)
  | 2 => ("PawnLane$Orders", "cash", "[I", true)
  | 3 => ("PawnLane$Orders", "holder", "[I", true)
  | 4 => ("PawnLane$Orders", "due", "[I", true)
  | _ => ("PawnLane$Orders", "bySet", "[I", true)
def tyX2 : Nat → FieldType := fun k => match k with
  | 0 => .int
  | 1 => .int
  | 2 => .array .int
  | 3 => .array .int
  | 4 => .array .int
  | _ => .array .int
abbrev wsX20 : List Cond := u_ws RX2 TX2 6
theorem nmX2 : ∀ a, a < 6 → ∀ b, b < 6 → a ≠ b → (TX2 a).2.1 ≠ (TX2 b).2.1 := by decide +kernel
theorem tyX2_ok : ∀ k, k < 6 → parseFieldDescriptor (TX2 k).2.2.1 = some (tyX2 k) := by decide +kernel
abbrev cX2_init : ByteArray := prog_4_method_1_code
def yX2_init : MethodName := ⟨RX2, "<init>", "()V"⟩
abbrev cX2_lookAt : ByteArray := prog_4_method_2_code
def yX2_lookAt : MethodName := ⟨RX2, "lookAt", "(LPawnLane$Lane;I)V"⟩
abbrev cX2_cashAfter : ByteArray := prog_4_method_3_code
def yX2_cashAfter : MethodName := ⟨RX2, "cashAfter", "(II)I"⟩
abbrev cX2_isLeft : ByteArray := prog_4_method_4_code
def yX2_isLeft : MethodName := ⟨RX2, "isLeft", "(II)Z"⟩
abbrev cX2_goesOn : ByteArray := prog_4_method_5_code
def yX2_goesOn : MethodName := ⟨RX2, "goesOn", "(II)Z"⟩
abbrev cX2_nextAfter : ByteArray := prog_4_method_6_code
def yX2_nextAfter : MethodName := ⟨RX2, "nextAfter", "(I)I"⟩
abbrev cX2_isStep : ByteArray := prog_4_method_7_code
def yX2_isStep : MethodName := ⟨RX2, "isStep", "(II)Z"⟩
abbrev cX2_countFrom : ByteArray := prog_4_method_8_code
def yX2_countFrom : MethodName := ⟨RX2, "countFrom", "(I)V"⟩
abbrev cX2_countOf : ByteArray := prog_4_method_9_code
def yX2_countOf : MethodName := ⟨RX2, "countOf", "(I)I"⟩
abbrev cX2_largest : ByteArray := prog_4_method_10_code
def yX2_largest : MethodName := ⟨RX2, "largest", "()I"⟩
abbrev cX2_measureTo : ByteArray := prog_4_method_11_code
def yX2_measureTo : MethodName := ⟨RX2, "measureTo", "(I)V"⟩
abbrev cX2_stepsBy : ByteArray := prog_4_method_12_code
def yX2_stepsBy : MethodName := ⟨RX2, "stepsBy", "(II)I"⟩
abbrev cX2_stepsFrom : ByteArray := prog_4_method_13_code
def yX2_stepsFrom : MethodName := ⟨RX2, "stepsFrom", "(I)I"⟩
abbrev cX2_firstNearer : ByteArray := prog_4_method_14_code
def yX2_firstNearer : MethodName := ⟨RX2, "firstNearer", "(I)I"⟩
abbrev cX2_needOf : ByteArray := prog_4_method_15_code
def yX2_needOf : MethodName := ⟨RX2, "needOf", "(I)I"⟩
abbrev cX2_spreadNeed : ByteArray := prog_4_method_16_code
def yX2_spreadNeed : MethodName := ⟨RX2, "spreadNeed", "(II)V"⟩
def RX3 : String := "PawnLane$Reader"
def TX3 : u_T := fun k => match k with
  | 0 => ("PawnLane$Reader", "draft", "LPawnLane$Lane;", true)
  | 1 => ("PawnLane$Reader", "awaited", "I", false)
  | 2 => ("PawnLane$Reader", "ticketsBegan", "Z", false)
  | 3 => ("PawnLane$Reader", "pawned", "I", false)
  | _ => ("PawnLane$Reader", "holder", "I", false)
def tyX3 : Nat → FieldType := fun k => match k with
  | 0 => .object "PawnLane$Lane"
  | 1 => .int
  | 2 => .boolean
  | 3 => .int
  | _ => .int
abbrev wsX30 : List Cond := u_ws RX3 TX3 5
theorem nmX3 : ∀ a, a < 5 → ∀ b, b < 5 → a ≠ b → (TX3 a).2.1 ≠ (TX3 b).2.1 := by decide +kernel
theorem tyX3_ok : ∀ k, k < 5 → parseFieldDescriptor (TX3 k).2.2.1 = some (tyX3 k) := by decide +kernel
abbrev cX3_init : ByteArray := prog_5_method_1_code
def yX3_init : MethodName := ⟨RX3, "<init>", "()V"⟩
abbrev cX3_faultOf : ByteArray := prog_5_method_2_code
def yX3_faultOf : MethodName := ⟨RX3, "faultOf", "(LPawnLane$Sheets;I)I"⟩
abbrev cX3_takes : ByteArray := prog_5_method_3_code
def yX3_takes : MethodName := ⟨RX3, "takes", "(I)Z"⟩
abbrev cX3_beginsItem : ByteArray := prog_5_method_4_code
def yX3_beginsItem : MethodName := ⟨RX3, "beginsItem", "(I)Z"⟩
abbrev cX3_takesOfShop : ByteArray := prog_5_method_5_code
def yX3_takesOfShop : MethodName := ⟨RX3, "takesOfShop", "(I)Z"⟩
abbrev cX3_takesOfTicket : ByteArray := prog_5_method_6_code
def yX3_takesOfTicket : MethodName := ⟨RX3, "takesOfTicket", "(I)Z"⟩
abbrev cX3_kindOf : ByteArray := prog_5_method_7_code
def yX3_kindOf : MethodName := ⟨RX3, "kindOf", "(I)I"⟩
def RX4 : String := "PawnLane$Sheets"
def TX4 : u_T := fun k => match k with
  | 0 => ("PawnLane$Sheets", "width", "I", true)
  | 1 => ("PawnLane$Sheets", "sizes", "[I", true)
  | _ => ("PawnLane$Sheets", "places", "[I", true)
def tyX4 : Nat → FieldType := fun k => match k with
  | 0 => .int
  | 1 => .array .int
  | _ => .array .int
abbrev wsX40 : List Cond := u_ws RX4 TX4 3
theorem nmX4 : ∀ a, a < 3 → ∀ b, b < 3 → a ≠ b → (TX4 a).2.1 ≠ (TX4 b).2.1 := by decide +kernel
theorem tyX4_ok : ∀ k, k < 3 → parseFieldDescriptor (TX4 k).2.2.1 = some (tyX4 k) := by decide +kernel
abbrev cX4_init : ByteArray := prog_6_method_1_code
def yX4_init : MethodName := ⟨RX4, "<init>", "(II)V"⟩
abbrev cX4_isNumber : ByteArray := prog_6_method_2_code
def yX4_isNumber : MethodName := ⟨RX4, "isNumber", "(I)Z"⟩
abbrev cX4_isThere : ByteArray := prog_6_method_3_code
def yX4_isThere : MethodName := ⟨RX4, "isThere", "(I)Z"⟩
abbrev cX4_sizeOf : ByteArray := prog_6_method_4_code
def yX4_sizeOf : MethodName := ⟨RX4, "sizeOf", "(I)I"⟩
abbrev cX4_hasPlaces : ByteArray := prog_6_method_5_code
def yX4_hasPlaces : MethodName := ⟨RX4, "hasPlaces", "(III)Z"⟩
abbrev cX4_begin : ByteArray := prog_6_method_6_code
def yX4_begin : MethodName := ⟨RX4, "begin", "(III)V"⟩
abbrev cX4_remove : ByteArray := prog_6_method_7_code
def yX4_remove : MethodName := ⟨RX4, "remove", "(I)V"⟩
abbrev cX4_valueAt : ByteArray := prog_6_method_8_code
def yX4_valueAt : MethodName := ⟨RX4, "valueAt", "(II)I"⟩
abbrev cX4_setValue : ByteArray := prog_6_method_9_code
def yX4_setValue : MethodName := ⟨RX4, "setValue", "(III)V"⟩
abbrev cX4_move : ByteArray := prog_6_method_10_code
def yX4_move : MethodName := ⟨RX4, "move", "(IIIII)V"⟩
abbrev cX4_sumOf : ByteArray := prog_6_method_11_code
def yX4_sumOf : MethodName := ⟨RX4, "sumOf", "(I)J"⟩
abbrev cX4_allBelow : ByteArray := prog_6_method_12_code
def yX4_allBelow : MethodName := ⟨RX4, "allBelow", "(II)Z"⟩
abbrev cX4_howMany : ByteArray := prog_6_method_13_code
def yX4_howMany : MethodName := ⟨RX4, "howMany", "()I"⟩
abbrev cX4_digestOnto : ByteArray := prog_6_method_14_code
def yX4_digestOnto : MethodName := ⟨RX4, "digestOnto", "(J)J"⟩
def RX5 : String := "PawnLane"
def TX5 : u_T := fun k => match k with
  | 0 => ("PawnLane", "rows", "LPawnLane$Sheets;", true)
  | 1 => ("PawnLane", "texts", "LPawnLane$Sheets;", true)
  | 2 => ("PawnLane", "reader", "LPawnLane$Reader;", true)
  | 3 => ("PawnLane", "lane", "LPawnLane$Lane;", true)
  | 4 => ("PawnLane", "kept", "[LPawnLane$Lane;", true)
  | 5 => ("PawnLane", "orders", "LPawnLane$Orders;", true)
  | 6 => ("PawnLane", "findingTimes", "[I", true)
  | 7 => ("PawnLane", "latestFinding", "I", false)
  | 8 => ("PawnLane", "answer", "I", false)
  | 9 => ("PawnLane", "numerator", "J", false)
  | _ => ("PawnLane", "denominator", "J", false)
def tyX5 : Nat → FieldType := fun k => match k with
  | 0 => .object "PawnLane$Sheets"
  | 1 => .object "PawnLane$Sheets"
  | 2 => .object "PawnLane$Reader"
  | 3 => .object "PawnLane$Lane"
  | 4 => .array (.object "PawnLane$Lane")
  | 5 => .object "PawnLane$Orders"
  | 6 => .array .int
  | 7 => .int
  | 8 => .int
  | 9 => .long
  | _ => .long
abbrev wsX50 : List Cond := u_ws RX5 TX5 11
theorem nmX5 : ∀ a, a < 11 → ∀ b, b < 11 → a ≠ b → (TX5 a).2.1 ≠ (TX5 b).2.1 := by decide +kernel
theorem tyX5_ok : ∀ k, k < 11 → parseFieldDescriptor (TX5 k).2.2.1 = some (tyX5 k) := by decide +kernel
abbrev cX5_init : ByteArray := prog_1_method_1_code
def yX5_init : MethodName := ⟨RX5, "<init>", "()V"⟩
abbrev cX5_row : ByteArray := prog_1_method_2_code
def yX5_row : MethodName := ⟨RX5, "row", "(II)I"⟩
abbrev cX5_lay : ByteArray := prog_1_method_3_code
def yX5_lay : MethodName := ⟨RX5, "lay", "(III)I"⟩
abbrev cX5_at : ByteArray := prog_1_method_4_code
def yX5_at : MethodName := ⟨RX5, "at", "(II)I"⟩
abbrev cX5_tear : ByteArray := prog_1_method_5_code
def yX5_tear : MethodName := ⟨RX5, "tear", "(I)I"⟩
abbrev cX5_copy : ByteArray := prog_1_method_6_code
def yX5_copy : MethodName := ⟨RX5, "copy", "(IIIII)I"⟩
abbrev cX5_mean : ByteArray := prog_1_method_7_code
def yX5_mean : MethodName := ⟨RX5, "mean", "(I)I"⟩
abbrev cX5_text : ByteArray := prog_1_method_8_code
def yX5_text : MethodName := ⟨RX5, "text", "(II)I"⟩
abbrev cX5_put : ByteArray := prog_1_method_9_code
def yX5_put : MethodName := ⟨RX5, "put", "(III)I"⟩
abbrev cX5_fault : ByteArray := prog_1_method_10_code
def yX5_fault : MethodName := ⟨RX5, "fault", "(I)I"⟩
abbrev cX5_lane : ByteArray := prog_1_method_11_code
def yX5_lane : MethodName := ⟨RX5, "lane", "(I)I"⟩
abbrev cX5_shop : ByteArray := prog_1_method_12_code
def yX5_shop : MethodName := ⟨RX5, "shop", "(II)I"⟩
abbrev cX5_mark : ByteArray := prog_1_method_13_code
def yX5_mark : MethodName := ⟨RX5, "mark", "(II)I"⟩
abbrev cX5_stock : ByteArray := prog_1_method_14_code
def yX5_stock : MethodName := ⟨RX5, "stock", "(II)I"⟩
abbrev cX5_redeem : ByteArray := prog_1_method_15_code
def yX5_redeem : MethodName := ⟨RX5, "redeem", "(I)I"⟩
abbrev cX5_pawn : ByteArray := prog_1_method_16_code
def yX5_pawn : MethodName := ⟨RX5, "pawn", "(III)I"⟩
abbrev cX5_week : ByteArray := prog_1_method_17_code
def yX5_week : MethodName := ⟨RX5, "week", "()I"⟩
abbrev cX5_give : ByteArray := prog_1_method_18_code
def yX5_give : MethodName := ⟨RX5, "give", "(II)I"⟩
abbrev cX5_undo : ByteArray := prog_1_method_19_code
def yX5_undo : MethodName := ⟨RX5, "undo", "(I)I"⟩
abbrev cX5_keep : ByteArray := prog_1_method_20_code
def yX5_keep : MethodName := ⟨RX5, "keep", "(I)I"⟩
abbrev cX5_on : ByteArray := prog_1_method_21_code
def yX5_on : MethodName := ⟨RX5, "on", "(I)I"⟩
abbrev cX5_deep : ByteArray := prog_1_method_22_code
def yX5_deep : MethodName := ⟨RX5, "deep", "(I)I"⟩
abbrev cX5_inside : ByteArray := prog_1_method_23_code
def yX5_inside : MethodName := ⟨RX5, "inside", "(I)I"⟩
abbrev cX5_rings : ByteArray := prog_1_method_24_code
def yX5_rings : MethodName := ⟨RX5, "rings", "()I"⟩
abbrev cX5_goods : ByteArray := prog_1_method_25_code
def yX5_goods : MethodName := ⟨RX5, "goods", "(I)I"⟩
abbrev cX5_hangs : ByteArray := prog_1_method_26_code
def yX5_hangs : MethodName := ⟨RX5, "hangs", "()I"⟩
abbrev cX5_worth : ByteArray := prog_1_method_27_code
def yX5_worth : MethodName := ⟨RX5, "worth", "(I)I"⟩
abbrev cX5_chalk : ByteArray := prog_1_method_28_code
def yX5_chalk : MethodName := ⟨RX5, "chalk", "(II)I"⟩
abbrev cX5_can : ByteArray := prog_1_method_29_code
def yX5_can : MethodName := ⟨RX5, "can", "()I"⟩
abbrev cX5_order : ByteArray := prog_1_method_30_code
def yX5_order : MethodName := ⟨RX5, "order", "(I)I"⟩
abbrev cX5_ways : ByteArray := prog_1_method_31_code
def yX5_ways : MethodName := ⟨RX5, "ways", "()I"⟩
abbrev cX5_most : ByteArray := prog_1_method_32_code
def yX5_most : MethodName := ⟨RX5, "most", "()I"⟩
abbrev cX5_least : ByteArray := prog_1_method_33_code
def yX5_least : MethodName := ⟨RX5, "least", "()I"⟩
abbrev cX5_free : ByteArray := prog_1_method_34_code
def yX5_free : MethodName := ⟨RX5, "free", "(II)I"⟩
abbrev cX5_till : ByteArray := prog_1_method_35_code
def yX5_till : MethodName := ⟨RX5, "till", "()I"⟩
abbrev cX5_run : ByteArray := prog_1_method_36_code
def yX5_run : MethodName := ⟨RX5, "run", "(I)I"⟩
abbrev cX5_shuts : ByteArray := prog_1_method_37_code
def yX5_shuts : MethodName := ⟨RX5, "shuts", "(I)I"⟩
abbrev cX5_missing : ByteArray := prog_1_method_38_code
def yX5_missing : MethodName := ⟨RX5, "missing", "(I)I"⟩
abbrev cX5_through : ByteArray := prog_1_method_39_code
def yX5_through : MethodName := ⟨RX5, "through", "(I)I"⟩
abbrev cX5_odds : ByteArray := prog_1_method_40_code
def yX5_odds : MethodName := ⟨RX5, "odds", "(I)I"⟩
abbrev cX5_lots : ByteArray := prog_1_method_41_code
def yX5_lots : MethodName := ⟨RX5, "lots", "(II)I"⟩
abbrev cX5_asked : ByteArray := prog_1_method_42_code
def yX5_asked : MethodName := ⟨RX5, "asked", "()I"⟩
abbrev cX5_upper : ByteArray := prog_1_method_43_code
def yX5_upper : MethodName := ⟨RX5, "upper", "()J"⟩
abbrev cX5_lower : ByteArray := prog_1_method_44_code
def yX5_lower : MethodName := ⟨RX5, "lower", "()J"⟩
abbrev cX5_count : ByteArray := prog_1_method_45_code
def yX5_count : MethodName := ⟨RX5, "count", "(I)I"⟩
abbrev cX5_finding : ByteArray := prog_1_method_46_code
def yX5_finding : MethodName := ⟨RX5, "finding", "()I"⟩
abbrev cX5_findings : ByteArray := prog_1_method_47_code
def yX5_findings : MethodName := ⟨RX5, "findings", "(I)I"⟩
abbrev cX5_digest : ByteArray := prog_1_method_48_code
def yX5_digest : MethodName := ⟨RX5, "digest", "()J"⟩
abbrev cX5_found : ByteArray := prog_1_method_49_code
def yX5_found : MethodName := ⟨RX5, "found", "(I)I"⟩
abbrev cX5_refusalOfSheet : ByteArray := prog_1_method_50_code
def yX5_refusalOfSheet : MethodName := ⟨RX5, "refusalOfSheet", "(LPawnLane$Sheets;I)I"⟩
abbrev cX5_refusalOfPlace : ByteArray := prog_1_method_51_code
def yX5_refusalOfPlace : MethodName := ⟨RX5, "refusalOfPlace", "(LPawnLane$Sheets;II)I"⟩
abbrev cX5_refusalOfAside : ByteArray := prog_1_method_52_code
def yX5_refusalOfAside : MethodName := ⟨RX5, "refusalOfAside", "(I)I"⟩
abbrev cX5_refusalOfOrder : ByteArray := prog_1_method_53_code
def yX5_refusalOfOrder : MethodName := ⟨RX5, "refusalOfOrder", "(I)I"⟩
abbrev cX5_refusalOfSets : ByteArray := prog_1_method_54_code
def yX5_refusalOfSets : MethodName := ⟨RX5, "refusalOfSets", "(I)I"⟩
abbrev cX5_firstOrderTo : ByteArray := prog_1_method_55_code
def yX5_firstOrderTo : MethodName := ⟨RX5, "firstOrderTo", "(II)I"⟩
abbrev cX5_tell : ByteArray := prog_1_method_56_code
def yX5_tell : MethodName := ⟨RX5, "tell", "(JJ)V"⟩
abbrev cX5_toldOfShop : ByteArray := prog_1_method_57_code
def yX5_toldOfShop : MethodName := ⟨RX5, "toldOfShop", "(II)I"⟩
abbrev cX5_counted : ByteArray := prog_1_method_58_code
def yX5_counted : MethodName := ⟨RX5, "counted", "(I)I"⟩
abbrev cX5_keptLanes : ByteArray := prog_1_method_59_code
def yX5_keptLanes : MethodName := ⟨RX5, "keptLanes", "()I"⟩
abbrev cX5_isIn : ByteArray := prog_1_method_60_code
def yX5_isIn : MethodName := ⟨RX5, "isIn", "(II)Z"⟩
abbrev cX5_isOfKind : ByteArray := prog_1_method_61_code
def yX5_isOfKind : MethodName := ⟨RX5, "isOfKind", "(II)Z"⟩
abbrev cX5_dueWith : ByteArray := prog_1_method_62_code
def yX5_dueWith : MethodName := ⟨RX5, "dueWith", "(III)I"⟩
abbrev cX5_chalked : ByteArray := prog_1_method_63_code
def yX5_chalked : MethodName := ⟨RX5, "chalked", "(LPawnLane$Lane;II)I"⟩
abbrev cX5_power : ByteArray := prog_1_method_64_code
def yX5_power : MethodName := ⟨RX5, "power", "(II)J"⟩
abbrev cX5_commonDivisor : ByteArray := prog_1_method_65_code
def yX5_commonDivisor : MethodName := ⟨RX5, "commonDivisor", "(JJ)J"⟩
def RX6 : String := "PawnLaneModel"
def TX6 : u_T := fun k => match k with
  | 0 => ("PawnLaneModel", "row", "[I", true)
  | 1 => ("PawnLaneModel", "shops", "I", false)
  | 2 => ("PawnLaneModel", "kinds", "[I", true)
  | 3 => ("PawnLaneModel", "sizes", "[I", true)
  | 4 => ("PawnLaneModel", "items", "[I", true)
  | 5 => ("PawnLaneModel", "lengths", "[I", true)
  | 6 => ("PawnLaneModel", "bytes", "[I", true)
  | 7 => ("PawnLaneModel", "asked", "I", false)
  | 8 => ("PawnLaneModel", "upper", "J", false)
  | 9 => ("PawnLaneModel", "lower", "J", false)
  | 10 => ("PawnLaneModel", "finding", "I", false)
  | 11 => ("PawnLaneModel", "findings", "[I", true)
  | 12 => ("PawnLaneModel", "from", "I", false)
  | 13 => ("PawnLaneModel", "place", "I", false)
  | 14 => ("PawnLaneModel", "end", "I", false)
  | 15 => ("PawnLaneModel", "readShops", "[I", true)
  | 16 => ("PawnLaneModel", "readMany", "I", false)
  | 17 => ("PawnLaneModel", "readTickets", "I", false)
  | 18 => ("PawnLaneModel", "chalked", "[I", true)
  | 19 => ("PawnLaneModel", "more", "[I", true)
  | 20 => ("PawnLaneModel", "due", "[I", true)
  | 21 => ("PawnLaneModel", "cash", "[I", true)
  | 22 => ("PawnLaneModel", "all", "I", false)
  | 23 => ("PawnLaneModel", "ways", "[J", true)
  | 24 => ("PawnLaneModel", "on", "[J", true)
  | _ => ("PawnLaneModel", "soon", "[I", true)
def tyX6 : Nat → FieldType := fun k => match k with
  | 0 => .array .int
  | 1 => .int
  | 2 => .array .int
  | 3 => .array .int
  | 4 => .array .int
  | 5 => .array .int
  | 6 => .array .int
  | 7 => .int
  | 8 => .long
  | 9 => .long
  | 10 => .int
  | 11 => .array .int
  | 12 => .int
  | 13 => .int
  | 14 => .int
  | 15 => .array .int
  | 16 => .int
  | 17 => .int
  | 18 => .array .int
  | 19 => .array .int
  | 20 => .array .int
  | 21 => .array .int
  | 22 => .int
  | 23 => .array .long
  | 24 => .array .long
  | _ => .array .int
abbrev wsX60 : List Cond := u_ws RX6 TX6 26
theorem nmX6 : ∀ a, a < 26 → ∀ b, b < 26 → a ≠ b → (TX6 a).2.1 ≠ (TX6 b).2.1 := by decide +kernel
theorem tyX6_ok : ∀ k, k < 26 → parseFieldDescriptor (TX6 k).2.2.1 = some (tyX6 k) := by decide +kernel
abbrev cX6_init : ByteArray := prog_8_method_1_code
def yX6_init : MethodName := ⟨RX6, "<init>", "()V"⟩
abbrev cX6_bits : ByteArray := prog_8_method_2_code
def yX6_bits : MethodName := ⟨RX6, "bits", "(I)I"⟩
abbrev cX6_in : ByteArray := prog_8_method_3_code
def yX6_in : MethodName := ⟨RX6, "in", "(JJJ)Z"⟩
abbrev cX6_has : ByteArray := prog_8_method_4_code
def yX6_has : MethodName := ⟨RX6, "has", "(II)Z"⟩
abbrev cX6_find : ByteArray := prog_8_method_5_code
def yX6_find : MethodName := ⟨RX6, "find", "(I)I"⟩
abbrev cX6_tell : ByteArray := prog_8_method_6_code
def yX6_tell : MethodName := ⟨RX6, "tell", "(I)I"⟩
abbrev cX6_isRow : ByteArray := prog_8_method_7_code
def yX6_isRow : MethodName := ⟨RX6, "isRow", "(I)Z"⟩
abbrev cX6_isText : ByteArray := prog_8_method_8_code
def yX6_isText : MethodName := ⟨RX6, "isText", "(I)Z"⟩
abbrev cX6_row : ByteArray := prog_8_method_9_code
def yX6_row : MethodName := ⟨RX6, "row", "(II)I"⟩
abbrev cX6_makeRow : ByteArray := prog_8_method_10_code
def yX6_makeRow : MethodName := ⟨RX6, "makeRow", "(II)V"⟩
abbrev cX6_refused : ByteArray := prog_8_method_11_code
def yX6_refused : MethodName := ⟨RX6, "refused", "(II)I"⟩
abbrev cX6_lay : ByteArray := prog_8_method_12_code
def yX6_lay : MethodName := ⟨RX6, "lay", "(III)I"⟩
abbrev cX6_at : ByteArray := prog_8_method_13_code
def yX6_at : MethodName := ⟨RX6, "at", "(II)I"⟩
abbrev cX6_tear : ByteArray := prog_8_method_14_code
def yX6_tear : MethodName := ⟨RX6, "tear", "(I)I"⟩
abbrev cX6_isSpan : ByteArray := prog_8_method_15_code
def yX6_isSpan : MethodName := ⟨RX6, "isSpan", "(III)Z"⟩
abbrev cX6_copy : ByteArray := prog_8_method_16_code
def yX6_copy : MethodName := ⟨RX6, "copy", "(IIIII)I"⟩
abbrev cX6_mean : ByteArray := prog_8_method_17_code
def yX6_mean : MethodName := ⟨RX6, "mean", "(I)I"⟩
abbrev cX6_text : ByteArray := prog_8_method_18_code
def yX6_text : MethodName := ⟨RX6, "text", "(II)I"⟩
abbrev cX6_put : ByteArray := prog_8_method_19_code
def yX6_put : MethodName := ⟨RX6, "put", "(III)I"⟩
abbrev cX6_here : ByteArray := prog_8_method_20_code
def yX6_here : MethodName := ⟨RX6, "here", "()I"⟩
abbrev cX6_skip : ByteArray := prog_8_method_21_code
def yX6_skip : MethodName := ⟨RX6, "skip", "()V"⟩
abbrev cX6_figure : ByteArray := prog_8_method_22_code
def yX6_figure : MethodName := ⟨RX6, "figure", "(III)I"⟩
abbrev cX6_kindOfLetter : ByteArray := prog_8_method_23_code
def yX6_kindOfLetter : MethodName := ⟨RX6, "kindOfLetter", "(I)I"⟩
abbrev cX6_readsShop : ByteArray := prog_8_method_24_code
def yX6_readsShop : MethodName := ⟨RX6, "readsShop", "()Z"⟩
abbrev cX6_readsTicket : ByteArray := prog_8_method_25_code
def yX6_readsTicket : MethodName := ⟨RX6, "readsTicket", "()Z"⟩
abbrev cX6_faultOf : ByteArray := prog_8_method_26_code
def yX6_faultOf : MethodName := ⟨RX6, "faultOf", "(I)I"⟩
abbrev cX6_fault : ByteArray := prog_8_method_27_code
def yX6_fault : MethodName := ⟨RX6, "fault", "(I)I"⟩
abbrev cX6_lane : ByteArray := prog_8_method_28_code
def yX6_lane : MethodName := ⟨RX6, "lane", "(I)I"⟩
abbrev cX6_isShop : ByteArray := prog_8_method_29_code
def yX6_isShop : MethodName := ⟨RX6, "isShop", "(I)Z"⟩
abbrev cX6_isPawned : ByteArray := prog_8_method_30_code
def yX6_isPawned : MethodName := ⟨RX6, "isPawned", "(I)Z"⟩
abbrev cX6_dueIn : ByteArray := prog_8_method_31_code
def yX6_dueIn : MethodName := ⟨RX6, "dueIn", "(II)I"⟩
abbrev cX6_heldBy : ByteArray := prog_8_method_32_code
def yX6_heldBy : MethodName := ⟨RX6, "heldBy", "(I)I"⟩
abbrev cX6_pawned : ByteArray := prog_8_method_33_code
def yX6_pawned : MethodName := ⟨RX6, "pawned", "()I"⟩
abbrev cX6_dueTo : ByteArray := prog_8_method_34_code
def yX6_dueTo : MethodName := ⟨RX6, "dueTo", "(II)I"⟩
abbrev cX6_loansTo : ByteArray := prog_8_method_35_code
def yX6_loansTo : MethodName := ⟨RX6, "loansTo", "(I)I"⟩
abbrev cX6_toldOf : ByteArray := prog_8_method_36_code
def yX6_toldOf : MethodName := ⟨RX6, "toldOf", "(II)I"⟩
abbrev cX6_shop : ByteArray := prog_8_method_37_code
def yX6_shop : MethodName := ⟨RX6, "shop", "(II)I"⟩
abbrev cX6_isOf : ByteArray := prog_8_method_38_code
def yX6_isOf : MethodName := ⟨RX6, "isOf", "(II)Z"⟩
abbrev cX6_canNow : ByteArray := prog_8_method_39_code
def yX6_canNow : MethodName := ⟨RX6, "canNow", "()I"⟩
abbrev cX6_mark : ByteArray := prog_8_method_40_code
def yX6_mark : MethodName := ⟨RX6, "mark", "(II)I"⟩
abbrev cX6_stock : ByteArray := prog_8_method_41_code
def yX6_stock : MethodName := ⟨RX6, "stock", "(II)I"⟩
abbrev cX6_keepPast : ByteArray := prog_8_method_42_code
def yX6_keepPast : MethodName := ⟨RX6, "keepPast", "()V"⟩
abbrev cX6_doRedeem : ByteArray := prog_8_method_43_code
def yX6_doRedeem : MethodName := ⟨RX6, "doRedeem", "(I)I"⟩
abbrev cX6_redeem : ByteArray := prog_8_method_44_code
def yX6_redeem : MethodName := ⟨RX6, "redeem", "(I)I"⟩
abbrev cX6_doPawn : ByteArray := prog_8_method_45_code
def yX6_doPawn : MethodName := ⟨RX6, "doPawn", "(III)V"⟩
abbrev cX6_pawn : ByteArray := prog_8_method_46_code
def yX6_pawn : MethodName := ⟨RX6, "pawn", "(III)I"⟩
abbrev cX6_isOld : ByteArray := prog_8_method_47_code
def yX6_isOld : MethodName := ⟨RX6, "isOld", "()Z"⟩
abbrev cX6_doWeek : ByteArray := prog_8_method_48_code
def yX6_doWeek : MethodName := ⟨RX6, "doWeek", "()V"⟩
abbrev cX6_dueInAll : ByteArray := prog_8_method_49_code
def yX6_dueInAll : MethodName := ⟨RX6, "dueInAll", "()I"⟩
abbrev cX6_week : ByteArray := prog_8_method_50_code
def yX6_week : MethodName := ⟨RX6, "week", "()I"⟩
abbrev cX6_doGive : ByteArray := prog_8_method_51_code
def yX6_doGive : MethodName := ⟨RX6, "doGive", "(II)I"⟩
abbrev cX6_give : ByteArray := prog_8_method_52_code
def yX6_give : MethodName := ⟨RX6, "give", "(II)I"⟩
abbrev cX6_undo : ByteArray := prog_8_method_53_code
def yX6_undo : MethodName := ⟨RX6, "undo", "(I)I"⟩
abbrev cX6_copyLane : ByteArray := prog_8_method_54_code
def yX6_copyLane : MethodName := ⟨RX6, "copyLane", "(II)V"⟩
abbrev cX6_keep : ByteArray := prog_8_method_55_code
def yX6_keep : MethodName := ⟨RX6, "keep", "(I)I"⟩
abbrev cX6_on : ByteArray := prog_8_method_56_code
def yX6_on : MethodName := ⟨RX6, "on", "(I)I"⟩
abbrev cX6_deep : ByteArray := prog_8_method_57_code
def yX6_deep : MethodName := ⟨RX6, "deep", "(I)I"⟩
abbrev cX6_insideOf : ByteArray := prog_8_method_58_code
def yX6_insideOf : MethodName := ⟨RX6, "insideOf", "(I)I"⟩
abbrev cX6_inside : ByteArray := prog_8_method_59_code
def yX6_inside : MethodName := ⟨RX6, "inside", "(I)I"⟩
abbrev cX6_ringOf : ByteArray := prog_8_method_60_code
def yX6_ringOf : MethodName := ⟨RX6, "ringOf", "(I)I"⟩
abbrev cX6_rings : ByteArray := prog_8_method_61_code
def yX6_rings : MethodName := ⟨RX6, "rings", "()I"⟩
abbrev cX6_goods : ByteArray := prog_8_method_62_code
def yX6_goods : MethodName := ⟨RX6, "goods", "(I)I"⟩
abbrev cX6_hangs : ByteArray := prog_8_method_63_code
def yX6_hangs : MethodName := ⟨RX6, "hangs", "()I"⟩
abbrev cX6_worth : ByteArray := prog_8_method_64_code
def yX6_worth : MethodName := ⟨RX6, "worth", "(I)I"⟩
abbrev cX6_chalk : ByteArray := prog_8_method_65_code
def yX6_chalk : MethodName := ⟨RX6, "chalk", "(II)I"⟩
abbrev cX6_layTried : ByteArray := prog_8_method_66_code
def yX6_layTried : MethodName := ⟨RX6, "layTried", "(II)V"⟩
abbrev cX6_cashBy : ByteArray := prog_8_method_67_code
def yX6_cashBy : MethodName := ⟨RX6, "cashBy", "(II)I"⟩
abbrev cX6_next : ByteArray := prog_8_method_68_code
def yX6_next : MethodName := ⟨RX6, "next", "(II)Z"⟩
abbrev cX6_layWays : ByteArray := prog_8_method_69_code
def yX6_layWays : MethodName := ⟨RX6, "layWays", "()V"⟩
abbrev cX6_layOn : ByteArray := prog_8_method_70_code
def yX6_layOn : MethodName := ⟨RX6, "layOn", "()V"⟩
abbrev cX6_canAll : ByteArray := prog_8_method_71_code
def yX6_canAll : MethodName := ⟨RX6, "canAll", "()Z"⟩
abbrev cX6_can : ByteArray := prog_8_method_72_code
def yX6_can : MethodName := ⟨RX6, "can", "()I"⟩
abbrev cX6_order : ByteArray := prog_8_method_73_code
def yX6_order : MethodName := ⟨RX6, "order", "(I)I"⟩
abbrev cX6_tellMany : ByteArray := prog_8_method_74_code
def yX6_tellMany : MethodName := ⟨RX6, "tellMany", "(J)I"⟩
abbrev cX6_ways : ByteArray := prog_8_method_75_code
def yX6_ways : MethodName := ⟨RX6, "ways", "()I"⟩
abbrev cX6_most : ByteArray := prog_8_method_76_code
def yX6_most : MethodName := ⟨RX6, "most", "()I"⟩
abbrev cX6_least : ByteArray := prog_8_method_77_code
def yX6_least : MethodName := ⟨RX6, "least", "()I"⟩
abbrev cX6_free : ByteArray := prog_8_method_78_code
def yX6_free : MethodName := ⟨RX6, "free", "(II)I"⟩
abbrev cX6_till : ByteArray := prog_8_method_79_code
def yX6_till : MethodName := ⟨RX6, "till", "()I"⟩
abbrev cX6_noRow : ByteArray := prog_8_method_80_code
def yX6_noRow : MethodName := ⟨RX6, "noRow", "(III)I"⟩
abbrev cX6_run : ByteArray := prog_8_method_81_code
def yX6_run : MethodName := ⟨RX6, "run", "(I)I"⟩
abbrev cX6_shuts : ByteArray := prog_8_method_82_code
def yX6_shuts : MethodName := ⟨RX6, "shuts", "(I)I"⟩
abbrev cX6_missing : ByteArray := prog_8_method_83_code
def yX6_missing : MethodName := ⟨RX6, "missing", "(I)I"⟩
abbrev cX6_through : ByteArray := prog_8_method_84_code
def yX6_through : MethodName := ⟨RX6, "through", "(I)I"⟩
abbrev cX6_tellParts : ByteArray := prog_8_method_85_code
def yX6_tellParts : MethodName := ⟨RX6, "tellParts", "(JJ)I"⟩
abbrev cX6_odds : ByteArray := prog_8_method_86_code
def yX6_odds : MethodName := ⟨RX6, "odds", "(I)I"⟩
abbrev cX6_doLot : ByteArray := prog_8_method_87_code
def yX6_doLot : MethodName := ⟨RX6, "doLot", "(J)V"⟩
abbrev cX6_lots : ByteArray := prog_8_method_88_code
def yX6_lots : MethodName := ⟨RX6, "lots", "(II)I"⟩
abbrev cX6_asked : ByteArray := prog_8_method_89_code
def yX6_asked : MethodName := ⟨RX6, "asked", "()I"⟩
abbrev cX6_upper : ByteArray := prog_8_method_90_code
def yX6_upper : MethodName := ⟨RX6, "upper", "()J"⟩
abbrev cX6_lower : ByteArray := prog_8_method_91_code
def yX6_lower : MethodName := ⟨RX6, "lower", "()J"⟩
abbrev cX6_cashOfAll : ByteArray := prog_8_method_92_code
def yX6_cashOfAll : MethodName := ⟨RX6, "cashOfAll", "()I"⟩
abbrev cX6_hawks : ByteArray := prog_8_method_93_code
def yX6_hawks : MethodName := ⟨RX6, "hawks", "()I"⟩
abbrev cX6_thereOf : ByteArray := prog_8_method_94_code
def yX6_thereOf : MethodName := ⟨RX6, "thereOf", "(I)I"⟩
abbrev cX6_countOf : ByteArray := prog_8_method_95_code
def yX6_countOf : MethodName := ⟨RX6, "countOf", "(I)I"⟩
abbrev cX6_count : ByteArray := prog_8_method_96_code
def yX6_count : MethodName := ⟨RX6, "count", "(I)I"⟩
abbrev cX6_finding : ByteArray := prog_8_method_97_code
def yX6_finding : MethodName := ⟨RX6, "finding", "()I"⟩
abbrev cX6_findings : ByteArray := prog_8_method_98_code
def yX6_findings : MethodName := ⟨RX6, "findings", "(I)I"⟩
abbrev cX6_digest : ByteArray := prog_8_method_99_code
def yX6_digest : MethodName := ⟨RX6, "digest", "()J"⟩
def RJ6 : String := "java/lang/Integer"
def TJ6 : u_T := fun k => match k with
  | _ => ("", "", "", false)
def tyJ6 : Nat → FieldType := fun k => match k with
  | _ => .int
abbrev wsJ60 : List Cond := u_ws RJ6 TJ6 0
theorem nmJ6 : ∀ a, a < 0 → ∀ b, b < 0 → a ≠ b → (TJ6 a).2.1 ≠ (TJ6 b).2.1 := by decide +kernel
theorem tyJ6_ok : ∀ k, k < 0 → parseFieldDescriptor (TJ6 k).2.2.1 = some (tyJ6 k) := by decide +kernel
abbrev cJ6_numberOfTrailingZeros_0f7a4 : ByteArray := prog_9_method_48_code
def yJ6_numberOfTrailingZeros_0f7a4 : MethodName := ⟨RJ6, "numberOfTrailingZeros", "(I)I"⟩
abbrev cJ6_bitCount_0f7a4 : ByteArray := prog_9_method_49_code
def yJ6_bitCount_0f7a4 : MethodName := ⟨RJ6, "bitCount", "(I)I"⟩
def RJ9 : String := "java/lang/Math"
def TJ9 : u_T := fun k => match k with
  | _ => ("", "", "", false)
def tyJ9 : Nat → FieldType := fun k => match k with
  | _ => .int
abbrev wsJ90 : List Cond := u_ws RJ9 TJ9 0
theorem nmJ9 : ∀ a, a < 0 → ∀ b, b < 0 → a ≠ b → (TJ9 a).2.1 ≠ (TJ9 b).2.1 := by decide +kernel
theorem tyJ9_ok : ∀ k, k < 0 → parseFieldDescriptor (TJ9 k).2.2.1 = some (tyJ9 k) := by decide +kernel
abbrev cJ9_max_7cf53 : ByteArray := prog_10_method_65_code
def yJ9_max_7cf53 : MethodName := ⟨RJ9, "max", "(II)I"⟩
abbrev cJ9_max_f86c9 : ByteArray := prog_10_method_66_code
def yJ9_max_f86c9 : MethodName := ⟨RJ9, "max", "(JJ)J"⟩
abbrev cJ9_min_7cf53 : ByteArray := prog_10_method_69_code
def yJ9_min_7cf53 : MethodName := ⟨RJ9, "min", "(II)I"⟩
def RJ10 : String := "java/lang/System"
def TJ10 : u_T := fun k => match k with
  | _ => ("", "", "", false)
def tyJ10 : Nat → FieldType := fun k => match k with
  | _ => .int
abbrev wsJ100 : List Cond := u_ws RJ10 TJ10 0
theorem nmJ10 : ∀ a, a < 0 → ∀ b, b < 0 → a ≠ b → (TJ10 a).2.1 ≠ (TJ10 b).2.1 := by decide +kernel
theorem tyJ10_ok : ∀ k, k < 0 → parseFieldDescriptor (TJ10 k).2.2.1 = some (tyJ10 k) := by decide +kernel
def RJ7 : String := "java/util/Arrays"
def TJ7 : u_T := fun k => match k with
  | _ => ("", "", "", false)
def tyJ7 : Nat → FieldType := fun k => match k with
  | _ => .int
abbrev wsJ70 : List Cond := u_ws RJ7 TJ7 0
theorem nmJ7 : ∀ a, a < 0 → ∀ b, b < 0 → a ≠ b → (TJ7 a).2.1 ≠ (TJ7 b).2.1 := by decide +kernel
theorem tyJ7_ok : ∀ k, k < 0 → parseFieldDescriptor (TJ7 k).2.2.1 = some (tyJ7 k) := by decide +kernel
abbrev cJ7_fill_53178 : ByteArray := prog_12_method_103_code
def yJ7_fill_53178 : MethodName := ⟨RJ7, "fill", "([II)V"⟩
def RL : String := "PawnLaneLaw"
abbrev cL_law : ByteArray := code
abbrev vwCl : List vw_C := [(RX0, TX0, 2), (RX1, TX1, 8), (RX2, TX2, 6), (RX3, TX3, 5), (RX4, TX4, 3), (RX5, TX5, 11), (RX6, TX6, 26)]
end
section
/-! the words that hold all along: those of the tables that are kept -/
def TBL : List Cond := lw_tbl.filter goodWord
theorem tbl_good {w : Cond} (h : w ∈ TBL) : w ∈ lw_tbl ∧ ((w.onTables && w.keeps) = true ∨ ∃ ty, w = .arrayClass ty) := ⟨(List.mem_filter.mp h).1, good_of_word (List.mem_filter.mp h).2⟩
theorem tbl_sel {i : Nat} {w : Cond} (h : (k2_sels lw_privs)[i]? = some w) (g : goodWord w = true) : w ∈ TBL := List.mem_filter.mpr ⟨List.mem_append_left _ (List.mem_of_getElem? h), g⟩
theorem tbl_1 {i : Nat} {w : Cond} (h : tables_1_1[i]? = some w) (g : goodWord w = true) : w ∈ TBL := List.mem_filter.mpr ⟨List.mem_append_right _ (List.mem_append_left _ (List.mem_of_getElem? h)), g⟩
theorem tbl_2 {i : Nat} {w : Cond} (h : tables_1_2[i]? = some w) (g : goodWord w = true) : w ∈ TBL := List.mem_filter.mpr ⟨List.mem_append_right _ (List.mem_append_right _ (List.mem_append_left _ (List.mem_of_getElem? h))), g⟩
theorem tbl_3 {i : Nat} {w : Cond} (h : tables_1_3[i]? = some w) (g : goodWord w = true) : w ∈ TBL := List.mem_filter.mpr ⟨List.mem_append_right _ (List.mem_append_right _ (List.mem_append_right _ (List.mem_append_left _ (List.mem_of_getElem? h)))), g⟩
theorem tbl_4 {i : Nat} {w : Cond} (h : tables_1_4[i]? = some w) (g : goodWord w = true) : w ∈ TBL := List.mem_filter.mpr ⟨List.mem_append_right _ (List.mem_append_right _ (List.mem_append_right _ (List.mem_append_right _ (List.mem_append_left _ (List.mem_of_getElem? h))))), g⟩
theorem tbl_5 {i : Nat} {w : Cond} (h : tables_1_5[i]? = some w) (g : goodWord w = true) : w ∈ TBL := List.mem_filter.mpr ⟨List.mem_append_right _ (List.mem_append_right _ (List.mem_append_right _ (List.mem_append_right _ (List.mem_append_right _ (List.mem_append_left _ (List.mem_of_getElem? h)))))), g⟩
theorem tbl_6 {i : Nat} {w : Cond} (h : tables_1_6[i]? = some w) (g : goodWord w = true) : w ∈ TBL := List.mem_filter.mpr ⟨List.mem_append_right _ (List.mem_append_right _ (List.mem_append_right _ (List.mem_append_right _ (List.mem_append_right _ (List.mem_append_right _ (List.mem_of_getElem? h)))))), g⟩
theorem good_V {own C : String} {idx : Nat} {y : MethodName} {cd : Cond} (h1 : Cond.methodLink own idx y ∈ TBL) (h2 : Cond.instanceMethod y ∈ TBL) (h3 : Cond.selects C y y ∈ TBL) (h4 : Cond.initialized C ∈ TBL) (h5 : cd ∈ TBL) : GoodIn TBL (wsV own idx C y (cd :: TBL)) := by
  intro w hw
  have hm : w ∈ TBL := by
    rcases List.mem_append.mp hw with h | h
    · rcases List.mem_cons.mp h with rfl | h
      · exact h1
      · rcases List.mem_cons.mp h with rfl | h
        · exact h2
        · rcases List.mem_cons.mp h with rfl | h
          · exact h3
          · rcases List.mem_cons.mp h with rfl | h
            · exact h4
            · exact absurd h List.not_mem_nil
    · rcases List.mem_cons.mp h with rfl | h
      · exact h5
      · exact h
  exact ⟨hm, (tbl_good hm).2⟩
theorem good_C {cd : Cond} (h5 : cd ∈ TBL) : GoodIn TBL (cd :: TBL) := by
  intro w hw
  have hm : w ∈ TBL := by
    rcases List.mem_cons.mp hw with rfl | h
    · exact h5
    · exact h
  exact ⟨hm, (tbl_good hm).2⟩
/-! the words of nest mates -/
def nst : List (String × Nat × MethodName) := [("PawnLane$Lane", 66, yX5_isIn), ("PawnLane$Lane", 70, yX5_dueWith), ("PawnLane$Lane", 78, yX5_isOfKind), ("PawnLane$Orders", 44, yX5_isIn), ("PawnLane", 23, yX3_init), ("PawnLane", 30, yX1_init), ("PawnLane", 41, yX2_init), ("PawnLane$Lane", 36, yX0_init), ("PawnLane$Reader", 11, yX1_init)]
def NW (U : State) : Prop := ∀ q ∈ nst, va_Nw (.methodLinkNest q.1 q.2.1 q.2.2 "PawnLane") U
theorem NW.warm {s U : State} (h : NW s) (hW : s.WarmedH U.vm) : NW U := fun q hq => va_Nw.warmM hW (h q hq)
theorem NW.same {s U : State} (h : NW s) (hv : s.vm = U.vm) : NW U := fun q hq => va_Nw.same rfl hv (h q hq)
/-! the state: whole numbers and long ones, by cell and place -/
abbrev SX : Type := (Nat → Nat → Int32) × (Nat → Nat → Int64)
def wR (M : SX) (k : Nat) (f : Nat → Int32) : SX := (fun a => if a = k then f else M.1 a, M.2)
def wL (M : SX) (k : Nat) (f : Nat → Int64) : SX := (M.1, fun a => if a = k then f else M.2 a)
def wI (M : SX) (k j : Nat) (v : Int32) : SX := wR M k (upd (M.1 k) j v)
def wJ (M : SX) (k j : Nat) (v : Int64) : SX := wL M k (vp_updL (M.2 k) j v)
/-- a cell's shape: an object (its number among vwCl; its fields: 0 an int, 1 a long, n + 2 the cell n), or an array (0 ints, 1 longs, n + 2 the cells from n on, by nines; its length) -/
abbrev Shp : Type := (Nat × List Nat) ⊕ (Nat × Nat)
abbrev Zh : Type := (Nat → Shp) × Nat
/-- what is fixed of a heap: places of fields, addresses, the array kinds -/
abbrev XG : Type := va_G × (Nat → Nat) × ClassId × ClassId × ClassId
def fv (G : XG) (M : SX) (k j : Nat) : Nat → Value
  | 0 => .int (M.1 k j)
  | 1 => .long (M.2 k j)
  | n + 2 => .ref (G.2.1 n)
def entS (G : XG) (M : SX) (k : Nat) : Shp → va_E
  | .inl q => .inr (q.1, q.2.mapIdx (fun j c => fv G M k j c))
  | .inr (0, n) => .inl (G.2.2.1, n, .inl (M.1 k))
  | .inr (1, n) => .inl (G.2.2.2.1, n, .inr (.inl (M.2 k)))
  | .inr (b + 2, n) => .inl (G.2.2.2.2, n, .inr (.inr (.inr (.inr (fun j => some (G.2.1 (b + 9 * j)))))))
def wd (G : XG) (Z : Zh) (M : SX) : va_W := (List.range Z.2).map (fun k => (G.2.1 k, entS G M k (Z.1 k)))
def tysOf (G : XG) : List (ClassId × FieldType) := [(G.2.2.1, .int), (G.2.2.2.1, .long), (G.2.2.2.2, .object "PawnLane$Lane")]
def inA (G : XG) (Z : Zh) : Nat → Prop := fun q => ∃ k, k < Z.2 ∧ q = G.2.1 k
def Inj (G : XG) (Z : Zh) : Prop := ∀ i j, i < Z.2 → j < Z.2 → G.2.1 i = G.2.1 j → i = j
theorem wd_get {G : XG} {Z : Zh} {M : SX} {k : Nat} (h : k < Z.2) : (wd G Z M)[k]? = some (G.2.1 k, entS G M k (Z.1 k)) := by
  unfold wd
  rw [List.getElem?_map, List.getElem?_range h]
  rfl
theorem wd_at {G : XG} {Z : Zh} {M : SX} {k : Nat} {q : Nat × va_E} (h : (wd G Z M)[k]? = some q) : k < Z.2 ∧ q = (G.2.1 k, entS G M k (Z.1 k)) := by
  have hl := (List.getElem?_eq_some_iff.mp h).1
  have hk : k < Z.2 := by simpa [wd] using hl
  refine ⟨hk, ?_⟩
  rw [wd_get hk] at h
  exact (Option.some.inj h).symm
theorem wd_D {G : XG} {Z : Zh} (h : Inj G Z) (M : SX) : va_D (inA G Z) (wd G Z M) := by
  refine ⟨fun i j x y hi hj hxy => ?_, fun k q hk => ?_⟩
  · obtain ⟨h1, rfl⟩ := wd_at hi
    obtain ⟨h2, rfl⟩ := wd_at hj
    exact h i j h1 h2 hxy
  · obtain ⟨h1, rfl⟩ := wd_at hk
    exact ⟨k, h1, rfl⟩
theorem fv_eq {G : XG} {M M' : SX} {k j c : Nat} (h1 : M.1 k = M'.1 k) (h2 : M.2 k = M'.2 k) : fv G M k j c = fv G M' k j c := by
  match c with
  | 0 => simp [fv, h1]
  | 1 => simp [fv, h2]
  | n + 2 => rfl
theorem entS_eq {G : XG} {M M' : SX} {k : Nat} (sh : Shp) (h1 : M.1 k = M'.1 k) (h2 : M.2 k = M'.2 k) : entS G M k sh = entS G M' k sh := by
  match sh with
  | .inl q =>
    show Sum.inr _ = Sum.inr _
    have hf : (fun j c => fv G M k j c) = (fun j c => fv G M' k j c) := by
      funext j c
      exact fv_eq h1 h2
    rw [hf]
  | .inr (0, n) => simp [entS, h1]
  | .inr (1, n) => simp [entS, h2]
  | .inr (b + 2, n) => rfl
theorem wd_set {G : XG} {Z : Zh} {M M' : SX} {k : Nat} {e : va_E} (hk : k < Z.2) (h1 : ∀ a, a ≠ k → M.1 a = M'.1 a) (h2 : ∀ a, a ≠ k → M.2 a = M'.2 a) (he : entS G M' k (Z.1 k) = e) : (wd G Z M).set k (G.2.1 k, e) = wd G Z M' := by
  apply List.ext_getElem?
  intro i
  by_cases hi : i = k
  · subst hi
    rw [List.getElem?_set_self (by simpa [wd] using hk), wd_get hk, he]
  · rw [List.getElem?_set_ne (Ne.symm hi)]
    by_cases hl : i < Z.2
    · rw [wd_get hl, wd_get hl, entS_eq (Z.1 i) (h1 i hi) (h2 i hi)]
    · rw [List.getElem?_eq_none (by simpa [wd] using Nat.le_of_not_lt hl), List.getElem?_eq_none (by simpa [wd] using Nat.le_of_not_lt hl)]
theorem wR_ne {M : SX} {k a : Nat} {f : Nat → Int32} (h : a ≠ k) : (wR M k f).1 a = M.1 a := by simp [wR, h]
theorem wR_self {M : SX} {k : Nat} {f : Nat → Int32} : (wR M k f).1 k = f := by simp [wR]
theorem wL_ne {M : SX} {k a : Nat} {f : Nat → Int64} (h : a ≠ k) : (wL M k f).2 a = M.2 a := by simp [wL, h]
theorem wL_self {M : SX} {k : Nat} {f : Nat → Int64} : (wL M k f).2 k = f := by simp [wL]
theorem wd_setR {G : XG} {Z : Zh} {M : SX} {k n : Nat} {f : Nat → Int32} (hk : k < Z.2) (hs : Z.1 k = .inr (0, n)) : (wd G Z M).set k (G.2.1 k, .inl (G.2.2.1, n, .inl f)) = wd G Z (wR M k f) := by
  refine wd_set hk (fun a h => (wR_ne h).symm) (fun a _ => rfl) ?_
  rw [hs]
  show Sum.inl _ = Sum.inl _
  rw [wR_self]
theorem wd_setL {G : XG} {Z : Zh} {M : SX} {k n : Nat} {f : Nat → Int64} (hk : k < Z.2) (hs : Z.1 k = .inr (1, n)) : (wd G Z M).set k (G.2.1 k, .inl (G.2.2.2.1, n, .inr (.inl f))) = wd G Z (wL M k f) := by
  refine wd_set hk (fun a _ => rfl) (fun a h => (wL_ne h).symm) ?_
  rw [hs]
  show Sum.inl _ = Sum.inl _
  rw [wL_self]
theorem wd_setI {G : XG} {Z : Zh} {M : SX} {k j ci : Nat} {cs : List Nat} {v : Int32} (hk : k < Z.2) (hs : Z.1 k = .inl (ci, cs)) (hc : cs[j]? = some 0) : (wd G Z M).set k (G.2.1 k, .inr (ci, (cs.mapIdx (fun j c => fv G M k j c)).set j (.int v))) = wd G Z (wI M k j v) := by
  refine wd_set hk (fun a h => (wR_ne h).symm) (fun a _ => rfl) ?_
  rw [hs]
  show Sum.inr _ = Sum.inr _
  congr 2
  apply List.ext_getElem?
  intro i
  have hl : j < cs.length := (List.getElem?_eq_some_iff.mp hc).1
  by_cases hi : i = j
  · subst hi
    rw [List.getElem?_set_self (by simpa using hl), List.getElem?_mapIdx, hc]
    simp [fv, wI, wR_self, upd]
  · rw [List.getElem?_set_ne (Ne.symm hi), List.getElem?_mapIdx, List.getElem?_mapIdx]
    congr 1
    funext c
    match c with
    | 0 => simp [fv, wI, wR_self, upd, hi]
    | 1 => rfl
    | n + 2 => rfl
theorem wd_setJ {G : XG} {Z : Zh} {M : SX} {k j ci : Nat} {cs : List Nat} {v : Int64} (hk : k < Z.2) (hs : Z.1 k = .inl (ci, cs)) (hc : cs[j]? = some 1) : (wd G Z M).set k (G.2.1 k, .inr (ci, (cs.mapIdx (fun j c => fv G M k j c)).set j (.long v))) = wd G Z (wJ M k j v) := by
  refine wd_set hk (fun a _ => rfl) (fun a h => (wL_ne h).symm) ?_
  rw [hs]
  show Sum.inr _ = Sum.inr _
  congr 2
  apply List.ext_getElem?
  intro i
  have hl : j < cs.length := (List.getElem?_eq_some_iff.mp hc).1
  by_cases hi : i = j
  · subst hi
    rw [List.getElem?_set_self (by simpa using hl), List.getElem?_mapIdx, hc]
    simp [fv, wJ, wL_self, vp_updL]
  · rw [List.getElem?_set_ne (Ne.symm hi), List.getElem?_mapIdx, List.getElem?_mapIdx]
    congr 1
    funext c
    match c with
    | 0 => rfl
    | 1 => simp [fv, wJ, wL_self, vp_updL, hi]
    | n + 2 => rfl
/-- the world as it stands in a walk -/
def Wld (G : XG) (Z : Zh) (M : SX) (H0 H : Heap) (locs : List Loc) : Prop := va_P G.1 vwCl (wd G Z M) H ∧ va_S (inA G Z) H0 H locs
def Fx (G : XG) (Z : Zh) (p : Program) (m : MethodId) (c : Code) (cc : ByteArray) (nL : Nat) (s : State) (args : Array Value) (own : String) : Prop :=
  CallFix p m c cc nL s args TBL own ∧ va_K G.1 vwCl (tysOf G) s ∧ NW s ∧ Inj G Z
def rmX (d : Nat) : Room := { frames := d, cells := 0, slots := 0, locals := 100 * d }
def xPc (G : XG) (Z : Zh) (M : SX) (av : List Value) : Array Value → State → Prop := va_Pc av (fun U => va_P G.1 vwCl (wd G Z M) U.heap ∧ va_K G.1 vwCl (tysOf G) U ∧ NW U ∧ Inj G Z)
def xQi (G : XG) (Z : Zh) (r : Int32) (M : SX) : Array Value → State → Outcome → State → Prop := va_Qi (fun (a : Int32) (_ : Unit) => a = r) (fun _ t => va_P G.1 vwCl (wd G Z M) t.heap) (inA G Z)
def xQl (G : XG) (Z : Zh) (r : Int64) (M : SX) : Array Value → State → Outcome → State → Prop := va_Ql (fun (a : Int64) (_ : Unit) => a = r) (fun _ t => va_P G.1 vwCl (wd G Z M) t.heap) (inA G Z)
def xQv (G : XG) (Z : Zh) (M : SX) : Array Value → State → Outcome → State → Prop := va_Qv (fun (_ : Unit) => True) (fun _ t => va_P G.1 vwCl (wd G Z M) t.heap) (inA G Z)
theorem xPc_blind (G : XG) (Z : Zh) (M : SX) (av : List Value) : FrameBlind (xPc G Z M av) := by
  intro a U g mk h
  obtain ⟨h1, h2, h3, h4, h5⟩ := h
  exact ⟨h1, h2, va_K.moved (u := U) (U := U.calling g mk a) (Vm.Alike.refl U.vm) h3, h4.same rfl, h5⟩
/-! plain words of the pure side -/
def gd {α : Type} (b : Bool) (x : Option α) : Option α := if b = true then x else none
def lt_ {α β : Type} (x : α) (f : α → β) : β := f x
def bd {α β : Type} (x : Option (α × SX)) (f : α → SX → Option β) : Option β := match x with
  | none => none
  | some q => f q.1 q.2
def bv {β : Type} (x : Option SX) (f : SX → Option β) : Option β := match x with
  | none => none
  | some q => f q
def bIn (i : Int32) (n : Nat) : Bool := decide (0 ≤ i ∧ i.toNatClampNeg < n)
def isB (v : Int32) : Bool := decide (v = 0 ∨ v = 1)
def nz (v : Int32) : Bool := decide (¬ v = 0)
def nzL (v : Int64) : Bool := decide (¬ v = 0)
def FU : Nat := 2000
theorem gd_some {α : Type} {b : Bool} {x : Option α} {r : α} (h : gd b x = some r) : b = true ∧ x = some r := by
  unfold gd at h
  split at h
  · rename_i hb; exact ⟨hb, h⟩
  · cases h
theorem lt_elim {α β : Type} {x : α} {f : α → β} {r : β} (h : lt_ x f = r) : ∃ y, y = x ∧ f y = r := ⟨x, rfl, h⟩
theorem bd_some {α β : Type} {x : Option (α × SX)} {f : α → SX → Option β} {r : β} (h : bd x f = some r) : ∃ a M, x = some (a, M) ∧ f a M = some r := by
  match x, h with
  | some (a, M), h => exact ⟨a, M, rfl, h⟩
theorem bv_some {β : Type} {x : Option SX} {f : SX → Option β} {r : β} (h : bv x f = some r) : ∃ M, x = some M ∧ f M = some r := by
  match x, h with
  | some M, h => exact ⟨M, rfl, h⟩
theorem it_t {α : Type} {c : Prop} [Decidable c] {a b : Option α} {r : Option α} (h : (if c then a else b) = r) (hc : c) : a = r := by rw [if_pos hc] at h; exact h
theorem it_f {α : Type} {c : Prop} [Decidable c] {a b : Option α} {r : Option α} (h : (if c then a else b) = r) (hc : ¬ c) : b = r := by rw [if_neg hc] at h; exact h
theorem bIn_vp {i : Int32} {n : Nat} (h : bIn i n = true) : vp_in i n := by
  have h1 : 0 ≤ i ∧ i.toNatClampNeg < n := by simpa [bIn] using h
  intro h2
  rcases h2 with h2 | h2
  · exact absurd h1.1 (Int32.not_le.mpr h2)
  · omega
theorem nz_ne {v : Int32} (h : nz v = true) : ¬ v = 0 := by simpa [nz] using h
theorem nzL_ne {v : Int64} (h : nzL v = true) : ¬ v = 0 := by simpa [nzL] using h
theorem isB_nar {v : Int32} (h : isB v = true) : narrow .boolean (.int v) = .int v := by
  have h1 : v = 0 ∨ v = 1 := by simpa [isB] using h
  rcases h1 with rfl | rfl <;> rfl
def xlp0 {β : Type} (body : (SX → Option β) → SX → Option β) : Nat → SX → Option β
  | 0, _ => none
  | n + 1, M => body (xlp0 body n) M
def xlp1 {A β : Type} (body : (A → SX → Option β) → A → SX → Option β) : Nat → A → SX → Option β
  | 0, _, _ => none
  | n + 1, a, M => body (xlp1 body n) a M
def xlp2 {A B β : Type} (body : (A → B → SX → Option β) → A → B → SX → Option β) : Nat → A → B → SX → Option β
  | 0, _, _, _ => none
  | n + 1, a, b, M => body (xlp2 body n) a b M
def xlp3 {A B C β : Type} (body : (A → B → C → SX → Option β) → A → B → C → SX → Option β) : Nat → A → B → C → SX → Option β
  | 0, _, _, _, _ => none
  | n + 1, a, b, c, M => body (xlp3 body n) a b c M
def xlp4 {A B C D β : Type} (body : (A → B → C → D → SX → Option β) → A → B → C → D → SX → Option β) : Nat → A → B → C → D → SX → Option β
  | 0, _, _, _, _, _ => none
  | n + 1, a, b, c, d, M => body (xlp4 body n) a b c d M
def xlp5 {A B C D E β : Type} (body : (A → B → C → D → E → SX → Option β) → A → B → C → D → E → SX → Option β) : Nat → A → B → C → D → E → SX → Option β
  | 0, _, _, _, _, _, _ => none
  | n + 1, a, b, c, d, e, M => body (xlp5 body n) a b c d e M
def xlp6 {A B C D E F β : Type} (body : (A → B → C → D → E → F → SX → Option β) → A → B → C → D → E → F → SX → Option β) : Nat → A → B → C → D → E → F → SX → Option β
  | 0, _, _, _, _, _, _, _ => none
  | n + 1, a, b, c, d, e, f, M => body (xlp6 body n) a b c d e f M
def xlp7 {A B C D E F G β : Type} (body : (A → B → C → D → E → F → G → SX → Option β) → A → B → C → D → E → F → G → SX → Option β) : Nat → A → B → C → D → E → F → G → SX → Option β
  | 0, _, _, _, _, _, _, _, _ => none
  | n + 1, a, b, c, d, e, f, g, M => body (xlp7 body n) a b c d e f g M
def xlp8 {A B C D E F G K β : Type} (body : (A → B → C → D → E → F → G → K → SX → Option β) → A → B → C → D → E → F → G → K → SX → Option β) : Nat → A → B → C → D → E → F → G → K → SX → Option β
  | 0, _, _, _, _, _, _, _, _, _ => none
  | n + 1, a, b, c, d, e, f, g, k, M => body (xlp8 body n) a b c d e f g k M
end
section
section XWalk
variable {G : XG} {Z : Zh} {p : Program} {l : Launch} {e : Env} {R : Room} {s : State} {m : MethodId} {args : Array Value} {below : List Frame} {meth : Method} {c : Code} {H : Heap} {locs : List Loc} {Q : State → Prop}
variable {cc : ByteArray} {pc nL : Nat} {ls : Array Slot} {rest : List Value} {M : SX} {own : String}
theorem x_let {x y : Int32} (h : y = x) (k : W p l e R s m args below meth c H locs 0 0 Q (F0 m pc ls (.int y :: rest))) : W p l e R s m args below meth c H locs 0 0 Q (F0 m pc ls (.int x :: rest)) := h ▸ k
theorem x_letL {x y : Int64} (h : y = x) (k : W p l e R s m args below meth c H locs 0 0 Q (F0 m pc ls (.long y :: rest))) : W p l e R s m args below meth c H locs 0 0 Q (F0 m pc ls (.long x :: rest)) := h ▸ k
/-- a field is read -/
theorem x_get (F : Fx G Z p m c cc nL s args own) (hw : Wld G Z M s.heap H locs) {k j ci code index : Nat} {cs : List Nat} {C : String} {T : u_T} {N : Nat} (hk : k < Z.2) (hs : Z.1 k = .inl (ci, cs)) (hc : cs[j]? = some code) (hcl : vwCl[ci]? = some (C, T, N)) (hin : ∀ w ∈ u_ws C T N, w ∈ TBL) (hj : j < N) (hlk : Cond.fieldLink own index (T j).1 (T j).2.1 (T j).2.2.1 ∈ TBL) (hdg : decode cc pc = .ok (.getfield index, 3))
    (kk : W p l e R s m args below meth c H locs 0 0 Q (F0 m (pc + 3) ls (fv G M k j code :: rest))) : W p l e R s m args below meth c H locs 0 0 Q (F0 m pc ls (.ref (G.2.1 k) :: rest)) := by
  obtain ⟨⟨hx, hb, hml, hown, hts⟩, hK, hN, hI⟩ := F
  have he := wd_get (G := G) (M := M) hk
  rw [hs] at he
  exact va_get (D := G.1) (ci := ci) (v := fv G M k j code) (C := C) (T := T) (N := N) hx hb hts hin hown hK hw.1 k he hcl j hj (hts _ hlk) (fun _ h9 => h9) (by rw [List.getElem?_mapIdx, hc]; rfl) hdg kk
/-- an int field is written -/
theorem x_putI (F : Fx G Z p m c cc nL s args own) (hw : Wld G Z M s.heap H locs) {k j ci index : Nat} {cs : List Nat} {C : String} {T : u_T} {N : Nat} {v : Int32} {ty : FieldType} (hk : k < Z.2) (hs : Z.1 k = .inl (ci, cs)) (hc : cs[j]? = some 0) (hcl : vwCl[ci]? = some (C, T, N)) (hin : ∀ w ∈ u_ws C T N, w ∈ TBL) (ty0 : Nat → FieldType) (hty : ∀ k, k < N → parseFieldDescriptor (T k).2.2.1 = some (ty0 k)) (hnm : ∀ a, a < N → ∀ b, b < N → a ≠ b → (T a).2.1 ≠ (T b).2.1) (hj : j < N) (hlk : Cond.fieldLink own index (T j).1 (T j).2.1 (T j).2.2.1 ∈ TBL) (hfin : (T j).2.2.2 = false) (hd : parseFieldDescriptor (T j).2.2.1 = some ty) (hn : narrow ty (.int v) = .int v) (hfit : fits ty (.int v) = true) (hdg : decode cc pc = .ok (.putfield index, 3))
    (kk : ∀ (H1 : Heap) (locs1 : List Loc), Wld G Z (wI M k j v) s.heap H1 locs1 → W p l e R s m args below meth c H1 locs1 0 0 Q (F0 m (pc + 3) ls rest)) : W p l e R s m args below meth c H locs 0 0 Q (F0 m pc ls (.int v :: .ref (G.2.1 k) :: rest)) := by
  obtain ⟨⟨hx, hb, hml, hown, hts⟩, hK, hN, hI⟩ := F
  have he := wd_get (G := G) (M := M) hk
  rw [hs] at he
  have hl : j < cs.length := (List.getElem?_eq_some_iff.mp hc).1
  refine va_put (D := G.1) (ci := ci) (v := .int v) (ty := ty) (C := C) (T := T) (N := N) hx hb hts hin ty0 hty hnm hown hK hw.1 (wd_D hI M) hw.2 k he hcl j hj (hts _ hlk) (fun _ h9 => h9) hfin hd hn hfit (by simpa using hl) hdg (fun H1 locs1 hP _ hS => kk H1 locs1 ⟨?_, hS⟩)
  rw [← wd_setI hk hs hc]
  exact hP
/-- a long field is written -/
theorem x_putJ (F : Fx G Z p m c cc nL s args own) (hw : Wld G Z M s.heap H locs) {k j ci index : Nat} {cs : List Nat} {C : String} {T : u_T} {N : Nat} {v : Int64} (hk : k < Z.2) (hs : Z.1 k = .inl (ci, cs)) (hc : cs[j]? = some 1) (hcl : vwCl[ci]? = some (C, T, N)) (hin : ∀ w ∈ u_ws C T N, w ∈ TBL) (ty0 : Nat → FieldType) (hty : ∀ k, k < N → parseFieldDescriptor (T k).2.2.1 = some (ty0 k)) (hnm : ∀ a, a < N → ∀ b, b < N → a ≠ b → (T a).2.1 ≠ (T b).2.1) (hj : j < N) (hlk : Cond.fieldLink own index (T j).1 (T j).2.1 (T j).2.2.1 ∈ TBL) (hfin : (T j).2.2.2 = false) (hd : parseFieldDescriptor (T j).2.2.1 = some .long) (hdg : decode cc pc = .ok (.putfield index, 3))
    (kk : ∀ (H1 : Heap) (locs1 : List Loc), Wld G Z (wJ M k j v) s.heap H1 locs1 → W p l e R s m args below meth c H1 locs1 0 0 Q (F0 m (pc + 3) ls rest)) : W p l e R s m args below meth c H locs 0 0 Q (F0 m pc ls (.long v :: .ref (G.2.1 k) :: rest)) := by
  obtain ⟨⟨hx, hb, hml, hown, hts⟩, hK, hN, hI⟩ := F
  have he := wd_get (G := G) (M := M) hk
  rw [hs] at he
  have hl : j < cs.length := (List.getElem?_eq_some_iff.mp hc).1
  refine va_put (D := G.1) (ci := ci) (v := .long v) (ty := .long) (C := C) (T := T) (N := N) hx hb hts hin ty0 hty hnm hown hK hw.1 (wd_D hI M) hw.2 k he hcl j hj (hts _ hlk) (fun _ h9 => h9) hfin hd rfl rfl (by simpa using hl) hdg (fun H1 locs1 hP _ hS => kk H1 locs1 ⟨?_, hS⟩)
  rw [← wd_setJ hk hs hc]
  exact hP
/-- an int of an array is read -/
theorem x_iald (F : Fx G Z p m c cc nL s args own) (hw : Wld G Z M s.heap H locs) {k n : Nat} {i : Int32} (hs : k < Z.2 ∧ Z.1 k = .inr (0, n)) (hi : bIn i n = true) (hdg : decode cc pc = .ok (.iaload, 1))
    (kk : W p l e R s m args below meth c H locs 0 0 Q (F0 m (pc + 1) ls (.int (M.1 k i.toNatClampNeg) :: rest))) : W p l e R s m args below meth c H locs 0 0 Q (F0 m pc ls (.int i :: .ref (G.2.1 k) :: rest)) := by
  obtain ⟨⟨hx, hb, hml, hown, hts⟩, hK, hN, hI⟩ := F
  have he := wd_get (G := G) (M := M) hs.1
  rw [hs.2] at he
  exact va_iald (D := G.1) hx hb hK hw.1 k 0 (cA := G.2.2.1) (n := n) (f := M.1 k) he rfl (bIn_vp hi) hdg kk
theorem x_iast (F : Fx G Z p m c cc nL s args own) (hw : Wld G Z M s.heap H locs) {k n : Nat} {i v : Int32} (hs : k < Z.2 ∧ Z.1 k = .inr (0, n)) (hi : bIn i n = true) (hdg : decode cc pc = .ok (.iastore, 1))
    (kk : ∀ (H1 : Heap) (locs1 : List Loc), Wld G Z (wI M k i.toNatClampNeg v) s.heap H1 locs1 → W p l e R s m args below meth c H1 locs1 0 0 Q (F0 m (pc + 1) ls rest)) : W p l e R s m args below meth c H locs 0 0 Q (F0 m pc ls (.int v :: .int i :: .ref (G.2.1 k) :: rest)) := by
  obtain ⟨⟨hx, hb, hml, hown, hts⟩, hK, hN, hI⟩ := F
  have he := wd_get (G := G) (M := M) hs.1
  rw [hs.2] at he
  refine va_iast (D := G.1) hx hb hK hw.1 (wd_D hI M) hw.2 k 0 (cA := G.2.2.1) (n := n) (f := M.1 k) he rfl (bIn_vp hi) hdg (fun H1 locs1 hP _ hS => kk H1 locs1 ⟨?_, hS⟩)
  rw [wI, ← wd_setR hs.1 hs.2]
  exact hP
theorem x_lald (F : Fx G Z p m c cc nL s args own) (hw : Wld G Z M s.heap H locs) {k n : Nat} {i : Int32} (hs : k < Z.2 ∧ Z.1 k = .inr (1, n)) (hi : bIn i n = true) (hdg : decode cc pc = .ok (.laload, 1))
    (kk : W p l e R s m args below meth c H locs 0 0 Q (F0 m (pc + 1) ls (.long (M.2 k i.toNatClampNeg) :: rest))) : W p l e R s m args below meth c H locs 0 0 Q (F0 m pc ls (.int i :: .ref (G.2.1 k) :: rest)) := by
  obtain ⟨⟨hx, hb, hml, hown, hts⟩, hK, hN, hI⟩ := F
  have he := wd_get (G := G) (M := M) hs.1
  rw [hs.2] at he
  exact va_lald (D := G.1) hx hb hK hw.1 k 1 (cA := G.2.2.2.1) (n := n) (f := M.2 k) he rfl (bIn_vp hi) hdg kk
theorem x_last (F : Fx G Z p m c cc nL s args own) (hw : Wld G Z M s.heap H locs) {k n : Nat} {i : Int32} {v : Int64} (hs : k < Z.2 ∧ Z.1 k = .inr (1, n)) (hi : bIn i n = true) (hdg : decode cc pc = .ok (.lastore, 1))
    (kk : ∀ (H1 : Heap) (locs1 : List Loc), Wld G Z (wJ M k i.toNatClampNeg v) s.heap H1 locs1 → W p l e R s m args below meth c H1 locs1 0 0 Q (F0 m (pc + 1) ls rest)) : W p l e R s m args below meth c H locs 0 0 Q (F0 m pc ls (.long v :: .int i :: .ref (G.2.1 k) :: rest)) := by
  obtain ⟨⟨hx, hb, hml, hown, hts⟩, hK, hN, hI⟩ := F
  have he := wd_get (G := G) (M := M) hs.1
  rw [hs.2] at he
  refine va_last (D := G.1) hx hb hK hw.1 (wd_D hI M) hw.2 k 1 (cA := G.2.2.2.1) (n := n) (f := M.2 k) he rfl (bIn_vp hi) hdg (fun H1 locs1 hP _ hS => kk H1 locs1 ⟨?_, hS⟩)
  rw [wJ, ← wd_setL hs.1 hs.2]
  exact hP
theorem x_aald (F : Fx G Z p m c cc nL s args own) (hw : Wld G Z M s.heap H locs) {k b n : Nat} {i : Int32} (hs : k < Z.2 ∧ Z.1 k = .inr (b + 2, n)) (hi : bIn i n = true) (hdg : decode cc pc = .ok (.aaload, 1))
    (kk : W p l e R s m args below meth c H locs 0 0 Q (F0 m (pc + 1) ls (.ref (G.2.1 (b + 9 * i.toNatClampNeg)) :: rest))) : W p l e R s m args below meth c H locs 0 0 Q (F0 m pc ls (.int i :: .ref (G.2.1 k) :: rest)) := by
  obtain ⟨⟨hx, hb, hml, hown, hts⟩, hK, hN, hI⟩ := F
  have he := wd_get (G := G) (M := M) hs.1
  rw [hs.2] at he
  exact va_aldq (D := G.1) hx hb hK hw.1 k 2 (cA := G.2.2.2.2) (C := "PawnLane$Lane") (n := n) (f := fun j => some (G.2.1 (b + 9 * j))) he rfl (bIn_vp hi) hdg kk
theorem x_alenI (F : Fx G Z p m c cc nL s args own) (hw : Wld G Z M s.heap H locs) {k n : Nat} (hs : k < Z.2 ∧ Z.1 k = .inr (0, n)) (hdg : decode cc pc = .ok (.arraylength, 1))
    (kk : W p l e R s m args below meth c H locs 0 0 Q (F0 m (pc + 1) ls (.int (Int32.ofNat n) :: rest))) : W p l e R s m args below meth c H locs 0 0 Q (F0 m pc ls (.ref (G.2.1 k) :: rest)) := by
  obtain ⟨⟨hx, hb, hml, hown, hts⟩, hK, hN, hI⟩ := F
  have he := wd_get (G := G) (M := M) hs.1
  rw [hs.2] at he
  exact va_alen (D := G.1) hx hb hK hw.1 k 0 (cA := G.2.2.1) he (ty := .int) rfl (v := Int32.ofNat n) rfl hdg kk
/-- a stretch of ints is copied -/
def cpOk (sp dp n : Int32) (n0 n1 : Nat) : Bool := decide (0 ≤ sp ∧ 0 ≤ dp ∧ 0 ≤ n ∧ sp.toNatClampNeg + n.toNatClampNeg ≤ n0 ∧ dp.toNatClampNeg + n.toNatClampNeg ≤ n1)
theorem x_copy (F : Fx G Z p m c cc nL s args own) (hw : Wld G Z M s.heap H locs) (hln : ls.size = nL) {k0 k1 n0 n1 index : Nat} {sp dp n : Int32} (h0 : k0 < Z.2 ∧ Z.1 k0 = .inr (0, n0)) (h1 : k1 < Z.2 ∧ Z.1 k1 = .inr (0, n1)) (ho : cpOk sp dp n n0 n1 = true) (hlk : Cond.methodLink own index arraycopyName ∈ TBL) (hnt : Cond.native arraycopyName ∈ TBL) (hst : Cond.static arraycopyName ∈ TBL) (hin : Cond.initialized "java/lang/System" ∈ TBL) (hfr : 1 ≤ R.frames) (hlo : (rest.map fun v => v.category).sum + (nativeFrameWords "java/lang/System" "arraycopy" 5 + 11) ≤ R.locals) (hdg : decode cc pc = .ok (.invokestatic index, 3))
    (kk : ∀ (H1 : Heap) (locs1 : List Loc), Wld G Z (wR M k1 (va_cpy (M.1 k0) (M.1 k1) sp.toNatClampNeg dp.toNatClampNeg n.toNatClampNeg)) s.heap H1 locs1 → W p l e R s m args below meth c H1 locs1 0 0 Q (F0 m (pc + 3) ls rest)) : W p l e R s m args below meth c H locs 0 0 Q (F0 m pc ls (.int n :: .int dp :: .ref (G.2.1 k1) :: .int sp :: .ref (G.2.1 k0) :: rest)) := by
  obtain ⟨⟨hx, hb, hml, hown, hts⟩, hK, hN, hI⟩ := F
  have he := wd_get (G := G) (M := M) h0.1
  rw [h0.2] at he
  have he1 := wd_get (G := G) (M := M) h1.1
  rw [h1.2] at he1
  have ho : 0 ≤ sp ∧ 0 ≤ dp ∧ 0 ≤ n ∧ sp.toNatClampNeg + n.toNatClampNeg ≤ n0 ∧ dp.toNatClampNeg + n.toNatClampNeg ≤ n1 := by simpa [cpOk] using ho
  refine va_copyi (D := G.1) hx hb (by rw [hml, hln]) hown (hts _ hlk) (hts _ hnt) (hts _ hst) (hts _ hin) hK hw.1 (wd_D hI M) hw.2 k0 k1 0 0 (f := M.1 k0) (g := M.1 k1) he he1 rfl rfl rfl (Int32.not_lt.mpr ho.1) (Int32.not_lt.mpr ho.2.1) (Int32.not_lt.mpr ho.2.2.1) ho.2.2.2.1 ho.2.2.2.2 (fun _ _ => rfl) hfr hlo hdg (fun H1 locs1 hP _ hS => kk H1 locs1 ⟨?_, hS⟩)
  rw [← wd_setR h1.1 h1.2]
  exact hP
end XWalk
def jmax (x y : Int32) : Int32 := if x < y then y else x
def jmin (x y : Int32) : Int32 := if y < x then y else x
def jmaxL (x y : Int64) : Int64 := if y < x then x else y
section XMath
variable {G : XG} {Z : Zh} {p : Program} {l : Launch} {e : Env} {R : Room} {s : State} {m : MethodId} {args : Array Value} {below : List Frame} {meth : Method} {c : Code} {H : Heap} {locs : List Loc} {Q : State → Prop}
variable {cc : ByteArray} {pc nL index : Nat} {ls : Array Slot} {rest : List Value} {M : SX} {own : String}
theorem x_max (F : Fx G Z p m c cc nL s args own) (hln : ls.size = nL) {x y : Int32} (h1 : Cond.methodLink own index Lib.Math.max.name ∈ TBL) (h2 : Cond.static Lib.Math.max.name ∈ TBL) (h3 : Cond.initialized "java/lang/Math" ∈ TBL) (h4 : Cond.code Lib.Math.max.name Lib.Math.max.code 2 (some .int) ∈ TBL) (hf : 1 ≤ R.frames) (hl : (rest.map fun v => v.category).sum + 13 ≤ R.locals) (hdg : decode cc pc = .ok (.invokestatic index, 3))
    (kk : W p l e R s m args below meth c H locs 0 0 Q (F0 m (pc + 3) ls (.int (jmax x y) :: rest))) : W p l e R s m args below meth c H locs 0 0 Q (F0 m pc ls (.int y :: .int x :: rest)) := by
  obtain ⟨⟨hx, hb, hml, hown, hts⟩, hK, hN, hI⟩ := F
  exact va_mmax hx hb (by rw [hml, hln]) hown (hts _ h1) (hts _ h2) (hts _ h3) (hts _ h4) hf hl (Nat.zero_le _) (Nat.zero_le _) hdg kk
theorem x_min (F : Fx G Z p m c cc nL s args own) (hln : ls.size = nL) {x y : Int32} (h1 : Cond.methodLink own index Lib.Math.min.name ∈ TBL) (h2 : Cond.static Lib.Math.min.name ∈ TBL) (h3 : Cond.initialized "java/lang/Math" ∈ TBL) (h4 : Cond.code Lib.Math.min.name Lib.Math.min.code 2 (some .int) ∈ TBL) (hf : 1 ≤ R.frames) (hl : (rest.map fun v => v.category).sum + 13 ≤ R.locals) (hdg : decode cc pc = .ok (.invokestatic index, 3))
    (kk : W p l e R s m args below meth c H locs 0 0 Q (F0 m (pc + 3) ls (.int (jmin x y) :: rest))) : W p l e R s m args below meth c H locs 0 0 Q (F0 m pc ls (.int y :: .int x :: rest)) := by
  obtain ⟨⟨hx, hb, hml, hown, hts⟩, hK, hN, hI⟩ := F
  exact va_mmin hx hb (by rw [hml, hln]) hown (hts _ h1) (hts _ h2) (hts _ h3) (hts _ h4) hf hl (Nat.zero_le _) (Nat.zero_le _) hdg kk
theorem x_maxL (F : Fx G Z p m c cc nL s args own) (hln : ls.size = nL) {x y : Int64} (h1 : Cond.methodLink own index Lib.MathLoose.max_long.x ∈ TBL) (h2 : Cond.static Lib.MathLoose.max_long.x ∈ TBL) (h3 : Cond.initialized "java/lang/Math" ∈ TBL) (h4 : Cond.code Lib.MathLoose.max_long.x Lib.MathLoose.max_long.code 4 (some .long) ∈ TBL) (hf : 1 ≤ R.frames) (hl : (rest.map fun v => v.category).sum + 15 ≤ R.locals) (hdg : decode cc pc = .ok (.invokestatic index, 3))
    (kk : W p l e R s m args below meth c H locs 0 0 Q (F0 m (pc + 3) ls (.long (jmaxL x y) :: rest))) : W p l e R s m args below meth c H locs 0 0 Q (F0 m pc ls (.long y :: .long x :: rest)) := by
  obtain ⟨⟨hx, hb, hml, hown, hts⟩, hK, hN, hI⟩ := F
  exact va_mmax_long hx hb (by rw [hml, hln]) hown (hts _ h1) (hts _ h2) (hts _ h3) (hts _ h4) hf hl (Nat.zero_le _) (Nat.zero_le _) hdg kk
end XMath
end
section
section XCall
variable {G : XG} {Z : Zh} {p : Program} {l : Launch} {e : Env} {R : Room} {s : State} {m : MethodId} {args : Array Value} {below : List Frame} {meth : Method} {c : Code} {H : Heap} {locs : List Loc} {Q : State → Prop}
variable {cc : ByteArray} {pc nL : Nat} {ls : Array Slot} {rest st0 : List Value} {M M' : SX} {own : String}
/-- the words of a call -/
def VW (own : String) (index : Nat) (C : String) (y : MethodName) (cd : Cond) (n : Nat) : Prop := GoodIn TBL (wsV own index C y (cd :: TBL)) ∧ y.cls = C ∧ y.cls ≠ "java/lang/invoke/MethodHandle" ∧ y.cls ≠ "java/lang/invoke/VarHandle" ∧ (parseMethodDescriptor y.desc).map (fun d => d.parameters.length) = some n
def SW (own : String) (index : Nat) (y : MethodName) (cd : Cond) (n : Nat) : Prop := GoodIn TBL (cd :: TBL) ∧ Cond.initialized y.cls ∈ TBL ∧ Cond.methodLink own index y ∈ TBL ∧ Cond.static y ∈ TBL ∧ y.cls ≠ "java/lang/invoke/MethodHandle" ∧ y.cls ≠ "java/lang/invoke/VarHandle" ∧ (parseMethodDescriptor y.desc).map (fun d => d.parameters.length) = some n
def NN (own : String) (index : Nat) (y : MethodName) (cd : Cond) (n : Nat) : Prop := GoodIn TBL (cd :: TBL) ∧ Cond.initialized y.cls ∈ TBL ∧ (own, index, y) ∈ nst ∧ Cond.static y ∈ TBL ∧ y.cls ≠ "java/lang/invoke/MethodHandle" ∧ y.cls ≠ "java/lang/invoke/VarHandle" ∧ (parseMethodDescriptor y.desc).map (fun d => d.parameters.length) = some n
abbrev rok (R : Room) (maxL d : Nat) : Prop := (rmX d).frames + 1 ≤ R.frames ∧ 8 + (maxL + 11) + (rmX d).locals ≤ R.locals
theorem x_runV {y : MethodName} {C : String} {T : u_T} {N index maxL n d k ci : Nat} {cs : List Nat} {bytes : ByteArray} {ret : Option FieldType} {As : List Value} {Qc : Array Value → State → Outcome → State → Prop} (F : Fx G Z p m c cc nL s args own) (hw : Wld G Z M s.heap H locs) (hln : ls.size = nL) (hv : VW own index C y (.code y bytes maxL ret) n) (hs : k < Z.2 ∧ Z.1 k = .inl (ci, cs)) (hcl : vwCl[ci]? = some (C, T, N)) (hM : Met l y (.code y bytes maxL ret :: TBL) (rmX d) (xPc G Z M (.ref (G.2.1 k) :: As)) Qc 0 0 (inA G Z)) (hn : As.length = n) (hst : st0 = As.reverse ++ .ref (G.2.1 k) :: rest) (hcat : (rest.map fun v => v.category).sum ≤ 8) (hR : rok R maxL d) (hdg : decode cc pc = .ok (.invokevirtual index, 3)) :
    va_Run p l e R s m args below meth c H locs 0 0 0 0 (F0 m pc ls st0) rest (Qc (Value.ref (G.2.1 k) :: As).toArray) (inA G Z) := by
  obtain ⟨hCF, hK, hN, hI⟩ := F
  have he := wd_get (G := G) (M := M) hs.1
  rw [hs.2] at he
  refine va_runV (As := As) (rest := rest) hCF hM (cwV n hCF.2.2.2.2 hv.1 rfl rfl rfl hv.2 hR) ⟨xPc_blind G Z M _, va_recv hK hw.1 hcl he, fun U hU hW => ⟨rfl, by rw [hU]; exact hw.1, va_K.moved hW.alike hK, hN.warm hW, hI⟩⟩ rfl hn hln hst (lv_room hcat) hdg ⟨Nat.zero_le _, Nat.zero_le _⟩
theorem x_runS {y : MethodName} {index maxL n d : Nat} {bytes : ByteArray} {ret : Option FieldType} {As : List Value} {Qc : Array Value → State → Outcome → State → Prop} (F : Fx G Z p m c cc nL s args own) (hw : Wld G Z M s.heap H locs) (hln : ls.size = nL) (hv : SW own index y (.code y bytes maxL ret) n) (hM : Met l y (.code y bytes maxL ret :: TBL) (rmX d) (xPc G Z M As) Qc 0 0 (inA G Z)) (hn : As.length = n) (hst : st0 = As.reverse ++ rest) (hcat : (rest.map fun v => v.category).sum ≤ 8) (hR : rok R maxL d) (hdg : decode cc pc = .ok (.invokestatic index, 3)) :
    va_Run p l e R s m args below meth c H locs 0 0 0 0 (F0 m pc ls st0) rest (Qc As.toArray) (inA G Z) := by
  obtain ⟨hCF, hK, hN, hI⟩ := F
  have hts := hCF.2.2.2.2
  refine va_runS (As := As) (rest := rest) hCF hM ⟨callB_of n hts hv.1 rfl rfl rfl (hts _ hv.2.1) (hts _ hv.2.2.1) hv.2.2.2.2 hR, hts _ hv.2.2.2.1⟩ ⟨xPc_blind G Z M _, fun U hU hW => ⟨rfl, by rw [hU]; exact hw.1, va_K.moved hW.alike hK, hN.warm hW, hI⟩⟩ rfl hn hln hst (lv_room hcat) hdg ⟨Nat.zero_le _, Nat.zero_le _⟩
theorem x_runN {y : MethodName} {index maxL n d : Nat} {bytes : ByteArray} {ret : Option FieldType} {As : List Value} {Qc : Array Value → State → Outcome → State → Prop} (F : Fx G Z p m c cc nL s args own) (hw : Wld G Z M s.heap H locs) (hln : ls.size = nL) (hv : NN own index y (.code y bytes maxL ret) n) (hM : Met l y (.code y bytes maxL ret :: TBL) (rmX d) (xPc G Z M As) Qc 0 0 (inA G Z)) (hn : As.length = n) (hst : st0 = As.reverse ++ rest) (hcat : (rest.map fun v => v.category).sum ≤ 8) (hR : rok R maxL d) (hdg : decode cc pc = .ok (.invokestatic index, 3)) :
    va_Run p l e R s m args below meth c H locs 0 0 0 0 (F0 m pc ls st0) rest (Qc As.toArray) (inA G Z) := by
  obtain ⟨hCF, hK, hN, hI⟩ := F
  have hts := hCF.2.2.2.2
  refine va_runSN (As := As) (rest := rest) (host := "PawnLane") hCF hM ⟨va_cnB n hts hv.1 rfl rfl rfl (hN _ hv.2.2.1) (hts _ hv.2.1) hv.2.2.2.2 hR, hts _ hv.2.2.2.1, trivial⟩ ⟨xPc_blind G Z M _, fun U hU hW => ⟨rfl, by rw [hU]; exact hw.1, va_K.moved hW.alike hK, hN.warm hW, hI⟩⟩ rfl hn hln hst (lv_room hcat) hdg ⟨Nat.zero_le _, Nat.zero_le _⟩
theorem x_aftI {a : Array Value} {r : Int32} (hw : Wld G Z M s.heap H locs) (hr : va_Run p l e R s m args below meth c H locs 0 0 0 0 (F0 m pc ls st0) rest (xQi G Z r M' a) (inA G Z))
    (kk : ∀ (H1 : Heap) (locs1 : List Loc), Wld G Z M' s.heap H1 locs1 → W p l e R s m args below meth c H1 locs1 0 0 Q (F0 m (pc + 3) ls (.int r :: rest))) : W p l e R s m args below meth c H locs 0 0 Q (F0 m pc ls st0) := by
  refine va_calli hr hw.2 (fun _ _ h => h) (fun _ h => h) (fun r1 u t H1 locs1 ht _ hr1 hP _ _ hS => ?_)
  have hP : va_P G.1 vwCl (wd G Z M') t.heap := hP
  have hr1 : r1 = r := hr1
  rw [ht] at hP
  rw [hr1]
  exact kk H1 locs1 ⟨hP, hS⟩
theorem x_aftL {a : Array Value} {r : Int64} (hw : Wld G Z M s.heap H locs) (hr : va_Run p l e R s m args below meth c H locs 0 0 0 0 (F0 m pc ls st0) rest (xQl G Z r M' a) (inA G Z))
    (kk : ∀ (H1 : Heap) (locs1 : List Loc), Wld G Z M' s.heap H1 locs1 → W p l e R s m args below meth c H1 locs1 0 0 Q (F0 m (pc + 3) ls (.long r :: rest))) : W p l e R s m args below meth c H locs 0 0 Q (F0 m pc ls st0) := by
  refine va_calll hr hw.2 (fun _ _ h => h) (fun _ h => h) (fun r1 u t H1 locs1 ht _ hr1 hP _ _ hS => ?_)
  have hP : va_P G.1 vwCl (wd G Z M') t.heap := hP
  have hr1 : r1 = r := hr1
  rw [ht] at hP
  rw [hr1]
  exact kk H1 locs1 ⟨hP, hS⟩
theorem x_aftV {a : Array Value} (hw : Wld G Z M s.heap H locs) (hr : va_Run p l e R s m args below meth c H locs 0 0 0 0 (F0 m pc ls st0) rest (xQv G Z M' a) (inA G Z))
    (kk : ∀ (H1 : Heap) (locs1 : List Loc), Wld G Z M' s.heap H1 locs1 → W p l e R s m args below meth c H1 locs1 0 0 Q (F0 m (pc + 3) ls rest)) : W p l e R s m args below meth c H locs 0 0 Q (F0 m pc ls st0) := by
  refine va_callv hr hw.2 (fun _ _ h => h) (fun _ h => h) (fun u t H1 locs1 ht _ _ hP _ _ hS => ?_)
  have hP : va_P G.1 vwCl (wd G Z M') t.heap := hP
  rw [ht] at hP
  exact kk H1 locs1 ⟨hP, hS⟩
theorem x_iret {v r : Int32} (F : Fx G Z p m c cc nL s args own) (hw : Wld G Z M s.heap H locs) (hr : meth.sig.returnType = some .int) (hlk : meth.locks = false) (hf : some (v, M) = some (r, M')) (hdg : decode cc pc = .ok (.ireturn, 1)) : W p l e R s m args below meth c H locs 0 0 (MQ below (xQi G Z r M') args s 0 0 (inA G Z)) (F0 m pc ls [.int v]) := by
  cases hf
  exact W.iret F.1.1 F.1.2.1 hr (fun t ht _ => ⟨⟨v, (), rfl, rfl, by show va_P _ _ _ _; rw [ht]; exact hw.1⟩, hw.2.F ht⟩) hw.2.2.2 hdg hlk
theorem x_zret {v r : Int32} (F : Fx G Z p m c cc nL s args own) (hw : Wld G Z M s.heap H locs) (hr : meth.sig.returnType = some .boolean) (hlk : meth.locks = false) (hn : narrow .boolean (.int v) = .int v) (hf : some (v, M) = some (r, M')) (hdg : decode cc pc = .ok (.ireturn, 1)) : W p l e R s m args below meth c H locs 0 0 (MQ below (xQi G Z r M') args s 0 0 (inA G Z)) (F0 m pc ls [.int v]) := by
  cases hf
  exact W.zret F.1.1 F.1.2.1 hr hn (fun t ht _ => ⟨⟨v, (), rfl, rfl, by show va_P _ _ _ _; rw [ht]; exact hw.1⟩, hw.2.F ht⟩) hw.2.2.2 hdg hlk
theorem x_lret {v r : Int64} (F : Fx G Z p m c cc nL s args own) (hw : Wld G Z M s.heap H locs) (hr : meth.sig.returnType = some .long) (hlk : meth.locks = false) (hf : some (v, M) = some (r, M')) (hdg : decode cc pc = .ok (.lreturn, 1)) : W p l e R s m args below meth c H locs 0 0 (MQ below (xQl G Z r M') args s 0 0 (inA G Z)) (F0 m pc ls [.long v]) := by
  cases hf
  exact W.lret F.1.1 F.1.2.1 hr (fun t ht _ => ⟨⟨v, (), rfl, rfl, by show va_P _ _ _ _; rw [ht]; exact hw.1⟩, hw.2.F ht⟩) hw.2.2.2 hdg hlk
theorem x_vret (F : Fx G Z p m c cc nL s args own) (hw : Wld G Z M s.heap H locs) (hr : meth.sig.returnType = none) (hlk : meth.locks = false) (hf : some M = some M') (hdg : decode cc pc = .ok (.return_, 1)) : W p l e R s m args below meth c H locs 0 0 (MQ below (xQv G Z M') args s 0 0 (inA G Z)) (F0 m pc ls []) := by
  cases hf
  exact W.vret F.1.1 F.1.2.1 hr (fun t ht _ => ⟨⟨(), rfl, trivial, by show va_P _ _ _ _; rw [ht]; exact hw.1⟩, hw.2.F ht⟩) hw.2.2.2 hdg hlk
theorem x_met {y : MethodName} {maxL d : Nat} {ret : Option FieldType} {av : List Value} {Qc : Array Value → State → Outcome → State → Prop} (hy : plainName y.cls = true) (hlen : (lg_sl av).length ≤ maxL)
    (body : ∀ (p : Program) (e : Env) (s : State) (m : MethodId) (below : List Frame) (meth : Method) (c : Code) (ls : Array Slot), Fx G Z p m c cc maxL s av.toArray y.cls → meth.sig.returnType = ret → meth.locks = false → lv_has ls maxL (lv_args 0 av) → Wld G Z M s.heap s.heap [] → W p l e (rmX d) s m av.toArray below meth c s.heap [] 0 0 (MQ below Qc av.toArray s 0 0 (inA G Z)) (F0 m 0 ls [])) :
    Met l y (.code y cc maxL ret :: TBL) (rmX d) (xPc G Z M av) Qc 0 0 (inA G Z) := by
  refine Met.ofW (cc := cc) (maxL := maxL) (ret := ret) hy rfl ?_
  intro p e s m args below meth c s₁ B hml hv
  obtain ⟨rfl, hP, hK, hN, hI⟩ := hv
  have hts := atoms_spec (ws := (Cond.code y cc maxL ret :: TBL)) B.pre
  have hown : s.vm.findClass y.cls = some m.cls := findClass_of_methodNamed B.named
  have hl := lv_entry av (n := maxL) hlen
  rw [lg_entry_eq]
  exact body p e s m below meth c _ ⟨⟨B.exec, B.bytes, hml, hown, fun w h => hts w (List.mem_cons_of_mem _ h)⟩, hK, hN, hI⟩ B.returns B.notSynchronized hl ⟨hP, va_S.rf⟩
end XCall
end
section
/-! the two worlds: the developers' object with all that hangs on it (60 cells), and the reference (16) -/
def xTab : List Shp := [.inl (5, [3, 6, 9, 19, 28, 56, 61, 0, 0, 1, 1]), .inl (4, [0, 4, 5]), .inr (0, 6), .inr (0, 240), .inl (4, [0, 7, 8]), .inr (0, 4), .inr (0, 240), .inl (3, [10, 0, 0, 0, 0]), .inl (1, [0, 11, 12, 13, 14, 15, 16, 17]), .inr (0, 6), .inr (0, 6), .inr (0, 6), .inr (0, 6), .inr (0, 6), .inr (0, 6), .inl (0, [18, 0]), .inr (0, 40), .inl (1, [0, 20, 21, 22, 23, 24, 25, 26]), .inr (0, 6), .inr (0, 6), .inr (0, 6), .inr (0, 6), .inr (0, 6), .inr (0, 6), .inl (0, [27, 0]), .inr (0, 40), .inr (29, 3), .inl (1, [0, 30, 31, 32, 33, 34, 35, 36]), .inr (0, 6), .inr (0, 6), .inr (0, 6), .inr (0, 6), .inr (0, 6), .inr (0, 6), .inl (0, [37, 0]), .inr (0, 40), .inl (1, [0, 39, 40, 41, 42, 43, 44, 45]), .inr (0, 6), .inr (0, 6), .inr (0, 6), .inr (0, 6), .inr (0, 6), .inr (0, 6), .inl (0, [46, 0]), .inr (0, 40), .inl (1, [0, 48, 49, 50, 51, 52, 53, 54]), .inr (0, 6), .inr (0, 6), .inr (0, 6), .inr (0, 6), .inr (0, 6), .inr (0, 6), .inl (0, [55, 0]), .inr (0, 40), .inl (2, [0, 0, 57, 58, 59, 60]), .inr (0, 6), .inr (0, 6), .inr (0, 6), .inr (0, 64), .inr (0, 6)]
def yTab : List Shp := [.inl (6, [3, 0, 4, 5, 6, 7, 8, 0, 1, 1, 0, 9, 0, 0, 0, 10, 0, 0, 11, 12, 13, 14, 0, 15, 16, 17]), .inr (0, 3964), .inr (0, 6), .inr (0, 6), .inr (0, 240), .inr (0, 4), .inr (0, 240), .inr (0, 6), .inr (0, 30), .inr (0, 6), .inr (0, 6), .inr (0, 6), .inr (0, 6), .inr (1, 64), .inr (1, 64), .inr (0, 64)]
def ZX : Zh := (fun k => xTab.getD k (.inr (0, 0)), 60)
def ZY : Zh := (fun k => yTab.getD k (.inr (0, 0)), 16)
def isL (b : Nat) : Prop := b = 8 ∨ b = 17 ∨ b = 27 ∨ b = 36 ∨ b = 45
def isD (b : Nat) : Prop := b = 15 ∨ b = 24 ∨ b = 34 ∨ b = 43 ∨ b = 52
def isS (b : Nat) : Prop := b = 1 ∨ b = 4
def szS (b : Nat) : Nat := if b = 1 then 6 else 4
theorem isL_8 : isL 8 := Or.inl rfl
theorem isL_17 : isL 17 := Or.inr (Or.inl rfl)
theorem isS_1 : isS 1 := Or.inl rfl
theorem isS_4 : isS 4 := Or.inr rfl
theorem isD_of {b : Nat} (h : isL b) : isD (b + 7) := by rcases h with rfl | rfl | rfl | rfl | rfl <;> simp [isD]
theorem isL_k {i : Int32} (h : bIn i 3 = true) : isL (27 + 9 * Int32.toNatClampNeg i) := by
  have h1 : 0 ≤ i ∧ i.toNatClampNeg < 3 := by simpa [bIn] using h
  have h2 : i.toNatClampNeg = 0 ∨ i.toNatClampNeg = 1 ∨ i.toNatClampNeg = 2 := by omega
  rcases h2 with e | e | e <;> rw [e] <;> simp [isL]
theorem sL {b : Nat} (h : isL b) : b < ZX.2 ∧ ZX.1 b = .inl (1, [0, b + 3, b + 4, b + 5, b + 6, b + 7, b + 8, b + 9]) := by rcases h with rfl | rfl | rfl | rfl | rfl <;> exact ⟨Nat.le_of_ble_eq_true rfl, rfl⟩
theorem sL1 {b : Nat} (h : isL b) : b + 1 < ZX.2 ∧ ZX.1 (b + 1) = .inr (0, 6) := by rcases h with rfl | rfl | rfl | rfl | rfl <;> exact ⟨Nat.le_of_ble_eq_true rfl, rfl⟩
theorem sL2 {b : Nat} (h : isL b) : b + 2 < ZX.2 ∧ ZX.1 (b + 2) = .inr (0, 6) := by rcases h with rfl | rfl | rfl | rfl | rfl <;> exact ⟨Nat.le_of_ble_eq_true rfl, rfl⟩
theorem sL3 {b : Nat} (h : isL b) : b + 3 < ZX.2 ∧ ZX.1 (b + 3) = .inr (0, 6) := by rcases h with rfl | rfl | rfl | rfl | rfl <;> exact ⟨Nat.le_of_ble_eq_true rfl, rfl⟩
theorem sL4 {b : Nat} (h : isL b) : b + 4 < ZX.2 ∧ ZX.1 (b + 4) = .inr (0, 6) := by rcases h with rfl | rfl | rfl | rfl | rfl <;> exact ⟨Nat.le_of_ble_eq_true rfl, rfl⟩
theorem sL5 {b : Nat} (h : isL b) : b + 5 < ZX.2 ∧ ZX.1 (b + 5) = .inr (0, 6) := by rcases h with rfl | rfl | rfl | rfl | rfl <;> exact ⟨Nat.le_of_ble_eq_true rfl, rfl⟩
theorem sL6 {b : Nat} (h : isL b) : b + 6 < ZX.2 ∧ ZX.1 (b + 6) = .inr (0, 6) := by rcases h with rfl | rfl | rfl | rfl | rfl <;> exact ⟨Nat.le_of_ble_eq_true rfl, rfl⟩
theorem sD {b : Nat} (h : isD b) : b < ZX.2 ∧ ZX.1 b = .inl (0, [b + 3, 0]) := by rcases h with rfl | rfl | rfl | rfl | rfl <;> exact ⟨Nat.le_of_ble_eq_true rfl, rfl⟩
theorem sD1 {b : Nat} (h : isD b) : b + 1 < ZX.2 ∧ ZX.1 (b + 1) = .inr (0, 40) := by rcases h with rfl | rfl | rfl | rfl | rfl <;> exact ⟨Nat.le_of_ble_eq_true rfl, rfl⟩
theorem sS {b : Nat} (h : isS b) : b < ZX.2 ∧ ZX.1 b = .inl (4, [0, b + 3, b + 4]) := by rcases h with rfl | rfl <;> exact ⟨Nat.le_of_ble_eq_true rfl, rfl⟩
theorem sS1 {b : Nat} (h : isS b) : b + 1 < ZX.2 ∧ ZX.1 (b + 1) = .inr (0, szS b) := by rcases h with rfl | rfl <;> exact ⟨Nat.le_of_ble_eq_true rfl, rfl⟩
theorem sS2 {b : Nat} (h : isS b) : b + 2 < ZX.2 ∧ ZX.1 (b + 2) = .inr (0, 240) := by rcases h with rfl | rfl <;> exact ⟨Nat.le_of_ble_eq_true rfl, rfl⟩
theorem sP : 0 < ZX.2 ∧ ZX.1 0 = .inl (5, [3, 6, 9, 19, 28, 56, 61, 0, 0, 1, 1]) := ⟨Nat.le_of_ble_eq_true rfl, rfl⟩
theorem sP26 : 26 < ZX.2 ∧ ZX.1 26 = .inr (27 + 2, 3) := ⟨Nat.le_of_ble_eq_true rfl, rfl⟩
theorem sP59 : 59 < ZX.2 ∧ ZX.1 59 = .inr (0, 6) := ⟨Nat.le_of_ble_eq_true rfl, rfl⟩
theorem sR : 7 < ZX.2 ∧ ZX.1 7 = .inl (3, [10, 0, 0, 0, 0]) := ⟨Nat.le_of_ble_eq_true rfl, rfl⟩
theorem sO : 54 < ZX.2 ∧ ZX.1 54 = .inl (2, [0, 0, 57, 58, 59, 60]) := ⟨Nat.le_of_ble_eq_true rfl, rfl⟩
theorem sO55 : 55 < ZX.2 ∧ ZX.1 55 = .inr (0, 6) := ⟨Nat.le_of_ble_eq_true rfl, rfl⟩
theorem sO56 : 56 < ZX.2 ∧ ZX.1 56 = .inr (0, 6) := ⟨Nat.le_of_ble_eq_true rfl, rfl⟩
theorem sO57 : 57 < ZX.2 ∧ ZX.1 57 = .inr (0, 6) := ⟨Nat.le_of_ble_eq_true rfl, rfl⟩
theorem sO58 : 58 < ZX.2 ∧ ZX.1 58 = .inr (0, 64) := ⟨Nat.le_of_ble_eq_true rfl, rfl⟩
theorem sM : 0 < ZY.2 ∧ ZY.1 0 = .inl (6, [3, 0, 4, 5, 6, 7, 8, 0, 1, 1, 0, 9, 0, 0, 0, 10, 0, 0, 11, 12, 13, 14, 0, 15, 16, 17]) := ⟨Nat.le_of_ble_eq_true rfl, rfl⟩
theorem sM1 : 1 < ZY.2 ∧ ZY.1 1 = .inr (0, 3964) := ⟨Nat.le_of_ble_eq_true rfl, rfl⟩
theorem sM2 : 2 < ZY.2 ∧ ZY.1 2 = .inr (0, 6) := ⟨Nat.le_of_ble_eq_true rfl, rfl⟩
theorem sM3 : 3 < ZY.2 ∧ ZY.1 3 = .inr (0, 6) := ⟨Nat.le_of_ble_eq_true rfl, rfl⟩
theorem sM4 : 4 < ZY.2 ∧ ZY.1 4 = .inr (0, 240) := ⟨Nat.le_of_ble_eq_true rfl, rfl⟩
theorem sM5 : 5 < ZY.2 ∧ ZY.1 5 = .inr (0, 4) := ⟨Nat.le_of_ble_eq_true rfl, rfl⟩
theorem sM6 : 6 < ZY.2 ∧ ZY.1 6 = .inr (0, 240) := ⟨Nat.le_of_ble_eq_true rfl, rfl⟩
theorem sM7 : 7 < ZY.2 ∧ ZY.1 7 = .inr (0, 6) := ⟨Nat.le_of_ble_eq_true rfl, rfl⟩
theorem sM8 : 8 < ZY.2 ∧ ZY.1 8 = .inr (0, 30) := ⟨Nat.le_of_ble_eq_true rfl, rfl⟩
theorem sM9 : 9 < ZY.2 ∧ ZY.1 9 = .inr (0, 6) := ⟨Nat.le_of_ble_eq_true rfl, rfl⟩
theorem sM10 : 10 < ZY.2 ∧ ZY.1 10 = .inr (0, 6) := ⟨Nat.le_of_ble_eq_true rfl, rfl⟩
theorem sM11 : 11 < ZY.2 ∧ ZY.1 11 = .inr (0, 6) := ⟨Nat.le_of_ble_eq_true rfl, rfl⟩
theorem sM12 : 12 < ZY.2 ∧ ZY.1 12 = .inr (0, 6) := ⟨Nat.le_of_ble_eq_true rfl, rfl⟩
theorem sM13 : 13 < ZY.2 ∧ ZY.1 13 = .inr (1, 64) := ⟨Nat.le_of_ble_eq_true rfl, rfl⟩
theorem sM14 : 14 < ZY.2 ∧ ZY.1 14 = .inr (1, 64) := ⟨Nat.le_of_ble_eq_true rfl, rfl⟩
theorem sM15 : 15 < ZY.2 ∧ ZY.1 15 = .inr (0, 64) := ⟨Nat.le_of_ble_eq_true rfl, rfl⟩
theorem inT0 : ∀ w ∈ u_ws RX0 TX0 2, w ∈ TBL := by decide +kernel
theorem inT1 : ∀ w ∈ u_ws RX1 TX1 8, w ∈ TBL := by decide +kernel
theorem inT2 : ∀ w ∈ u_ws RX2 TX2 6, w ∈ TBL := by decide +kernel
theorem inT3 : ∀ w ∈ u_ws RX3 TX3 5, w ∈ TBL := by decide +kernel
theorem inT4 : ∀ w ∈ u_ws RX4 TX4 3, w ∈ TBL := by decide +kernel
theorem inT5 : ∀ w ∈ u_ws RX5 TX5 11, w ∈ TBL := by decide +kernel
theorem inT6 : ∀ w ∈ u_ws RX6 TX6 26, w ∈ TBL := by decide +kernel
theorem x_ne {x k : Int32} (n : Int) (hk : k.toInt = n) (h : ¬ x = k) : x.toInt ≠ n := fun e => h (Int32.toInt_inj.mp (e.trans hk.symm))
theorem lc_eq (x y : Int64) : lg_cmp x y = 0 ↔ x = y := by
  unfold lg_cmp
  by_cases h : x > y
  · simp only [if_pos h]
    constructor
    · intro h2; exact absurd h2 (by decide)
    · intro h2; subst h2; exact absurd h (Int64.lt_irrefl)
  · simp only [if_neg h]
    by_cases h2 : x = y
    · simp [h2]
    · simp only [if_neg h2]
      constructor
      · intro h3; exact absurd h3 (by decide)
      · intro h3; exact absurd h3 h2
theorem lc_ge (x y : Int64) : 0 ≤ lg_cmp x y ↔ y ≤ x := lg_cmp_ge x y
theorem lc_gt (x y : Int64) : 0 < lg_cmp x y ↔ y < x := by
  unfold lg_cmp
  by_cases h : x > y
  · simp only [if_pos h]
    exact ⟨fun _ => h, fun _ => by decide⟩
  · simp only [if_neg h]
    by_cases h2 : x = y
    · simp only [if_pos h2]
      exact ⟨fun h3 => absurd h3 (by decide), fun h3 => absurd h3 h⟩
    · simp only [if_neg h2]
      exact ⟨fun h3 => absurd h3 (by decide), fun h3 => absurd h3 h⟩
theorem lc_lt (x y : Int64) : lg_cmp x y < 0 ↔ x < y := by
  have h := lc_ge x y
  rw [← Int32.not_le, ← Int64.not_le, h]
theorem lc_le (x y : Int64) : lg_cmp x y ≤ 0 ↔ x ≤ y := by
  have h := lc_gt x y
  rw [← Int32.not_lt, ← Int64.not_lt, h]
abbrev WXi (G : XG) (Z : Zh) (p : Program) (l : Launch) (e : Env) (d : Nat) (s : State) (m : MethodId) (args : Array Value) (below : List Frame) (meth : Method) (c : Code) (r : Int32) (M' : SX) (H : Heap) (locs : List Loc) (g : JFrame) : Prop := W p l e (rmX d) s m args below meth c H locs 0 0 (MQ below (xQi G Z r M') args s 0 0 (inA G Z)) g
abbrev WXl (G : XG) (Z : Zh) (p : Program) (l : Launch) (e : Env) (d : Nat) (s : State) (m : MethodId) (args : Array Value) (below : List Frame) (meth : Method) (c : Code) (r : Int64) (M' : SX) (H : Heap) (locs : List Loc) (g : JFrame) : Prop := W p l e (rmX d) s m args below meth c H locs 0 0 (MQ below (xQl G Z r M') args s 0 0 (inA G Z)) g
abbrev WXv (G : XG) (Z : Zh) (p : Program) (l : Launch) (e : Env) (d : Nat) (s : State) (m : MethodId) (args : Array Value) (below : List Frame) (meth : Method) (c : Code) (M' : SX) (H : Heap) (locs : List Loc) (g : JFrame) : Prop := W p l e (rmX d) s m args below meth c H locs 0 0 (MQ below (xQv G Z M') args s 0 0 (inA G Z)) g
section XFields
variable {G : XG} {p : Program} {l : Launch} {e : Env} {R : Room} {s : State} {m : MethodId} {args : Array Value} {below : List Frame} {meth : Method} {c : Code} {H : Heap} {locs : List Loc} {Q : State → Prop}
variable {cc : ByteArray} {pc nL index : Nat} {ls : Array Slot} {rest : List Value} {M : SX} {own : String}
theorem g0_0 {b : Nat} (qb : isD b) (F : Fx G ZX p m c cc nL s args own) (hw : Wld G ZX M s.heap H locs) (hlk : Cond.fieldLink own index "PawnLane$Deeds" "packed" "[I" ∈ TBL) (hdg : decode cc pc = .ok (.getfield index, 3)) (kk : W p l e R s m args below meth c H locs 0 0 Q (F0 m (pc + 3) ls (.ref (G.2.1 (b + 1)) :: rest))) : W p l e R s m args below meth c H locs 0 0 Q (F0 m pc ls (.ref (G.2.1 b) :: rest)) := x_get (ci := 0) (j := 0) (code := (b + 1 + 2)) (C := RX0) (T := TX0) (N := 2) F hw (sD qb).1 (sD qb).2 rfl rfl inT0 (by decide) hlk hdg kk
theorem g0_1 {b : Nat} (qb : isD b) (F : Fx G ZX p m c cc nL s args own) (hw : Wld G ZX M s.heap H locs) (hlk : Cond.fieldLink own index "PawnLane$Deeds" "size" "I" ∈ TBL) (hdg : decode cc pc = .ok (.getfield index, 3)) (kk : W p l e R s m args below meth c H locs 0 0 Q (F0 m (pc + 3) ls (.int (M.1 b 1) :: rest))) : W p l e R s m args below meth c H locs 0 0 Q (F0 m pc ls (.ref (G.2.1 b) :: rest)) := x_get (ci := 0) (j := 1) (code := 0) (C := RX0) (T := TX0) (N := 2) F hw (sD qb).1 (sD qb).2 rfl rfl inT0 (by decide) hlk hdg kk
theorem s0_1 {b : Nat} (qb : isD b) {v : Int32} (F : Fx G ZX p m c cc nL s args own) (hw : Wld G ZX M s.heap H locs) (hlk : Cond.fieldLink own index "PawnLane$Deeds" "size" "I" ∈ TBL) (hdg : decode cc pc = .ok (.putfield index, 3)) (kk : ∀ (H1 : Heap) (locs1 : List Loc), Wld G ZX (wI M b 1 v) s.heap H1 locs1 → W p l e R s m args below meth c H1 locs1 0 0 Q (F0 m (pc + 3) ls rest)) : W p l e R s m args below meth c H locs 0 0 Q (F0 m pc ls (.int v :: .ref (G.2.1 b) :: rest)) := x_putI (ci := 0) (j := 1) (C := RX0) (T := TX0) (N := 2) (ty := .int) F hw (sD qb).1 (sD qb).2 rfl rfl inT0 tyX0 tyX0_ok nmX0 (by decide) hlk rfl (by decide +kernel) rfl rfl hdg kk
theorem g1_0 {b : Nat} (qb : isL b) (F : Fx G ZX p m c cc nL s args own) (hw : Wld G ZX M s.heap H locs) (hlk : Cond.fieldLink own index "PawnLane$Lane" "shops" "I" ∈ TBL) (hdg : decode cc pc = .ok (.getfield index, 3)) (kk : W p l e R s m args below meth c H locs 0 0 Q (F0 m (pc + 3) ls (.int (M.1 b 0) :: rest))) : W p l e R s m args below meth c H locs 0 0 Q (F0 m pc ls (.ref (G.2.1 b) :: rest)) := x_get (ci := 1) (j := 0) (code := 0) (C := RX1) (T := TX1) (N := 8) F hw (sL qb).1 (sL qb).2 rfl rfl inT1 (by decide) hlk hdg kk
theorem s1_0 {b : Nat} (qb : isL b) {v : Int32} (F : Fx G ZX p m c cc nL s args own) (hw : Wld G ZX M s.heap H locs) (hlk : Cond.fieldLink own index "PawnLane$Lane" "shops" "I" ∈ TBL) (hdg : decode cc pc = .ok (.putfield index, 3)) (kk : ∀ (H1 : Heap) (locs1 : List Loc), Wld G ZX (wI M b 0 v) s.heap H1 locs1 → W p l e R s m args below meth c H1 locs1 0 0 Q (F0 m (pc + 3) ls rest)) : W p l e R s m args below meth c H locs 0 0 Q (F0 m pc ls (.int v :: .ref (G.2.1 b) :: rest)) := x_putI (ci := 1) (j := 0) (C := RX1) (T := TX1) (N := 8) (ty := .int) F hw (sL qb).1 (sL qb).2 rfl rfl inT1 tyX1 tyX1_ok nmX1 (by decide) hlk rfl (by decide +kernel) rfl rfl hdg kk
theorem g1_1 {b : Nat} (qb : isL b) (F : Fx G ZX p m c cc nL s args own) (hw : Wld G ZX M s.heap H locs) (hlk : Cond.fieldLink own index "PawnLane$Lane" "kind" "[I" ∈ TBL) (hdg : decode cc pc = .ok (.getfield index, 3)) (kk : W p l e R s m args below meth c H locs 0 0 Q (F0 m (pc + 3) ls (.ref (G.2.1 (b + 1)) :: rest))) : W p l e R s m args below meth c H locs 0 0 Q (F0 m pc ls (.ref (G.2.1 b) :: rest)) := x_get (ci := 1) (j := 1) (code := (b + 1 + 2)) (C := RX1) (T := TX1) (N := 8) F hw (sL qb).1 (sL qb).2 rfl rfl inT1 (by decide) hlk hdg kk
theorem g1_2 {b : Nat} (qb : isL b) (F : Fx G ZX p m c cc nL s args own) (hw : Wld G ZX M s.heap H locs) (hlk : Cond.fieldLink own index "PawnLane$Lane" "cash" "[I" ∈ TBL) (hdg : decode cc pc = .ok (.getfield index, 3)) (kk : W p l e R s m args below meth c H locs 0 0 Q (F0 m (pc + 3) ls (.ref (G.2.1 (b + 2)) :: rest))) : W p l e R s m args below meth c H locs 0 0 Q (F0 m pc ls (.ref (G.2.1 b) :: rest)) := x_get (ci := 1) (j := 2) (code := (b + 2 + 2)) (C := RX1) (T := TX1) (N := 8) F hw (sL qb).1 (sL qb).2 rfl rfl inT1 (by decide) hlk hdg kk
theorem g1_3 {b : Nat} (qb : isL b) (F : Fx G ZX p m c cc nL s args own) (hw : Wld G ZX M s.heap H locs) (hlk : Cond.fieldLink own index "PawnLane$Lane" "stock" "[I" ∈ TBL) (hdg : decode cc pc = .ok (.getfield index, 3)) (kk : W p l e R s m args below meth c H locs 0 0 Q (F0 m (pc + 3) ls (.ref (G.2.1 (b + 3)) :: rest))) : W p l e R s m args below meth c H locs 0 0 Q (F0 m pc ls (.ref (G.2.1 b) :: rest)) := x_get (ci := 1) (j := 3) (code := (b + 3 + 2)) (C := RX1) (T := TX1) (N := 8) F hw (sL qb).1 (sL qb).2 rfl rfl inT1 (by decide) hlk hdg kk
theorem g1_4 {b : Nat} (qb : isL b) (F : Fx G ZX p m c cc nL s args own) (hw : Wld G ZX M s.heap H locs) (hlk : Cond.fieldLink own index "PawnLane$Lane" "holder" "[I" ∈ TBL) (hdg : decode cc pc = .ok (.getfield index, 3)) (kk : W p l e R s m args below meth c H locs 0 0 Q (F0 m (pc + 3) ls (.ref (G.2.1 (b + 4)) :: rest))) : W p l e R s m args below meth c H locs 0 0 Q (F0 m pc ls (.ref (G.2.1 b) :: rest)) := x_get (ci := 1) (j := 4) (code := (b + 4 + 2)) (C := RX1) (T := TX1) (N := 8) F hw (sL qb).1 (sL qb).2 rfl rfl inT1 (by decide) hlk hdg kk
theorem g1_5 {b : Nat} (qb : isL b) (F : Fx G ZX p m c cc nL s args own) (hw : Wld G ZX M s.heap H locs) (hlk : Cond.fieldLink own index "PawnLane$Lane" "loan" "[I" ∈ TBL) (hdg : decode cc pc = .ok (.getfield index, 3)) (kk : W p l e R s m args below meth c H locs 0 0 Q (F0 m (pc + 3) ls (.ref (G.2.1 (b + 5)) :: rest))) : W p l e R s m args below meth c H locs 0 0 Q (F0 m pc ls (.ref (G.2.1 b) :: rest)) := x_get (ci := 1) (j := 5) (code := (b + 5 + 2)) (C := RX1) (T := TX1) (N := 8) F hw (sL qb).1 (sL qb).2 rfl rfl inT1 (by decide) hlk hdg kk
theorem g1_6 {b : Nat} (qb : isL b) (F : Fx G ZX p m c cc nL s args own) (hw : Wld G ZX M s.heap H locs) (hlk : Cond.fieldLink own index "PawnLane$Lane" "weeks" "[I" ∈ TBL) (hdg : decode cc pc = .ok (.getfield index, 3)) (kk : W p l e R s m args below meth c H locs 0 0 Q (F0 m (pc + 3) ls (.ref (G.2.1 (b + 6)) :: rest))) : W p l e R s m args below meth c H locs 0 0 Q (F0 m pc ls (.ref (G.2.1 b) :: rest)) := x_get (ci := 1) (j := 6) (code := (b + 6 + 2)) (C := RX1) (T := TX1) (N := 8) F hw (sL qb).1 (sL qb).2 rfl rfl inT1 (by decide) hlk hdg kk
theorem g1_7 {b : Nat} (qb : isL b) (F : Fx G ZX p m c cc nL s args own) (hw : Wld G ZX M s.heap H locs) (hlk : Cond.fieldLink own index "PawnLane$Lane" "deeds" "LPawnLane$Deeds;" ∈ TBL) (hdg : decode cc pc = .ok (.getfield index, 3)) (kk : W p l e R s m args below meth c H locs 0 0 Q (F0 m (pc + 3) ls (.ref (G.2.1 (b + 7)) :: rest))) : W p l e R s m args below meth c H locs 0 0 Q (F0 m pc ls (.ref (G.2.1 b) :: rest)) := x_get (ci := 1) (j := 7) (code := (b + 7 + 2)) (C := RX1) (T := TX1) (N := 8) F hw (sL qb).1 (sL qb).2 rfl rfl inT1 (by decide) hlk hdg kk
theorem g2_0 (F : Fx G ZX p m c cc nL s args own) (hw : Wld G ZX M s.heap H locs) (hlk : Cond.fieldLink own index "PawnLane$Orders" "shops" "I" ∈ TBL) (hdg : decode cc pc = .ok (.getfield index, 3)) (kk : W p l e R s m args below meth c H locs 0 0 Q (F0 m (pc + 3) ls (.int (M.1 54 0) :: rest))) : W p l e R s m args below meth c H locs 0 0 Q (F0 m pc ls (.ref (G.2.1 54) :: rest)) := x_get (ci := 2) (j := 0) (code := 0) (C := RX2) (T := TX2) (N := 6) F hw (sO).1 (sO).2 rfl rfl inT2 (by decide) hlk hdg kk
theorem s2_0 {v : Int32} (F : Fx G ZX p m c cc nL s args own) (hw : Wld G ZX M s.heap H locs) (hlk : Cond.fieldLink own index "PawnLane$Orders" "shops" "I" ∈ TBL) (hdg : decode cc pc = .ok (.putfield index, 3)) (kk : ∀ (H1 : Heap) (locs1 : List Loc), Wld G ZX (wI M 54 0 v) s.heap H1 locs1 → W p l e R s m args below meth c H1 locs1 0 0 Q (F0 m (pc + 3) ls rest)) : W p l e R s m args below meth c H locs 0 0 Q (F0 m pc ls (.int v :: .ref (G.2.1 54) :: rest)) := x_putI (ci := 2) (j := 0) (C := RX2) (T := TX2) (N := 6) (ty := .int) F hw (sO).1 (sO).2 rfl rfl inT2 tyX2 tyX2_ok nmX2 (by decide) hlk rfl (by decide +kernel) rfl rfl hdg kk
theorem g2_1 (F : Fx G ZX p m c cc nL s args own) (hw : Wld G ZX M s.heap H locs) (hlk : Cond.fieldLink own index "PawnLane$Orders" "pawned" "I" ∈ TBL) (hdg : decode cc pc = .ok (.getfield index, 3)) (kk : W p l e R s m args below meth c H locs 0 0 Q (F0 m (pc + 3) ls (.int (M.1 54 1) :: rest))) : W p l e R s m args below meth c H locs 0 0 Q (F0 m pc ls (.ref (G.2.1 54) :: rest)) := x_get (ci := 2) (j := 1) (code := 0) (C := RX2) (T := TX2) (N := 6) F hw (sO).1 (sO).2 rfl rfl inT2 (by decide) hlk hdg kk
theorem s2_1 {v : Int32} (F : Fx G ZX p m c cc nL s args own) (hw : Wld G ZX M s.heap H locs) (hlk : Cond.fieldLink own index "PawnLane$Orders" "pawned" "I" ∈ TBL) (hdg : decode cc pc = .ok (.putfield index, 3)) (kk : ∀ (H1 : Heap) (locs1 : List Loc), Wld G ZX (wI M 54 1 v) s.heap H1 locs1 → W p l e R s m args below meth c H1 locs1 0 0 Q (F0 m (pc + 3) ls rest)) : W p l e R s m args below meth c H locs 0 0 Q (F0 m pc ls (.int v :: .ref (G.2.1 54) :: rest)) := x_putI (ci := 2) (j := 1) (C := RX2) (T := TX2) (N := 6) (ty := .int) F hw (sO).1 (sO).2 rfl rfl inT2 tyX2 tyX2_ok nmX2 (by decide) hlk rfl (by decide +kernel) rfl rfl hdg kk
theorem g2_2 (F : Fx G ZX p m c cc nL s args own) (hw : Wld G ZX M s.heap H locs) (hlk : Cond.fieldLink own index "PawnLane$Orders" "cash" "[I" ∈ TBL) (hdg : decode cc pc = .ok (.getfield index, 3)) (kk : W p l e R s m args below meth c H locs 0 0 Q (F0 m (pc + 3) ls (.ref (G.2.1 55) :: rest))) : W p l e R s m args below meth c H locs 0 0 Q (F0 m pc ls (.ref (G.2.1 54) :: rest)) := x_get (ci := 2) (j := 2) (code := (55 + 2)) (C := RX2) (T := TX2) (N := 6) F hw (sO).1 (sO).2 rfl rfl inT2 (by decide) hlk hdg kk
theorem g2_3 (F : Fx G ZX p m c cc nL s args own) (hw : Wld G ZX M s.heap H locs) (hlk : Cond.fieldLink own index "PawnLane$Orders" "holder" "[I" ∈ TBL) (hdg : decode cc pc = .ok (.getfield index, 3)) (kk : W p l e R s m args below meth c H locs 0 0 Q (F0 m (pc + 3) ls (.ref (G.2.1 56) :: rest))) : W p l e R s m args below meth c H locs 0 0 Q (F0 m pc ls (.ref (G.2.1 54) :: rest)) := x_get (ci := 2) (j := 3) (code := (56 + 2)) (C := RX2) (T := TX2) (N := 6) F hw (sO).1 (sO).2 rfl rfl inT2 (by decide) hlk hdg kk
theorem g2_4 (F : Fx G ZX p m c cc nL s args own) (hw : Wld G ZX M s.heap H locs) (hlk : Cond.fieldLink own index "PawnLane$Orders" "due" "[I" ∈ TBL) (hdg : decode cc pc = .ok (.getfield index, 3)) (kk : W p l e R s m args below meth c H locs 0 0 Q (F0 m (pc + 3) ls (.ref (G.2.1 57) :: rest))) : W p l e R s m args below meth c H locs 0 0 Q (F0 m pc ls (.ref (G.2.1 54) :: rest)) := x_get (ci := 2) (j := 4) (code := (57 + 2)) (C := RX2) (T := TX2) (N := 6) F hw (sO).1 (sO).2 rfl rfl inT2 (by decide) hlk hdg kk
theorem g2_5 (F : Fx G ZX p m c cc nL s args own) (hw : Wld G ZX M s.heap H locs) (hlk : Cond.fieldLink own index "PawnLane$Orders" "bySet" "[I" ∈ TBL) (hdg : decode cc pc = .ok (.getfield index, 3)) (kk : W p l e R s m args below meth c H locs 0 0 Q (F0 m (pc + 3) ls (.ref (G.2.1 58) :: rest))) : W p l e R s m args below meth c H locs 0 0 Q (F0 m pc ls (.ref (G.2.1 54) :: rest)) := x_get (ci := 2) (j := 5) (code := (58 + 2)) (C := RX2) (T := TX2) (N := 6) F hw (sO).1 (sO).2 rfl rfl inT2 (by decide) hlk hdg kk
theorem g3_0 (F : Fx G ZX p m c cc nL s args own) (hw : Wld G ZX M s.heap H locs) (hlk : Cond.fieldLink own index "PawnLane$Reader" "draft" "LPawnLane$Lane;" ∈ TBL) (hdg : decode cc pc = .ok (.getfield index, 3)) (kk : W p l e R s m args below meth c H locs 0 0 Q (F0 m (pc + 3) ls (.ref (G.2.1 8) :: rest))) : W p l e R s m args below meth c H locs 0 0 Q (F0 m pc ls (.ref (G.2.1 7) :: rest)) := x_get (ci := 3) (j := 0) (code := (8 + 2)) (C := RX3) (T := TX3) (N := 5) F hw (sR).1 (sR).2 rfl rfl inT3 (by decide) hlk hdg kk
theorem g3_1 (F : Fx G ZX p m c cc nL s args own) (hw : Wld G ZX M s.heap H locs) (hlk : Cond.fieldLink own index "PawnLane$Reader" "awaited" "I" ∈ TBL) (hdg : decode cc pc = .ok (.getfield index, 3)) (kk : W p l e R s m args below meth c H locs 0 0 Q (F0 m (pc + 3) ls (.int (M.1 7 1) :: rest))) : W p l e R s m args below meth c H locs 0 0 Q (F0 m pc ls (.ref (G.2.1 7) :: rest)) := x_get (ci := 3) (j := 1) (code := 0) (C := RX3) (T := TX3) (N := 5) F hw (sR).1 (sR).2 rfl rfl inT3 (by decide) hlk hdg kk
theorem s3_1 {v : Int32} (F : Fx G ZX p m c cc nL s args own) (hw : Wld G ZX M s.heap H locs) (hlk : Cond.fieldLink own index "PawnLane$Reader" "awaited" "I" ∈ TBL) (hdg : decode cc pc = .ok (.putfield index, 3)) (kk : ∀ (H1 : Heap) (locs1 : List Loc), Wld G ZX (wI M 7 1 v) s.heap H1 locs1 → W p l e R s m args below meth c H1 locs1 0 0 Q (F0 m (pc + 3) ls rest)) : W p l e R s m args below meth c H locs 0 0 Q (F0 m pc ls (.int v :: .ref (G.2.1 7) :: rest)) := x_putI (ci := 3) (j := 1) (C := RX3) (T := TX3) (N := 5) (ty := .int) F hw (sR).1 (sR).2 rfl rfl inT3 tyX3 tyX3_ok nmX3 (by decide) hlk rfl (by decide +kernel) rfl rfl hdg kk
theorem g3_2 (F : Fx G ZX p m c cc nL s args own) (hw : Wld G ZX M s.heap H locs) (hlk : Cond.fieldLink own index "PawnLane$Reader" "ticketsBegan" "Z" ∈ TBL) (hdg : decode cc pc = .ok (.getfield index, 3)) (kk : W p l e R s m args below meth c H locs 0 0 Q (F0 m (pc + 3) ls (.int (M.1 7 2) :: rest))) : W p l e R s m args below meth c H locs 0 0 Q (F0 m pc ls (.ref (G.2.1 7) :: rest)) := x_get (ci := 3) (j := 2) (code := 0) (C := RX3) (T := TX3) (N := 5) F hw (sR).1 (sR).2 rfl rfl inT3 (by decide) hlk hdg kk
theorem s3_2 {v : Int32} (F : Fx G ZX p m c cc nL s args own) (hw : Wld G ZX M s.heap H locs) (hz : narrow .boolean (.int v) = .int v ∧ fits .boolean (.int v) = true) (hlk : Cond.fieldLink own index "PawnLane$Reader" "ticketsBegan" "Z" ∈ TBL) (hdg : decode cc pc = .ok (.putfield index, 3)) (kk : ∀ (H1 : Heap) (locs1 : List Loc), Wld G ZX (wI M 7 2 v) s.heap H1 locs1 → W p l e R s m args below meth c H1 locs1 0 0 Q (F0 m (pc + 3) ls rest)) : W p l e R s m args below meth c H locs 0 0 Q (F0 m pc ls (.int v :: .ref (G.2.1 7) :: rest)) := x_putI (ci := 3) (j := 2) (C := RX3) (T := TX3) (N := 5) (ty := .boolean) F hw (sR).1 (sR).2 rfl rfl inT3 tyX3 tyX3_ok nmX3 (by decide) hlk rfl (by decide +kernel) hz.1 hz.2 hdg kk
theorem g3_3 (F : Fx G ZX p m c cc nL s args own) (hw : Wld G ZX M s.heap H locs) (hlk : Cond.fieldLink own index "PawnLane$Reader" "pawned" "I" ∈ TBL) (hdg : decode cc pc = .ok (.getfield index, 3)) (kk : W p l e R s m args below meth c H locs 0 0 Q (F0 m (pc + 3) ls (.int (M.1 7 3) :: rest))) : W p l e R s m args below meth c H locs 0 0 Q (F0 m pc ls (.ref (G.2.1 7) :: rest)) := x_get (ci := 3) (j := 3) (code := 0) (C := RX3) (T := TX3) (N := 5) F hw (sR).1 (sR).2 rfl rfl inT3 (by decide) hlk hdg kk
theorem s3_3 {v : Int32} (F : Fx G ZX p m c cc nL s args own) (hw : Wld G ZX M s.heap H locs) (hlk : Cond.fieldLink own index "PawnLane$Reader" "pawned" "I" ∈ TBL) (hdg : decode cc pc = .ok (.putfield index, 3)) (kk : ∀ (H1 : Heap) (locs1 : List Loc), Wld G ZX (wI M 7 3 v) s.heap H1 locs1 → W p l e R s m args below meth c H1 locs1 0 0 Q (F0 m (pc + 3) ls rest)) : W p l e R s m args below meth c H locs 0 0 Q (F0 m pc ls (.int v :: .ref (G.2.1 7) :: rest)) := x_putI (ci := 3) (j := 3) (C := RX3) (T := TX3) (N := 5) (ty := .int) F hw (sR).1 (sR).2 rfl rfl inT3 tyX3 tyX3_ok nmX3 (by decide) hlk rfl (by decide +kernel) rfl rfl hdg kk
theorem g3_4 (F : Fx G ZX p m c cc nL s args own) (hw : Wld G ZX M s.heap H locs) (hlk : Cond.fieldLink own index "PawnLane$Reader" "holder" "I" ∈ TBL) (hdg : decode cc pc = .ok (.getfield index, 3)) (kk : W p l e R s m args below meth c H locs 0 0 Q (F0 m (pc + 3) ls (.int (M.1 7 4) :: rest))) : W p l e R s m args below meth c H locs 0 0 Q (F0 m pc ls (.ref (G.2.1 7) :: rest)) := x_get (ci := 3) (j := 4) (code := 0) (C := RX3) (T := TX3) (N := 5) F hw (sR).1 (sR).2 rfl rfl inT3 (by decide) hlk hdg kk
theorem s3_4 {v : Int32} (F : Fx G ZX p m c cc nL s args own) (hw : Wld G ZX M s.heap H locs) (hlk : Cond.fieldLink own index "PawnLane$Reader" "holder" "I" ∈ TBL) (hdg : decode cc pc = .ok (.putfield index, 3)) (kk : ∀ (H1 : Heap) (locs1 : List Loc), Wld G ZX (wI M 7 4 v) s.heap H1 locs1 → W p l e R s m args below meth c H1 locs1 0 0 Q (F0 m (pc + 3) ls rest)) : W p l e R s m args below meth c H locs 0 0 Q (F0 m pc ls (.int v :: .ref (G.2.1 7) :: rest)) := x_putI (ci := 3) (j := 4) (C := RX3) (T := TX3) (N := 5) (ty := .int) F hw (sR).1 (sR).2 rfl rfl inT3 tyX3 tyX3_ok nmX3 (by decide) hlk rfl (by decide +kernel) rfl rfl hdg kk
theorem g4_0 {b : Nat} (qb : isS b) (F : Fx G ZX p m c cc nL s args own) (hw : Wld G ZX M s.heap H locs) (hlk : Cond.fieldLink own index "PawnLane$Sheets" "width" "I" ∈ TBL) (hdg : decode cc pc = .ok (.getfield index, 3)) (kk : W p l e R s m args below meth c H locs 0 0 Q (F0 m (pc + 3) ls (.int (M.1 b 0) :: rest))) : W p l e R s m args below meth c H locs 0 0 Q (F0 m pc ls (.ref (G.2.1 b) :: rest)) := x_get (ci := 4) (j := 0) (code := 0) (C := RX4) (T := TX4) (N := 3) F hw (sS qb).1 (sS qb).2 rfl rfl inT4 (by decide) hlk hdg kk
theorem g4_1 {b : Nat} (qb : isS b) (F : Fx G ZX p m c cc nL s args own) (hw : Wld G ZX M s.heap H locs) (hlk : Cond.fieldLink own index "PawnLane$Sheets" "sizes" "[I" ∈ TBL) (hdg : decode cc pc = .ok (.getfield index, 3)) (kk : W p l e R s m args below meth c H locs 0 0 Q (F0 m (pc + 3) ls (.ref (G.2.1 (b + 1)) :: rest))) : W p l e R s m args below meth c H locs 0 0 Q (F0 m pc ls (.ref (G.2.1 b) :: rest)) := x_get (ci := 4) (j := 1) (code := (b + 1 + 2)) (C := RX4) (T := TX4) (N := 3) F hw (sS qb).1 (sS qb).2 rfl rfl inT4 (by decide) hlk hdg kk
theorem g4_2 {b : Nat} (qb : isS b) (F : Fx G ZX p m c cc nL s args own) (hw : Wld G ZX M s.heap H locs) (hlk : Cond.fieldLink own index "PawnLane$Sheets" "places" "[I" ∈ TBL) (hdg : decode cc pc = .ok (.getfield index, 3)) (kk : W p l e R s m args below meth c H locs 0 0 Q (F0 m (pc + 3) ls (.ref (G.2.1 (b + 2)) :: rest))) : W p l e R s m args below meth c H locs 0 0 Q (F0 m pc ls (.ref (G.2.1 b) :: rest)) := x_get (ci := 4) (j := 2) (code := (b + 2 + 2)) (C := RX4) (T := TX4) (N := 3) F hw (sS qb).1 (sS qb).2 rfl rfl inT4 (by decide) hlk hdg kk
theorem g5_0 (F : Fx G ZX p m c cc nL s args own) (hw : Wld G ZX M s.heap H locs) (hlk : Cond.fieldLink own index "PawnLane" "rows" "LPawnLane$Sheets;" ∈ TBL) (hdg : decode cc pc = .ok (.getfield index, 3)) (kk : W p l e R s m args below meth c H locs 0 0 Q (F0 m (pc + 3) ls (.ref (G.2.1 1) :: rest))) : W p l e R s m args below meth c H locs 0 0 Q (F0 m pc ls (.ref (G.2.1 0) :: rest)) := x_get (ci := 5) (j := 0) (code := (1 + 2)) (C := RX5) (T := TX5) (N := 11) F hw (sP).1 (sP).2 rfl rfl inT5 (by decide) hlk hdg kk
theorem g5_1 (F : Fx G ZX p m c cc nL s args own) (hw : Wld G ZX M s.heap H locs) (hlk : Cond.fieldLink own index "PawnLane" "texts" "LPawnLane$Sheets;" ∈ TBL) (hdg : decode cc pc = .ok (.getfield index, 3)) (kk : W p l e R s m args below meth c H locs 0 0 Q (F0 m (pc + 3) ls (.ref (G.2.1 4) :: rest))) : W p l e R s m args below meth c H locs 0 0 Q (F0 m pc ls (.ref (G.2.1 0) :: rest)) := x_get (ci := 5) (j := 1) (code := (4 + 2)) (C := RX5) (T := TX5) (N := 11) F hw (sP).1 (sP).2 rfl rfl inT5 (by decide) hlk hdg kk
theorem g5_2 (F : Fx G ZX p m c cc nL s args own) (hw : Wld G ZX M s.heap H locs) (hlk : Cond.fieldLink own index "PawnLane" "reader" "LPawnLane$Reader;" ∈ TBL) (hdg : decode cc pc = .ok (.getfield index, 3)) (kk : W p l e R s m args below meth c H locs 0 0 Q (F0 m (pc + 3) ls (.ref (G.2.1 7) :: rest))) : W p l e R s m args below meth c H locs 0 0 Q (F0 m pc ls (.ref (G.2.1 0) :: rest)) := x_get (ci := 5) (j := 2) (code := (7 + 2)) (C := RX5) (T := TX5) (N := 11) F hw (sP).1 (sP).2 rfl rfl inT5 (by decide) hlk hdg kk
theorem g5_3 (F : Fx G ZX p m c cc nL s args own) (hw : Wld G ZX M s.heap H locs) (hlk : Cond.fieldLink own index "PawnLane" "lane" "LPawnLane$Lane;" ∈ TBL) (hdg : decode cc pc = .ok (.getfield index, 3)) (kk : W p l e R s m args below meth c H locs 0 0 Q (F0 m (pc + 3) ls (.ref (G.2.1 17) :: rest))) : W p l e R s m args below meth c H locs 0 0 Q (F0 m pc ls (.ref (G.2.1 0) :: rest)) := x_get (ci := 5) (j := 3) (code := (17 + 2)) (C := RX5) (T := TX5) (N := 11) F hw (sP).1 (sP).2 rfl rfl inT5 (by decide) hlk hdg kk
theorem g5_4 (F : Fx G ZX p m c cc nL s args own) (hw : Wld G ZX M s.heap H locs) (hlk : Cond.fieldLink own index "PawnLane" "kept" "[LPawnLane$Lane;" ∈ TBL) (hdg : decode cc pc = .ok (.getfield index, 3)) (kk : W p l e R s m args below meth c H locs 0 0 Q (F0 m (pc + 3) ls (.ref (G.2.1 26) :: rest))) : W p l e R s m args below meth c H locs 0 0 Q (F0 m pc ls (.ref (G.2.1 0) :: rest)) := x_get (ci := 5) (j := 4) (code := (26 + 2)) (C := RX5) (T := TX5) (N := 11) F hw (sP).1 (sP).2 rfl rfl inT5 (by decide) hlk hdg kk
theorem g5_5 (F : Fx G ZX p m c cc nL s args own) (hw : Wld G ZX M s.heap H locs) (hlk : Cond.fieldLink own index "PawnLane" "orders" "LPawnLane$Orders;" ∈ TBL) (hdg : decode cc pc = .ok (.getfield index, 3)) (kk : W p l e R s m args below meth c H locs 0 0 Q (F0 m (pc + 3) ls (.ref (G.2.1 54) :: rest))) : W p l e R s m args below meth c H locs 0 0 Q (F0 m pc ls (.ref (G.2.1 0) :: rest)) := x_get (ci := 5) (j := 5) (code := (54 + 2)) (C := RX5) (T := TX5) (N := 11) F hw (sP).1 (sP).2 rfl rfl inT5 (by decide) hlk hdg kk
theorem g5_6 (F : Fx G ZX p m c cc nL s args own) (hw : Wld G ZX M s.heap H locs) (hlk : Cond.fieldLink own index "PawnLane" "findingTimes" "[I" ∈ TBL) (hdg : decode cc pc = .ok (.getfield index, 3)) (kk : W p l e R s m args below meth c H locs 0 0 Q (F0 m (pc + 3) ls (.ref (G.2.1 59) :: rest))) : W p l e R s m args below meth c H locs 0 0 Q (F0 m pc ls (.ref (G.2.1 0) :: rest)) := x_get (ci := 5) (j := 6) (code := (59 + 2)) (C := RX5) (T := TX5) (N := 11) F hw (sP).1 (sP).2 rfl rfl inT5 (by decide) hlk hdg kk
theorem g5_7 (F : Fx G ZX p m c cc nL s args own) (hw : Wld G ZX M s.heap H locs) (hlk : Cond.fieldLink own index "PawnLane" "latestFinding" "I" ∈ TBL) (hdg : decode cc pc = .ok (.getfield index, 3)) (kk : W p l e R s m args below meth c H locs 0 0 Q (F0 m (pc + 3) ls (.int (M.1 0 7) :: rest))) : W p l e R s m args below meth c H locs 0 0 Q (F0 m pc ls (.ref (G.2.1 0) :: rest)) := x_get (ci := 5) (j := 7) (code := 0) (C := RX5) (T := TX5) (N := 11) F hw (sP).1 (sP).2 rfl rfl inT5 (by decide) hlk hdg kk
theorem s5_7 {v : Int32} (F : Fx G ZX p m c cc nL s args own) (hw : Wld G ZX M s.heap H locs) (hlk : Cond.fieldLink own index "PawnLane" "latestFinding" "I" ∈ TBL) (hdg : decode cc pc = .ok (.putfield index, 3)) (kk : ∀ (H1 : Heap) (locs1 : List Loc), Wld G ZX (wI M 0 7 v) s.heap H1 locs1 → W p l e R s m args below meth c H1 locs1 0 0 Q (F0 m (pc + 3) ls rest)) : W p l e R s m args below meth c H locs 0 0 Q (F0 m pc ls (.int v :: .ref (G.2.1 0) :: rest)) := x_putI (ci := 5) (j := 7) (C := RX5) (T := TX5) (N := 11) (ty := .int) F hw (sP).1 (sP).2 rfl rfl inT5 tyX5 tyX5_ok nmX5 (by decide) hlk rfl (by decide +kernel) rfl rfl hdg kk
theorem g5_8 (F : Fx G ZX p m c cc nL s args own) (hw : Wld G ZX M s.heap H locs) (hlk : Cond.fieldLink own index "PawnLane" "answer" "I" ∈ TBL) (hdg : decode cc pc = .ok (.getfield index, 3)) (kk : W p l e R s m args below meth c H locs 0 0 Q (F0 m (pc + 3) ls (.int (M.1 0 8) :: rest))) : W p l e R s m args below meth c H locs 0 0 Q (F0 m pc ls (.ref (G.2.1 0) :: rest)) := x_get (ci := 5) (j := 8) (code := 0) (C := RX5) (T := TX5) (N := 11) F hw (sP).1 (sP).2 rfl rfl inT5 (by decide) hlk hdg kk
theorem s5_8 {v : Int32} (F : Fx G ZX p m c cc nL s args own) (hw : Wld G ZX M s.heap H locs) (hlk : Cond.fieldLink own index "PawnLane" "answer" "I" ∈ TBL) (hdg : decode cc pc = .ok (.putfield index, 3)) (kk : ∀ (H1 : Heap) (locs1 : List Loc), Wld G ZX (wI M 0 8 v) s.heap H1 locs1 → W p l e R s m args below meth c H1 locs1 0 0 Q (F0 m (pc + 3) ls rest)) : W p l e R s m args below meth c H locs 0 0 Q (F0 m pc ls (.int v :: .ref (G.2.1 0) :: rest)) := x_putI (ci := 5) (j := 8) (C := RX5) (T := TX5) (N := 11) (ty := .int) F hw (sP).1 (sP).2 rfl rfl inT5 tyX5 tyX5_ok nmX5 (by decide) hlk rfl (by decide +kernel) rfl rfl hdg kk
theorem g5_9 (F : Fx G ZX p m c cc nL s args own) (hw : Wld G ZX M s.heap H locs) (hlk : Cond.fieldLink own index "PawnLane" "numerator" "J" ∈ TBL) (hdg : decode cc pc = .ok (.getfield index, 3)) (kk : W p l e R s m args below meth c H locs 0 0 Q (F0 m (pc + 3) ls (.long (M.2 0 9) :: rest))) : W p l e R s m args below meth c H locs 0 0 Q (F0 m pc ls (.ref (G.2.1 0) :: rest)) := x_get (ci := 5) (j := 9) (code := 1) (C := RX5) (T := TX5) (N := 11) F hw (sP).1 (sP).2 rfl rfl inT5 (by decide) hlk hdg kk
theorem s5_9 {v : Int64} (F : Fx G ZX p m c cc nL s args own) (hw : Wld G ZX M s.heap H locs) (hlk : Cond.fieldLink own index "PawnLane" "numerator" "J" ∈ TBL) (hdg : decode cc pc = .ok (.putfield index, 3)) (kk : ∀ (H1 : Heap) (locs1 : List Loc), Wld G ZX (wJ M 0 9 v) s.heap H1 locs1 → W p l e R s m args below meth c H1 locs1 0 0 Q (F0 m (pc + 3) ls rest)) : W p l e R s m args below meth c H locs 0 0 Q (F0 m pc ls (.long v :: .ref (G.2.1 0) :: rest)) := x_putJ (ci := 5) (j := 9) (C := RX5) (T := TX5) (N := 11) F hw (sP).1 (sP).2 rfl rfl inT5 tyX5 tyX5_ok nmX5 (by decide) hlk rfl (by decide +kernel) hdg kk
theorem g5_10 (F : Fx G ZX p m c cc nL s args own) (hw : Wld G ZX M s.heap H locs) (hlk : Cond.fieldLink own index "PawnLane" "denominator" "J" ∈ TBL) (hdg : decode cc pc = .ok (.getfield index, 3)) (kk : W p l e R s m args below meth c H locs 0 0 Q (F0 m (pc + 3) ls (.long (M.2 0 10) :: rest))) : W p l e R s m args below meth c H locs 0 0 Q (F0 m pc ls (.ref (G.2.1 0) :: rest)) := x_get (ci := 5) (j := 10) (code := 1) (C := RX5) (T := TX5) (N := 11) F hw (sP).1 (sP).2 rfl rfl inT5 (by decide) hlk hdg kk
theorem s5_10 {v : Int64} (F : Fx G ZX p m c cc nL s args own) (hw : Wld G ZX M s.heap H locs) (hlk : Cond.fieldLink own index "PawnLane" "denominator" "J" ∈ TBL) (hdg : decode cc pc = .ok (.putfield index, 3)) (kk : ∀ (H1 : Heap) (locs1 : List Loc), Wld G ZX (wJ M 0 10 v) s.heap H1 locs1 → W p l e R s m args below meth c H1 locs1 0 0 Q (F0 m (pc + 3) ls rest)) : W p l e R s m args below meth c H locs 0 0 Q (F0 m pc ls (.long v :: .ref (G.2.1 0) :: rest)) := x_putJ (ci := 5) (j := 10) (C := RX5) (T := TX5) (N := 11) F hw (sP).1 (sP).2 rfl rfl inT5 tyX5 tyX5_ok nmX5 (by decide) hlk rfl (by decide +kernel) hdg kk
theorem g6_0 (F : Fx G ZY p m c cc nL s args own) (hw : Wld G ZY M s.heap H locs) (hlk : Cond.fieldLink own index "PawnLaneModel" "row" "[I" ∈ TBL) (hdg : decode cc pc = .ok (.getfield index, 3)) (kk : W p l e R s m args below meth c H locs 0 0 Q (F0 m (pc + 3) ls (.ref (G.2.1 1) :: rest))) : W p l e R s m args below meth c H locs 0 0 Q (F0 m pc ls (.ref (G.2.1 0) :: rest)) := x_get (ci := 6) (j := 0) (code := (1 + 2)) (C := RX6) (T := TX6) (N := 26) F hw (sM).1 (sM).2 rfl rfl inT6 (by decide) hlk hdg kk
theorem g6_1 (F : Fx G ZY p m c cc nL s args own) (hw : Wld G ZY M s.heap H locs) (hlk : Cond.fieldLink own index "PawnLaneModel" "shops" "I" ∈ TBL) (hdg : decode cc pc = .ok (.getfield index, 3)) (kk : W p l e R s m args below meth c H locs 0 0 Q (F0 m (pc + 3) ls (.int (M.1 0 1) :: rest))) : W p l e R s m args below meth c H locs 0 0 Q (F0 m pc ls (.ref (G.2.1 0) :: rest)) := x_get (ci := 6) (j := 1) (code := 0) (C := RX6) (T := TX6) (N := 26) F hw (sM).1 (sM).2 rfl rfl inT6 (by decide) hlk hdg kk
theorem s6_1 {v : Int32} (F : Fx G ZY p m c cc nL s args own) (hw : Wld G ZY M s.heap H locs) (hlk : Cond.fieldLink own index "PawnLaneModel" "shops" "I" ∈ TBL) (hdg : decode cc pc = .ok (.putfield index, 3)) (kk : ∀ (H1 : Heap) (locs1 : List Loc), Wld G ZY (wI M 0 1 v) s.heap H1 locs1 → W p l e R s m args below meth c H1 locs1 0 0 Q (F0 m (pc + 3) ls rest)) : W p l e R s m args below meth c H locs 0 0 Q (F0 m pc ls (.int v :: .ref (G.2.1 0) :: rest)) := x_putI (ci := 6) (j := 1) (C := RX6) (T := TX6) (N := 26) (ty := .int) F hw (sM).1 (sM).2 rfl rfl inT6 tyX6 tyX6_ok nmX6 (by decide) hlk rfl (by decide +kernel) rfl rfl hdg kk
theorem g6_2 (F : Fx G ZY p m c cc nL s args own) (hw : Wld G ZY M s.heap H locs) (hlk : Cond.fieldLink own index "PawnLaneModel" "kinds" "[I" ∈ TBL) (hdg : decode cc pc = .ok (.getfield index, 3)) (kk : W p l e R s m args below meth c H locs 0 0 Q (F0 m (pc + 3) ls (.ref (G.2.1 2) :: rest))) : W p l e R s m args below meth c H locs 0 0 Q (F0 m pc ls (.ref (G.2.1 0) :: rest)) := x_get (ci := 6) (j := 2) (code := (2 + 2)) (C := RX6) (T := TX6) (N := 26) F hw (sM).1 (sM).2 rfl rfl inT6 (by decide) hlk hdg kk
theorem g6_3 (F : Fx G ZY p m c cc nL s args own) (hw : Wld G ZY M s.heap H locs) (hlk : Cond.fieldLink own index "PawnLaneModel" "sizes" "[I" ∈ TBL) (hdg : decode cc pc = .ok (.getfield index, 3)) (kk : W p l e R s m args below meth c H locs 0 0 Q (F0 m (pc + 3) ls (.ref (G.2.1 3) :: rest))) : W p l e R s m args below meth c H locs 0 0 Q (F0 m pc ls (.ref (G.2.1 0) :: rest)) := x_get (ci := 6) (j := 3) (code := (3 + 2)) (C := RX6) (T := TX6) (N := 26) F hw (sM).1 (sM).2 rfl rfl inT6 (by decide) hlk hdg kk
theorem g6_4 (F : Fx G ZY p m c cc nL s args own) (hw : Wld G ZY M s.heap H locs) (hlk : Cond.fieldLink own index "PawnLaneModel" "items" "[I" ∈ TBL) (hdg : decode cc pc = .ok (.getfield index, 3)) (kk : W p l e R s m args below meth c H locs 0 0 Q (F0 m (pc + 3) ls (.ref (G.2.1 4) :: rest))) : W p l e R s m args below meth c H locs 0 0 Q (F0 m pc ls (.ref (G.2.1 0) :: rest)) := x_get (ci := 6) (j := 4) (code := (4 + 2)) (C := RX6) (T := TX6) (N := 26) F hw (sM).1 (sM).2 rfl rfl inT6 (by decide) hlk hdg kk
theorem g6_5 (F : Fx G ZY p m c cc nL s args own) (hw : Wld G ZY M s.heap H locs) (hlk : Cond.fieldLink own index "PawnLaneModel" "lengths" "[I" ∈ TBL) (hdg : decode cc pc = .ok (.getfield index, 3)) (kk : W p l e R s m args below meth c H locs 0 0 Q (F0 m (pc + 3) ls (.ref (G.2.1 5) :: rest))) : W p l e R s m args below meth c H locs 0 0 Q (F0 m pc ls (.ref (G.2.1 0) :: rest)) := x_get (ci := 6) (j := 5) (code := (5 + 2)) (C := RX6) (T := TX6) (N := 26) F hw (sM).1 (sM).2 rfl rfl inT6 (by decide) hlk hdg kk
theorem g6_6 (F : Fx G ZY p m c cc nL s args own) (hw : Wld G ZY M s.heap H locs) (hlk : Cond.fieldLink own index "PawnLaneModel" "bytes" "[I" ∈ TBL) (hdg : decode cc pc = .ok (.getfield index, 3)) (kk : W p l e R s m args below meth c H locs 0 0 Q (F0 m (pc + 3) ls (.ref (G.2.1 6) :: rest))) : W p l e R s m args below meth c H locs 0 0 Q (F0 m pc ls (.ref (G.2.1 0) :: rest)) := x_get (ci := 6) (j := 6) (code := (6 + 2)) (C := RX6) (T := TX6) (N := 26) F hw (sM).1 (sM).2 rfl rfl inT6 (by decide) hlk hdg kk
theorem g6_7 (F : Fx G ZY p m c cc nL s args own) (hw : Wld G ZY M s.heap H locs) (hlk : Cond.fieldLink own index "PawnLaneModel" "asked" "I" ∈ TBL) (hdg : decode cc pc = .ok (.getfield index, 3)) (kk : W p l e R s m args below meth c H locs 0 0 Q (F0 m (pc + 3) ls (.int (M.1 0 7) :: rest))) : W p l e R s m args below meth c H locs 0 0 Q (F0 m pc ls (.ref (G.2.1 0) :: rest)) := x_get (ci := 6) (j := 7) (code := 0) (C := RX6) (T := TX6) (N := 26) F hw (sM).1 (sM).2 rfl rfl inT6 (by decide) hlk hdg kk
theorem s6_7 {v : Int32} (F : Fx G ZY p m c cc nL s args own) (hw : Wld G ZY M s.heap H locs) (hlk : Cond.fieldLink own index "PawnLaneModel" "asked" "I" ∈ TBL) (hdg : decode cc pc = .ok (.putfield index, 3)) (kk : ∀ (H1 : Heap) (locs1 : List Loc), Wld G ZY (wI M 0 7 v) s.heap H1 locs1 → W p l e R s m args below meth c H1 locs1 0 0 Q (F0 m (pc + 3) ls rest)) : W p l e R s m args below meth c H locs 0 0 Q (F0 m pc ls (.int v :: .ref (G.2.1 0) :: rest)) := x_putI (ci := 6) (j := 7) (C := RX6) (T := TX6) (N := 26) (ty := .int) F hw (sM).1 (sM).2 rfl rfl inT6 tyX6 tyX6_ok nmX6 (by decide) hlk rfl (by decide +kernel) rfl rfl hdg kk
theorem g6_8 (F : Fx G ZY p m c cc nL s args own) (hw : Wld G ZY M s.heap H locs) (hlk : Cond.fieldLink own index "PawnLaneModel" "upper" "J" ∈ TBL) (hdg : decode cc pc = .ok (.getfield index, 3)) (kk : W p l e R s m args below meth c H locs 0 0 Q (F0 m (pc + 3) ls (.long (M.2 0 8) :: rest))) : W p l e R s m args below meth c H locs 0 0 Q (F0 m pc ls (.ref (G.2.1 0) :: rest)) := x_get (ci := 6) (j := 8) (code := 1) (C := RX6) (T := TX6) (N := 26) F hw (sM).1 (sM).2 rfl rfl inT6 (by decide) hlk hdg kk
theorem s6_8 {v : Int64} (F : Fx G ZY p m c cc nL s args own) (hw : Wld G ZY M s.heap H locs) (hlk : Cond.fieldLink own index "PawnLaneModel" "upper" "J" ∈ TBL) (hdg : decode cc pc = .ok (.putfield index, 3)) (kk : ∀ (H1 : Heap) (locs1 : List Loc), Wld G ZY (wJ M 0 8 v) s.heap H1 locs1 → W p l e R s m args below meth c H1 locs1 0 0 Q (F0 m (pc + 3) ls rest)) : W p l e R s m args below meth c H locs 0 0 Q (F0 m pc ls (.long v :: .ref (G.2.1 0) :: rest)) := x_putJ (ci := 6) (j := 8) (C := RX6) (T := TX6) (N := 26) F hw (sM).1 (sM).2 rfl rfl inT6 tyX6 tyX6_ok nmX6 (by decide) hlk rfl (by decide +kernel) hdg kk
theorem g6_9 (F : Fx G ZY p m c cc nL s args own) (hw : Wld G ZY M s.heap H locs) (hlk : Cond.fieldLink own index "PawnLaneModel" "lower" "J" ∈ TBL) (hdg : decode cc pc = .ok (.getfield index, 3)) (kk : W p l e R s m args below meth c H locs 0 0 Q (F0 m (pc + 3) ls (.long (M.2 0 9) :: rest))) : W p l e R s m args below meth c H locs 0 0 Q (F0 m pc ls (.ref (G.2.1 0) :: rest)) := x_get (ci := 6) (j := 9) (code := 1) (C := RX6) (T := TX6) (N := 26) F hw (sM).1 (sM).2 rfl rfl inT6 (by decide) hlk hdg kk
theorem s6_9 {v : Int64} (F : Fx G ZY p m c cc nL s args own) (hw : Wld G ZY M s.heap H locs) (hlk : Cond.fieldLink own index "PawnLaneModel" "lower" "J" ∈ TBL) (hdg : decode cc pc = .ok (.putfield index, 3)) (kk : ∀ (H1 : Heap) (locs1 : List Loc), Wld G ZY (wJ M 0 9 v) s.heap H1 locs1 → W p l e R s m args below meth c H1 locs1 0 0 Q (F0 m (pc + 3) ls rest)) : W p l e R s m args below meth c H locs 0 0 Q (F0 m pc ls (.long v :: .ref (G.2.1 0) :: rest)) := x_putJ (ci := 6) (j := 9) (C := RX6) (T := TX6) (N := 26) F hw (sM).1 (sM).2 rfl rfl inT6 tyX6 tyX6_ok nmX6 (by decide) hlk rfl (by decide +kernel) hdg kk
theorem g6_10 (F : Fx G ZY p m c cc nL s args own) (hw : Wld G ZY M s.heap H locs) (hlk : Cond.fieldLink own index "PawnLaneModel" "finding" "I" ∈ TBL) (hdg : decode cc pc = .ok (.getfield index, 3)) (kk : W p l e R s m args below meth c H locs 0 0 Q (F0 m (pc + 3) ls (.int (M.1 0 10) :: rest))) : W p l e R s m args below meth c H locs 0 0 Q (F0 m pc ls (.ref (G.2.1 0) :: rest)) := x_get (ci := 6) (j := 10) (code := 0) (C := RX6) (T := TX6) (N := 26) F hw (sM).1 (sM).2 rfl rfl inT6 (by decide) hlk hdg kk
theorem s6_10 {v : Int32} (F : Fx G ZY p m c cc nL s args own) (hw : Wld G ZY M s.heap H locs) (hlk : Cond.fieldLink own index "PawnLaneModel" "finding" "I" ∈ TBL) (hdg : decode cc pc = .ok (.putfield index, 3)) (kk : ∀ (H1 : Heap) (locs1 : List Loc), Wld G ZY (wI M 0 10 v) s.heap H1 locs1 → W p l e R s m args below meth c H1 locs1 0 0 Q (F0 m (pc + 3) ls rest)) : W p l e R s m args below meth c H locs 0 0 Q (F0 m pc ls (.int v :: .ref (G.2.1 0) :: rest)) := x_putI (ci := 6) (j := 10) (C := RX6) (T := TX6) (N := 26) (ty := .int) F hw (sM).1 (sM).2 rfl rfl inT6 tyX6 tyX6_ok nmX6 (by decide) hlk rfl (by decide +kernel) rfl rfl hdg kk
theorem g6_11 (F : Fx G ZY p m c cc nL s args own) (hw : Wld G ZY M s.heap H locs) (hlk : Cond.fieldLink own index "PawnLaneModel" "findings" "[I" ∈ TBL) (hdg : decode cc pc = .ok (.getfield index, 3)) (kk : W p l e R s m args below meth c H locs 0 0 Q (F0 m (pc + 3) ls (.ref (G.2.1 7) :: rest))) : W p l e R s m args below meth c H locs 0 0 Q (F0 m pc ls (.ref (G.2.1 0) :: rest)) := x_get (ci := 6) (j := 11) (code := (7 + 2)) (C := RX6) (T := TX6) (N := 26) F hw (sM).1 (sM).2 rfl rfl inT6 (by decide) hlk hdg kk
theorem g6_12 (F : Fx G ZY p m c cc nL s args own) (hw : Wld G ZY M s.heap H locs) (hlk : Cond.fieldLink own index "PawnLaneModel" "from" "I" ∈ TBL) (hdg : decode cc pc = .ok (.getfield index, 3)) (kk : W p l e R s m args below meth c H locs 0 0 Q (F0 m (pc + 3) ls (.int (M.1 0 12) :: rest))) : W p l e R s m args below meth c H locs 0 0 Q (F0 m pc ls (.ref (G.2.1 0) :: rest)) := x_get (ci := 6) (j := 12) (code := 0) (C := RX6) (T := TX6) (N := 26) F hw (sM).1 (sM).2 rfl rfl inT6 (by decide) hlk hdg kk
theorem s6_12 {v : Int32} (F : Fx G ZY p m c cc nL s args own) (hw : Wld G ZY M s.heap H locs) (hlk : Cond.fieldLink own index "PawnLaneModel" "from" "I" ∈ TBL) (hdg : decode cc pc = .ok (.putfield index, 3)) (kk : ∀ (H1 : Heap) (locs1 : List Loc), Wld G ZY (wI M 0 12 v) s.heap H1 locs1 → W p l e R s m args below meth c H1 locs1 0 0 Q (F0 m (pc + 3) ls rest)) : W p l e R s m args below meth c H locs 0 0 Q (F0 m pc ls (.int v :: .ref (G.2.1 0) :: rest)) := x_putI (ci := 6) (j := 12) (C := RX6) (T := TX6) (N := 26) (ty := .int) F hw (sM).1 (sM).2 rfl rfl inT6 tyX6 tyX6_ok nmX6 (by decide) hlk rfl (by decide +kernel) rfl rfl hdg kk
theorem g6_13 (F : Fx G ZY p m c cc nL s args own) (hw : Wld G ZY M s.heap H locs) (hlk : Cond.fieldLink own index "PawnLaneModel" "place" "I" ∈ TBL) (hdg : decode cc pc = .ok (.getfield index, 3)) (kk : W p l e R s m args below meth c H locs 0 0 Q (F0 m (pc + 3) ls (.int (M.1 0 13) :: rest))) : W p l e R s m args below meth c H locs 0 0 Q (F0 m pc ls (.ref (G.2.1 0) :: rest)) := x_get (ci := 6) (j := 13) (code := 0) (C := RX6) (T := TX6) (N := 26) F hw (sM).1 (sM).2 rfl rfl inT6 (by decide) hlk hdg kk
theorem s6_13 {v : Int32} (F : Fx G ZY p m c cc nL s args own) (hw : Wld G ZY M s.heap H locs) (hlk : Cond.fieldLink own index "PawnLaneModel" "place" "I" ∈ TBL) (hdg : decode cc pc = .ok (.putfield index, 3)) (kk : ∀ (H1 : Heap) (locs1 : List Loc), Wld G ZY (wI M 0 13 v) s.heap H1 locs1 → W p l e R s m args below meth c H1 locs1 0 0 Q (F0 m (pc + 3) ls rest)) : W p l e R s m args below meth c H locs 0 0 Q (F0 m pc ls (.int v :: .ref (G.2.1 0) :: rest)) := x_putI (ci := 6) (j := 13) (C := RX6) (T := TX6) (N := 26) (ty := .int) F hw (sM).1 (sM).2 rfl rfl inT6 tyX6 tyX6_ok nmX6 (by decide) hlk rfl (by decide +kernel) rfl rfl hdg kk
theorem g6_14 (F : Fx G ZY p m c cc nL s args own) (hw : Wld G ZY M s.heap H locs) (hlk : Cond.fieldLink own index "PawnLaneModel" "end" "I" ∈ TBL) (hdg : decode cc pc = .ok (.getfield index, 3)) (kk : W p l e R s m args below meth c H locs 0 0 Q (F0 m (pc + 3) ls (.int (M.1 0 14) :: rest))) : W p l e R s m args below meth c H locs 0 0 Q (F0 m pc ls (.ref (G.2.1 0) :: rest)) := x_get (ci := 6) (j := 14) (code := 0) (C := RX6) (T := TX6) (N := 26) F hw (sM).1 (sM).2 rfl rfl inT6 (by decide) hlk hdg kk
theorem s6_14 {v : Int32} (F : Fx G ZY p m c cc nL s args own) (hw : Wld G ZY M s.heap H locs) (hlk : Cond.fieldLink own index "PawnLaneModel" "end" "I" ∈ TBL) (hdg : decode cc pc = .ok (.putfield index, 3)) (kk : ∀ (H1 : Heap) (locs1 : List Loc), Wld G ZY (wI M 0 14 v) s.heap H1 locs1 → W p l e R s m args below meth c H1 locs1 0 0 Q (F0 m (pc + 3) ls rest)) : W p l e R s m args below meth c H locs 0 0 Q (F0 m pc ls (.int v :: .ref (G.2.1 0) :: rest)) := x_putI (ci := 6) (j := 14) (C := RX6) (T := TX6) (N := 26) (ty := .int) F hw (sM).1 (sM).2 rfl rfl inT6 tyX6 tyX6_ok nmX6 (by decide) hlk rfl (by decide +kernel) rfl rfl hdg kk
theorem g6_15 (F : Fx G ZY p m c cc nL s args own) (hw : Wld G ZY M s.heap H locs) (hlk : Cond.fieldLink own index "PawnLaneModel" "readShops" "[I" ∈ TBL) (hdg : decode cc pc = .ok (.getfield index, 3)) (kk : W p l e R s m args below meth c H locs 0 0 Q (F0 m (pc + 3) ls (.ref (G.2.1 8) :: rest))) : W p l e R s m args below meth c H locs 0 0 Q (F0 m pc ls (.ref (G.2.1 0) :: rest)) := x_get (ci := 6) (j := 15) (code := (8 + 2)) (C := RX6) (T := TX6) (N := 26) F hw (sM).1 (sM).2 rfl rfl inT6 (by decide) hlk hdg kk
theorem g6_16 (F : Fx G ZY p m c cc nL s args own) (hw : Wld G ZY M s.heap H locs) (hlk : Cond.fieldLink own index "PawnLaneModel" "readMany" "I" ∈ TBL) (hdg : decode cc pc = .ok (.getfield index, 3)) (kk : W p l e R s m args below meth c H locs 0 0 Q (F0 m (pc + 3) ls (.int (M.1 0 16) :: rest))) : W p l e R s m args below meth c H locs 0 0 Q (F0 m pc ls (.ref (G.2.1 0) :: rest)) := x_get (ci := 6) (j := 16) (code := 0) (C := RX6) (T := TX6) (N := 26) F hw (sM).1 (sM).2 rfl rfl inT6 (by decide) hlk hdg kk
theorem s6_16 {v : Int32} (F : Fx G ZY p m c cc nL s args own) (hw : Wld G ZY M s.heap H locs) (hlk : Cond.fieldLink own index "PawnLaneModel" "readMany" "I" ∈ TBL) (hdg : decode cc pc = .ok (.putfield index, 3)) (kk : ∀ (H1 : Heap) (locs1 : List Loc), Wld G ZY (wI M 0 16 v) s.heap H1 locs1 → W p l e R s m args below meth c H1 locs1 0 0 Q (F0 m (pc + 3) ls rest)) : W p l e R s m args below meth c H locs 0 0 Q (F0 m pc ls (.int v :: .ref (G.2.1 0) :: rest)) := x_putI (ci := 6) (j := 16) (C := RX6) (T := TX6) (N := 26) (ty := .int) F hw (sM).1 (sM).2 rfl rfl inT6 tyX6 tyX6_ok nmX6 (by decide) hlk rfl (by decide +kernel) rfl rfl hdg kk
theorem g6_17 (F : Fx G ZY p m c cc nL s args own) (hw : Wld G ZY M s.heap H locs) (hlk : Cond.fieldLink own index "PawnLaneModel" "readTickets" "I" ∈ TBL) (hdg : decode cc pc = .ok (.getfield index, 3)) (kk : W p l e R s m args below meth c H locs 0 0 Q (F0 m (pc + 3) ls (.int (M.1 0 17) :: rest))) : W p l e R s m args below meth c H locs 0 0 Q (F0 m pc ls (.ref (G.2.1 0) :: rest)) := x_get (ci := 6) (j := 17) (code := 0) (C := RX6) (T := TX6) (N := 26) F hw (sM).1 (sM).2 rfl rfl inT6 (by decide) hlk hdg kk
theorem s6_17 {v : Int32} (F : Fx G ZY p m c cc nL s args own) (hw : Wld G ZY M s.heap H locs) (hlk : Cond.fieldLink own index "PawnLaneModel" "readTickets" "I" ∈ TBL) (hdg : decode cc pc = .ok (.putfield index, 3)) (kk : ∀ (H1 : Heap) (locs1 : List Loc), Wld G ZY (wI M 0 17 v) s.heap H1 locs1 → W p l e R s m args below meth c H1 locs1 0 0 Q (F0 m (pc + 3) ls rest)) : W p l e R s m args below meth c H locs 0 0 Q (F0 m pc ls (.int v :: .ref (G.2.1 0) :: rest)) := x_putI (ci := 6) (j := 17) (C := RX6) (T := TX6) (N := 26) (ty := .int) F hw (sM).1 (sM).2 rfl rfl inT6 tyX6 tyX6_ok nmX6 (by decide) hlk rfl (by decide +kernel) rfl rfl hdg kk
theorem g6_18 (F : Fx G ZY p m c cc nL s args own) (hw : Wld G ZY M s.heap H locs) (hlk : Cond.fieldLink own index "PawnLaneModel" "chalked" "[I" ∈ TBL) (hdg : decode cc pc = .ok (.getfield index, 3)) (kk : W p l e R s m args below meth c H locs 0 0 Q (F0 m (pc + 3) ls (.ref (G.2.1 9) :: rest))) : W p l e R s m args below meth c H locs 0 0 Q (F0 m pc ls (.ref (G.2.1 0) :: rest)) := x_get (ci := 6) (j := 18) (code := (9 + 2)) (C := RX6) (T := TX6) (N := 26) F hw (sM).1 (sM).2 rfl rfl inT6 (by decide) hlk hdg kk
theorem g6_19 (F : Fx G ZY p m c cc nL s args own) (hw : Wld G ZY M s.heap H locs) (hlk : Cond.fieldLink own index "PawnLaneModel" "more" "[I" ∈ TBL) (hdg : decode cc pc = .ok (.getfield index, 3)) (kk : W p l e R s m args below meth c H locs 0 0 Q (F0 m (pc + 3) ls (.ref (G.2.1 10) :: rest))) : W p l e R s m args below meth c H locs 0 0 Q (F0 m pc ls (.ref (G.2.1 0) :: rest)) := x_get (ci := 6) (j := 19) (code := (10 + 2)) (C := RX6) (T := TX6) (N := 26) F hw (sM).1 (sM).2 rfl rfl inT6 (by decide) hlk hdg kk
theorem g6_20 (F : Fx G ZY p m c cc nL s args own) (hw : Wld G ZY M s.heap H locs) (hlk : Cond.fieldLink own index "PawnLaneModel" "due" "[I" ∈ TBL) (hdg : decode cc pc = .ok (.getfield index, 3)) (kk : W p l e R s m args below meth c H locs 0 0 Q (F0 m (pc + 3) ls (.ref (G.2.1 11) :: rest))) : W p l e R s m args below meth c H locs 0 0 Q (F0 m pc ls (.ref (G.2.1 0) :: rest)) := x_get (ci := 6) (j := 20) (code := (11 + 2)) (C := RX6) (T := TX6) (N := 26) F hw (sM).1 (sM).2 rfl rfl inT6 (by decide) hlk hdg kk
theorem g6_21 (F : Fx G ZY p m c cc nL s args own) (hw : Wld G ZY M s.heap H locs) (hlk : Cond.fieldLink own index "PawnLaneModel" "cash" "[I" ∈ TBL) (hdg : decode cc pc = .ok (.getfield index, 3)) (kk : W p l e R s m args below meth c H locs 0 0 Q (F0 m (pc + 3) ls (.ref (G.2.1 12) :: rest))) : W p l e R s m args below meth c H locs 0 0 Q (F0 m pc ls (.ref (G.2.1 0) :: rest)) := x_get (ci := 6) (j := 21) (code := (12 + 2)) (C := RX6) (T := TX6) (N := 26) F hw (sM).1 (sM).2 rfl rfl inT6 (by decide) hlk hdg kk
theorem g6_22 (F : Fx G ZY p m c cc nL s args own) (hw : Wld G ZY M s.heap H locs) (hlk : Cond.fieldLink own index "PawnLaneModel" "all" "I" ∈ TBL) (hdg : decode cc pc = .ok (.getfield index, 3)) (kk : W p l e R s m args below meth c H locs 0 0 Q (F0 m (pc + 3) ls (.int (M.1 0 22) :: rest))) : W p l e R s m args below meth c H locs 0 0 Q (F0 m pc ls (.ref (G.2.1 0) :: rest)) := x_get (ci := 6) (j := 22) (code := 0) (C := RX6) (T := TX6) (N := 26) F hw (sM).1 (sM).2 rfl rfl inT6 (by decide) hlk hdg kk
theorem s6_22 {v : Int32} (F : Fx G ZY p m c cc nL s args own) (hw : Wld G ZY M s.heap H locs) (hlk : Cond.fieldLink own index "PawnLaneModel" "all" "I" ∈ TBL) (hdg : decode cc pc = .ok (.putfield index, 3)) (kk : ∀ (H1 : Heap) (locs1 : List Loc), Wld G ZY (wI M 0 22 v) s.heap H1 locs1 → W p l e R s m args below meth c H1 locs1 0 0 Q (F0 m (pc + 3) ls rest)) : W p l e R s m args below meth c H locs 0 0 Q (F0 m pc ls (.int v :: .ref (G.2.1 0) :: rest)) := x_putI (ci := 6) (j := 22) (C := RX6) (T := TX6) (N := 26) (ty := .int) F hw (sM).1 (sM).2 rfl rfl inT6 tyX6 tyX6_ok nmX6 (by decide) hlk rfl (by decide +kernel) rfl rfl hdg kk
theorem g6_23 (F : Fx G ZY p m c cc nL s args own) (hw : Wld G ZY M s.heap H locs) (hlk : Cond.fieldLink own index "PawnLaneModel" "ways" "[J" ∈ TBL) (hdg : decode cc pc = .ok (.getfield index, 3)) (kk : W p l e R s m args below meth c H locs 0 0 Q (F0 m (pc + 3) ls (.ref (G.2.1 13) :: rest))) : W p l e R s m args below meth c H locs 0 0 Q (F0 m pc ls (.ref (G.2.1 0) :: rest)) := x_get (ci := 6) (j := 23) (code := (13 + 2)) (C := RX6) (T := TX6) (N := 26) F hw (sM).1 (sM).2 rfl rfl inT6 (by decide) hlk hdg kk
theorem g6_24 (F : Fx G ZY p m c cc nL s args own) (hw : Wld G ZY M s.heap H locs) (hlk : Cond.fieldLink own index "PawnLaneModel" "on" "[J" ∈ TBL) (hdg : decode cc pc = .ok (.getfield index, 3)) (kk : W p l e R s m args below meth c H locs 0 0 Q (F0 m (pc + 3) ls (.ref (G.2.1 14) :: rest))) : W p l e R s m args below meth c H locs 0 0 Q (F0 m pc ls (.ref (G.2.1 0) :: rest)) := x_get (ci := 6) (j := 24) (code := (14 + 2)) (C := RX6) (T := TX6) (N := 26) F hw (sM).1 (sM).2 rfl rfl inT6 (by decide) hlk hdg kk
theorem g6_25 (F : Fx G ZY p m c cc nL s args own) (hw : Wld G ZY M s.heap H locs) (hlk : Cond.fieldLink own index "PawnLaneModel" "soon" "[I" ∈ TBL) (hdg : decode cc pc = .ok (.getfield index, 3)) (kk : W p l e R s m args below meth c H locs 0 0 Q (F0 m (pc + 3) ls (.ref (G.2.1 15) :: rest))) : W p l e R s m args below meth c H locs 0 0 Q (F0 m pc ls (.ref (G.2.1 0) :: rest)) := x_get (ci := 6) (j := 25) (code := (15 + 2)) (C := RX6) (T := TX6) (N := 26) F hw (sM).1 (sM).2 rfl rfl inT6 (by decide) hlk hdg kk
end XFields
end
section
theorem tw_0 : Cond.constant RJ6 264 65536 ∈ TBL := tbl_3 (i := 76) (by decide +kernel) (by decide +kernel)
theorem tw_1 : Cond.constant RJ6 265 1431655765 ∈ TBL := tbl_2 (i := 145) (by decide +kernel) (by decide +kernel)
theorem tw_2 : Cond.constant RJ6 266 858993459 ∈ TBL := tbl_2 (i := 146) (by decide +kernel) (by decide +kernel)
theorem tw_3 : Cond.constant RJ6 267 252645135 ∈ TBL := tbl_2 (i := 147) (by decide +kernel) (by decide +kernel)
theorem tw_4 : Cond.methodLink RX5 335 Lib.Math.max.name ∈ TBL := tbl_2 (i := 119) (by decide +kernel) (by decide +kernel)
theorem tw_5 : Cond.static Lib.Math.max.name ∈ TBL := tbl_2 (i := 120) (by decide +kernel) (by decide +kernel)
theorem tw_6 : Cond.initialized RJ9 ∈ TBL := tbl_1 (i := 10) (by decide +kernel) (by decide +kernel)
theorem tw_7 : Cond.code Lib.Math.max.name Lib.Math.max.code 2 (some .int) ∈ TBL := tbl_2 (i := 121) (by decide +kernel) (by decide +kernel)
theorem tw_8 : Cond.fieldLink RX0 15 "PawnLane$Deeds" "size" "I" ∈ TBL := tbl_1 (i := 59) (by decide +kernel) (by decide +kernel)
theorem tw_9 : Cond.fieldLink RX0 9 "PawnLane$Deeds" "packed" "[I" ∈ TBL := tbl_1 (i := 58) (by decide +kernel) (by decide +kernel)
theorem tw_10 : Cond.code yX0_hasRoom cX0_hasRoom 2 (some .boolean) ∈ TBL := tbl_2 (i := 191) (by decide +kernel) (by decide +kernel)
theorem tw_11 : Cond.methodLink RX0 19 yX0_hasRoom ∈ TBL := tbl_2 (i := 200) (by decide +kernel) (by decide +kernel)
theorem tw_12 : Cond.instanceMethod yX0_hasRoom ∈ TBL := tbl_2 (i := 189) (by decide +kernel) (by decide +kernel)
theorem tw_13 : Cond.selects RX0 yX0_hasRoom yX0_hasRoom ∈ TBL := tbl_2 (i := 190) (by decide +kernel) (by decide +kernel)
theorem tw_14 : Cond.initialized RX0 ∈ TBL := tbl_1 (i := 6) (by decide +kernel) (by decide +kernel)
theorem vw_RX0_19 : VW RX0 19 RX0 yX0_hasRoom (.code yX0_hasRoom cX0_hasRoom 2 (some .boolean)) 1 := ⟨good_V tw_11 tw_12 tw_13 tw_14 tw_10, by decide +kernel⟩
theorem tw_16 : Cond.methodLink RX0 23 arraycopyName ∈ TBL := tbl_2 (i := 100) (by decide +kernel) (by decide +kernel)
theorem tw_17 : Cond.native arraycopyName ∈ TBL := tbl_2 (i := 11) (by decide +kernel) (by decide +kernel)
theorem tw_18 : Cond.static arraycopyName ∈ TBL := tbl_2 (i := 10) (by decide +kernel) (by decide +kernel)
theorem tw_19 : Cond.initialized RJ10 ∈ TBL := tbl_1 (i := 9) (by decide +kernel) (by decide +kernel)
theorem tw_20 : Cond.fieldLink RX4 13 "PawnLane$Sheets" "sizes" "[I" ∈ TBL := tbl_1 (i := 30) (by decide +kernel) (by decide +kernel)
theorem tw_21 : Cond.fieldLink RX4 17 "PawnLane$Sheets" "places" "[I" ∈ TBL := tbl_1 (i := 31) (by decide +kernel) (by decide +kernel)
theorem tw_22 : Cond.fieldLink RX4 7 "PawnLane$Sheets" "width" "I" ∈ TBL := tbl_1 (i := 29) (by decide +kernel) (by decide +kernel)
theorem tw_23 : Cond.code yX4_setValue cX4_setValue 4 none ∈ TBL := tbl_1 (i := 203) (by decide +kernel) (by decide +kernel)
theorem tw_24 : Cond.methodLink RX4 26 yX4_setValue ∈ TBL := tbl_1 (i := 200) (by decide +kernel) (by decide +kernel)
theorem tw_25 : Cond.instanceMethod yX4_setValue ∈ TBL := tbl_1 (i := 201) (by decide +kernel) (by decide +kernel)
theorem tw_26 : Cond.selects RX4 yX4_setValue yX4_setValue ∈ TBL := tbl_1 (i := 202) (by decide +kernel) (by decide +kernel)
theorem tw_27 : Cond.initialized RX4 ∈ TBL := tbl_1 (i := 2) (by decide +kernel) (by decide +kernel)
theorem vw_RX4_26 : VW RX4 26 RX4 yX4_setValue (.code yX4_setValue cX4_setValue 4 none) 3 := ⟨good_V tw_24 tw_25 tw_26 tw_27 tw_23, by decide +kernel⟩
theorem tw_29 : Cond.methodLink RX4 30 arraycopyName ∈ TBL := tbl_2 (i := 9) (by decide +kernel) (by decide +kernel)
theorem tw_30 : Cond.code yX4_valueAt cX4_valueAt 3 (some .int) ∈ TBL := tbl_1 (i := 227) (by decide +kernel) (by decide +kernel)
theorem tw_31 : Cond.methodLink RX4 36 yX4_valueAt ∈ TBL := tbl_2 (i := 24) (by decide +kernel) (by decide +kernel)
theorem tw_32 : Cond.instanceMethod yX4_valueAt ∈ TBL := tbl_1 (i := 225) (by decide +kernel) (by decide +kernel)
theorem tw_33 : Cond.selects RX4 yX4_valueAt yX4_valueAt ∈ TBL := tbl_1 (i := 226) (by decide +kernel) (by decide +kernel)
theorem vw_RX4_36 : VW RX4 36 RX4 yX4_valueAt (.code yX4_valueAt cX4_valueAt 3 (some .int)) 2 := ⟨good_V tw_31 tw_32 tw_33 tw_27 tw_30, by decide +kernel⟩
theorem tw_35 : Cond.code yX4_isThere cX4_isThere 2 (some .boolean) ∈ TBL := tbl_1 (i := 219) (by decide +kernel) (by decide +kernel)
theorem tw_36 : Cond.methodLink RX4 40 yX4_isThere ∈ TBL := tbl_4 (i := 49) (by decide +kernel) (by decide +kernel)
theorem tw_37 : Cond.instanceMethod yX4_isThere ∈ TBL := tbl_1 (i := 217) (by decide +kernel) (by decide +kernel)
theorem tw_38 : Cond.selects RX4 yX4_isThere yX4_isThere ∈ TBL := tbl_1 (i := 218) (by decide +kernel) (by decide +kernel)
theorem vw_RX4_40 : VW RX4 40 RX4 yX4_isThere (.code yX4_isThere cX4_isThere 2 (some .boolean)) 1 := ⟨good_V tw_36 tw_37 tw_38 tw_27 tw_35, by decide +kernel⟩
theorem tw_40 : Cond.constantLong RX4 44 31 ∈ TBL := tbl_4 (i := 72) (by decide +kernel) (by decide +kernel)
theorem tw_41 : Cond.fieldLink RX1 9 "PawnLane$Lane" "shops" "I" ∈ TBL := tbl_1 (i := 67) (by decide +kernel) (by decide +kernel)
theorem tw_42 : Cond.fieldLink RX1 37 "PawnLane$Lane" "deeds" "LPawnLane$Deeds;" ∈ TBL := tbl_1 (i := 86) (by decide +kernel) (by decide +kernel)
theorem tw_43 : Cond.fieldLink RX1 41 "PawnLane$Deeds" "size" "I" ∈ TBL := tbl_1 (i := 60) (by decide +kernel) (by decide +kernel)
theorem tw_44 : Cond.fieldLink RX1 25 "PawnLane$Lane" "holder" "[I" ∈ TBL := tbl_1 (i := 80) (by decide +kernel) (by decide +kernel)
theorem tw_45 : Cond.fieldLink RX1 28 "PawnLane$Lane" "loan" "[I" ∈ TBL := tbl_1 (i := 83) (by decide +kernel) (by decide +kernel)
theorem tw_46 : Cond.fieldLink RX1 31 "PawnLane$Lane" "weeks" "[I" ∈ TBL := tbl_1 (i := 84) (by decide +kernel) (by decide +kernel)
theorem tw_47 : Cond.fieldLink RX1 19 "PawnLane$Lane" "cash" "[I" ∈ TBL := tbl_1 (i := 73) (by decide +kernel) (by decide +kernel)
theorem tw_48 : Cond.code yX1_setTicket cX1_setTicket 5 none ∈ TBL := tbl_2 (i := 69) (by decide +kernel) (by decide +kernel)
theorem tw_49 : Cond.methodLink RX1 58 yX1_setTicket ∈ TBL := tbl_2 (i := 66) (by decide +kernel) (by decide +kernel)
theorem tw_50 : Cond.instanceMethod yX1_setTicket ∈ TBL := tbl_2 (i := 67) (by decide +kernel) (by decide +kernel)
theorem tw_51 : Cond.selects RX1 yX1_setTicket yX1_setTicket ∈ TBL := tbl_2 (i := 68) (by decide +kernel) (by decide +kernel)
theorem tw_52 : Cond.initialized RX1 ∈ TBL := tbl_1 (i := 5) (by decide +kernel) (by decide +kernel)
theorem vw_RX1_58 : VW RX1 58 RX1 yX1_setTicket (.code yX1_setTicket cX1_setTicket 5 none) 4 := ⟨good_V tw_49 tw_50 tw_51 tw_52 tw_48, by decide +kernel⟩
theorem tw_54 : Cond.code yX1_isPawned cX1_isPawned 2 (some .boolean) ∈ TBL := tbl_2 (i := 85) (by decide +kernel) (by decide +kernel)
theorem tw_55 : Cond.methodLink RX1 62 yX1_isPawned ∈ TBL := tbl_2 (i := 115) (by decide +kernel) (by decide +kernel)
theorem tw_56 : Cond.instanceMethod yX1_isPawned ∈ TBL := tbl_2 (i := 83) (by decide +kernel) (by decide +kernel)
theorem tw_57 : Cond.selects RX1 yX1_isPawned yX1_isPawned ∈ TBL := tbl_2 (i := 84) (by decide +kernel) (by decide +kernel)
theorem vw_RX1_62 : VW RX1 62 RX1 yX1_isPawned (.code yX1_isPawned cX1_isPawned 2 (some .boolean)) 1 := ⟨good_V tw_55 tw_56 tw_57 tw_52 tw_54, by decide +kernel⟩
theorem tw_59 : Cond.code yX5_isIn cX5_isIn 2 (some .boolean) ∈ TBL := tbl_2 (i := 171) (by decide +kernel) (by decide +kernel)
theorem tw_60 : Cond.initialized RX5 ∈ TBL := tbl_1 (i := 1) (by decide +kernel) (by decide +kernel)
theorem tw_61 : Cond.static yX5_isIn ∈ TBL := tbl_2 (i := 170) (by decide +kernel) (by decide +kernel)
theorem nn_RX1_66 : NN RX1 66 yX5_isIn (.code yX5_isIn cX5_isIn 2 (some .boolean)) 2 := ⟨good_C tw_59, tw_60, by decide +kernel, tw_61, by decide +kernel⟩
theorem tw_63 : Cond.fieldLink RX1 22 "PawnLane$Lane" "stock" "[I" ∈ TBL := tbl_1 (i := 77) (by decide +kernel) (by decide +kernel)
theorem tw_64 : Cond.fieldLink RX1 15 "PawnLane$Lane" "kind" "[I" ∈ TBL := tbl_1 (i := 71) (by decide +kernel) (by decide +kernel)
theorem tw_65 : Cond.code yX5_isOfKind cX5_isOfKind 2 (some .boolean) ∈ TBL := tbl_2 (i := 132) (by decide +kernel) (by decide +kernel)
theorem tw_66 : Cond.static yX5_isOfKind ∈ TBL := tbl_2 (i := 131) (by decide +kernel) (by decide +kernel)
theorem nn_RX1_78 : NN RX1 78 yX5_isOfKind (.code yX5_isOfKind cX5_isOfKind 2 (some .boolean)) 2 := ⟨good_C tw_65, tw_60, by decide +kernel, tw_66, by decide +kernel⟩
theorem tw_68 : Cond.methodLink RX1 81 Lib.Math.max.name ∈ TBL := tbl_2 (i := 226) (by decide +kernel) (by decide +kernel)
theorem tw_69 : Cond.methodLink RX1 44 arraycopyName ∈ TBL := tbl_2 (i := 95) (by decide +kernel) (by decide +kernel)
theorem tw_70 : Cond.code yX0_becomeLike cX0_becomeLike 2 none ∈ TBL := tbl_2 (i := 99) (by decide +kernel) (by decide +kernel)
theorem tw_71 : Cond.methodLink RX1 50 yX0_becomeLike ∈ TBL := tbl_2 (i := 96) (by decide +kernel) (by decide +kernel)
theorem tw_72 : Cond.instanceMethod yX0_becomeLike ∈ TBL := tbl_2 (i := 97) (by decide +kernel) (by decide +kernel)
theorem tw_73 : Cond.selects RX0 yX0_becomeLike yX0_becomeLike ∈ TBL := tbl_2 (i := 98) (by decide +kernel) (by decide +kernel)
theorem vw_RX1_50 : VW RX1 50 RX0 yX0_becomeLike (.code yX0_becomeLike cX0_becomeLike 2 none) 1 := ⟨good_V tw_71 tw_72 tw_73 tw_14 tw_70, by decide +kernel⟩
theorem tw_75 : Cond.code yX1_removeTicket cX1_removeTicket 2 none ∈ TBL := tbl_2 (i := 65) (by decide +kernel) (by decide +kernel)
theorem tw_76 : Cond.methodLink RX1 54 yX1_removeTicket ∈ TBL := tbl_2 (i := 62) (by decide +kernel) (by decide +kernel)
theorem tw_77 : Cond.instanceMethod yX1_removeTicket ∈ TBL := tbl_2 (i := 63) (by decide +kernel) (by decide +kernel)
theorem tw_78 : Cond.selects RX1 yX1_removeTicket yX1_removeTicket ∈ TBL := tbl_2 (i := 64) (by decide +kernel) (by decide +kernel)
theorem vw_RX1_54 : VW RX1 54 RX1 yX1_removeTicket (.code yX1_removeTicket cX1_removeTicket 2 none) 1 := ⟨good_V tw_76 tw_77 tw_78 tw_52 tw_75, by decide +kernel⟩
theorem tw_80 : Cond.code yX5_dueWith cX5_dueWith 3 (some .int) ∈ TBL := tbl_2 (i := 118) (by decide +kernel) (by decide +kernel)
theorem tw_81 : Cond.static yX5_dueWith ∈ TBL := tbl_2 (i := 117) (by decide +kernel) (by decide +kernel)
theorem nn_RX1_70 : NN RX1 70 yX5_dueWith (.code yX5_dueWith cX5_dueWith 3 (some .int)) 3 := ⟨good_C tw_80, tw_60, by decide +kernel, tw_81, by decide +kernel⟩
theorem tw_83 : Cond.code yX1_isHeldIn cX1_isHeldIn 3 (some .boolean) ∈ TBL := tbl_3 (i := 63) (by decide +kernel) (by decide +kernel)
theorem tw_84 : Cond.methodLink RX1 86 yX1_isHeldIn ∈ TBL := tbl_3 (i := 60) (by decide +kernel) (by decide +kernel)
theorem tw_85 : Cond.instanceMethod yX1_isHeldIn ∈ TBL := tbl_3 (i := 61) (by decide +kernel) (by decide +kernel)
theorem tw_86 : Cond.selects RX1 yX1_isHeldIn yX1_isHeldIn ∈ TBL := tbl_3 (i := 62) (by decide +kernel) (by decide +kernel)
theorem vw_RX1_86 : VW RX1 86 RX1 yX1_isHeldIn (.code yX1_isHeldIn cX1_isHeldIn 3 (some .boolean)) 2 := ⟨good_V tw_84 tw_85 tw_86 tw_52 tw_83, by decide +kernel⟩
theorem tw_88 : Cond.code yX0_add cX0_add 6 none ∈ TBL := tbl_2 (i := 199) (by decide +kernel) (by decide +kernel)
theorem tw_89 : Cond.methodLink RX1 92 yX0_add ∈ TBL := tbl_2 (i := 196) (by decide +kernel) (by decide +kernel)
theorem tw_90 : Cond.instanceMethod yX0_add ∈ TBL := tbl_2 (i := 197) (by decide +kernel) (by decide +kernel)
theorem tw_91 : Cond.selects RX0 yX0_add yX0_add ∈ TBL := tbl_2 (i := 198) (by decide +kernel) (by decide +kernel)
theorem vw_RX1_92 : VW RX1 92 RX0 yX0_add (.code yX0_add cX0_add 6 none) 5 := ⟨good_V tw_89 tw_90 tw_91 tw_14 tw_88, by decide +kernel⟩
theorem tw_93 : Cond.code yX1_pay cX1_pay 4 none ∈ TBL := tbl_2 (i := 204) (by decide +kernel) (by decide +kernel)
theorem tw_94 : Cond.methodLink RX1 96 yX1_pay ∈ TBL := tbl_2 (i := 201) (by decide +kernel) (by decide +kernel)
theorem tw_95 : Cond.instanceMethod yX1_pay ∈ TBL := tbl_2 (i := 203) (by decide +kernel) (by decide +kernel)
theorem tw_96 : Cond.selects RX1 yX1_pay yX1_pay ∈ TBL := tbl_sel (i := 9) (by decide +kernel) (by decide +kernel)
theorem vw_RX1_96 : VW RX1 96 RX1 yX1_pay (.code yX1_pay cX1_pay 4 none) 3 := ⟨good_V tw_94 tw_95 tw_96 tw_52 tw_93, by decide +kernel⟩
theorem tw_98 : Cond.code yX1_ageTickets cX1_ageTickets 3 none ∈ TBL := tbl_2 (i := 234) (by decide +kernel) (by decide +kernel)
theorem tw_99 : Cond.methodLink RX1 100 yX1_ageTickets ∈ TBL := tbl_2 (i := 231) (by decide +kernel) (by decide +kernel)
theorem tw_100 : Cond.instanceMethod yX1_ageTickets ∈ TBL := tbl_2 (i := 233) (by decide +kernel) (by decide +kernel)
theorem tw_101 : Cond.selects RX1 yX1_ageTickets yX1_ageTickets ∈ TBL := tbl_sel (i := 10) (by decide +kernel) (by decide +kernel)
theorem vw_RX1_100 : VW RX1 100 RX1 yX1_ageTickets (.code yX1_ageTickets cX1_ageTickets 3 none) 1 := ⟨good_V tw_99 tw_100 tw_101 tw_52 tw_98, by decide +kernel⟩
theorem tw_103 : Cond.code yX1_dueOf cX1_dueOf 3 (some .int) ∈ TBL := tbl_2 (i := 114) (by decide +kernel) (by decide +kernel)
theorem tw_104 : Cond.methodLink RX1 74 yX1_dueOf ∈ TBL := tbl_2 (i := 141) (by decide +kernel) (by decide +kernel)
theorem tw_105 : Cond.instanceMethod yX1_dueOf ∈ TBL := tbl_2 (i := 112) (by decide +kernel) (by decide +kernel)
theorem tw_106 : Cond.selects RX1 yX1_dueOf yX1_dueOf ∈ TBL := tbl_2 (i := 113) (by decide +kernel) (by decide +kernel)
theorem vw_RX1_74 : VW RX1 74 RX1 yX1_dueOf (.code yX1_dueOf cX1_dueOf 3 (some .int)) 2 := ⟨good_V tw_104 tw_105 tw_106 tw_52 tw_103, by decide +kernel⟩
theorem tw_108 : Cond.code yX0_removeLast cX0_removeLast 1 none ∈ TBL := tbl_3 (i := 38) (by decide +kernel) (by decide +kernel)
theorem tw_109 : Cond.methodLink RX1 139 yX0_removeLast ∈ TBL := tbl_3 (i := 35) (by decide +kernel) (by decide +kernel)
theorem tw_110 : Cond.instanceMethod yX0_removeLast ∈ TBL := tbl_3 (i := 36) (by decide +kernel) (by decide +kernel)
theorem tw_111 : Cond.selects RX0 yX0_removeLast yX0_removeLast ∈ TBL := tbl_3 (i := 37) (by decide +kernel) (by decide +kernel)
theorem vw_RX1_139 : VW RX1 139 RX0 yX0_removeLast (.code yX0_removeLast cX0_removeLast 1 none) 0 := ⟨good_V tw_109 tw_110 tw_111 tw_14 tw_108, by decide +kernel⟩
theorem tw_113 : Cond.code yX0_shopOf cX0_shopOf 2 (some .int) ∈ TBL := tbl_3 (i := 18) (by decide +kernel) (by decide +kernel)
theorem tw_114 : Cond.methodLink RX1 124 yX0_shopOf ∈ TBL := tbl_3 (i := 15) (by decide +kernel) (by decide +kernel)
theorem tw_115 : Cond.instanceMethod yX0_shopOf ∈ TBL := tbl_3 (i := 16) (by decide +kernel) (by decide +kernel)
theorem tw_116 : Cond.selects RX0 yX0_shopOf yX0_shopOf ∈ TBL := tbl_3 (i := 17) (by decide +kernel) (by decide +kernel)
theorem vw_RX1_124 : VW RX1 124 RX0 yX0_shopOf (.code yX0_shopOf cX0_shopOf 2 (some .int)) 1 := ⟨good_V tw_114 tw_115 tw_116 tw_14 tw_113, by decide +kernel⟩
theorem tw_118 : Cond.code yX0_otherOf cX0_otherOf 2 (some .int) ∈ TBL := tbl_3 (i := 22) (by decide +kernel) (by decide +kernel)
theorem tw_119 : Cond.methodLink RX1 127 yX0_otherOf ∈ TBL := tbl_3 (i := 19) (by decide +kernel) (by decide +kernel)
theorem tw_120 : Cond.instanceMethod yX0_otherOf ∈ TBL := tbl_3 (i := 20) (by decide +kernel) (by decide +kernel)
theorem tw_121 : Cond.selects RX0 yX0_otherOf yX0_otherOf ∈ TBL := tbl_3 (i := 21) (by decide +kernel) (by decide +kernel)
theorem vw_RX1_127 : VW RX1 127 RX0 yX0_otherOf (.code yX0_otherOf cX0_otherOf 2 (some .int)) 1 := ⟨good_V tw_119 tw_120 tw_121 tw_14 tw_118, by decide +kernel⟩
theorem tw_123 : Cond.code yX0_numberOf cX0_numberOf 2 (some .int) ∈ TBL := tbl_3 (i := 26) (by decide +kernel) (by decide +kernel)
theorem tw_124 : Cond.methodLink RX1 130 yX0_numberOf ∈ TBL := tbl_3 (i := 23) (by decide +kernel) (by decide +kernel)
theorem tw_125 : Cond.instanceMethod yX0_numberOf ∈ TBL := tbl_3 (i := 24) (by decide +kernel) (by decide +kernel)
theorem tw_126 : Cond.selects RX0 yX0_numberOf yX0_numberOf ∈ TBL := tbl_3 (i := 25) (by decide +kernel) (by decide +kernel)
theorem vw_RX1_130 : VW RX1 130 RX0 yX0_numberOf (.code yX0_numberOf cX0_numberOf 2 (some .int)) 1 := ⟨good_V tw_124 tw_125 tw_126 tw_14 tw_123, by decide +kernel⟩
theorem tw_128 : Cond.code yX0_whatOf cX0_whatOf 2 (some .int) ∈ TBL := tbl_3 (i := 30) (by decide +kernel) (by decide +kernel)
theorem tw_129 : Cond.methodLink RX1 133 yX0_whatOf ∈ TBL := tbl_3 (i := 27) (by decide +kernel) (by decide +kernel)
theorem tw_130 : Cond.instanceMethod yX0_whatOf ∈ TBL := tbl_3 (i := 28) (by decide +kernel) (by decide +kernel)
theorem tw_131 : Cond.selects RX0 yX0_whatOf yX0_whatOf ∈ TBL := tbl_3 (i := 29) (by decide +kernel) (by decide +kernel)
theorem vw_RX1_133 : VW RX1 133 RX0 yX0_whatOf (.code yX0_whatOf cX0_whatOf 2 (some .int)) 1 := ⟨good_V tw_129 tw_130 tw_131 tw_14 tw_128, by decide +kernel⟩
theorem tw_133 : Cond.code yX0_weeksOf cX0_weeksOf 2 (some .int) ∈ TBL := tbl_3 (i := 34) (by decide +kernel) (by decide +kernel)
theorem tw_134 : Cond.methodLink RX1 136 yX0_weeksOf ∈ TBL := tbl_3 (i := 31) (by decide +kernel) (by decide +kernel)
theorem tw_135 : Cond.instanceMethod yX0_weeksOf ∈ TBL := tbl_3 (i := 32) (by decide +kernel) (by decide +kernel)
theorem tw_136 : Cond.selects RX0 yX0_weeksOf yX0_weeksOf ∈ TBL := tbl_3 (i := 33) (by decide +kernel) (by decide +kernel)
theorem vw_RX1_136 : VW RX1 136 RX0 yX0_weeksOf (.code yX0_weeksOf cX0_weeksOf 2 (some .int)) 1 := ⟨good_V tw_134 tw_135 tw_136 tw_14 tw_133, by decide +kernel⟩
theorem tw_138 : Cond.code yX1_ruinsHolder cX1_ruinsHolder 2 (some .boolean) ∈ TBL := tbl_3 (i := 215) (by decide +kernel) (by decide +kernel)
theorem tw_139 : Cond.methodLink RX1 89 yX1_ruinsHolder ∈ TBL := tbl_3 (i := 212) (by decide +kernel) (by decide +kernel)
theorem tw_140 : Cond.instanceMethod yX1_ruinsHolder ∈ TBL := tbl_3 (i := 214) (by decide +kernel) (by decide +kernel)
theorem tw_141 : Cond.selects RX1 yX1_ruinsHolder yX1_ruinsHolder ∈ TBL := tbl_sel (i := 17) (by decide +kernel) (by decide +kernel)
theorem vw_RX1_89 : VW RX1 89 RX1 yX1_ruinsHolder (.code yX1_ruinsHolder cX1_ruinsHolder 2 (some .boolean)) 1 := ⟨good_V tw_139 tw_140 tw_141 tw_52 tw_138, by decide +kernel⟩
theorem tw_143 : Cond.code yX1_canRedeem cX1_canRedeem 2 (some .boolean) ∈ TBL := tbl_2 (i := 187) (by decide +kernel) (by decide +kernel)
theorem tw_144 : Cond.methodLink RX1 103 yX1_canRedeem ∈ TBL := tbl_4 (i := 10) (by decide +kernel) (by decide +kernel)
theorem tw_145 : Cond.instanceMethod yX1_canRedeem ∈ TBL := tbl_2 (i := 185) (by decide +kernel) (by decide +kernel)
theorem tw_146 : Cond.selects RX1 yX1_canRedeem yX1_canRedeem ∈ TBL := tbl_2 (i := 186) (by decide +kernel) (by decide +kernel)
theorem vw_RX1_103 : VW RX1 103 RX1 yX1_canRedeem (.code yX1_canRedeem cX1_canRedeem 2 (some .boolean)) 1 := ⟨good_V tw_144 tw_145 tw_146 tw_52 tw_143, by decide +kernel⟩
theorem tw_148 : Cond.code yX1_canPawn cX1_canPawn 4 (some .boolean) ∈ TBL := tbl_2 (i := 212) (by decide +kernel) (by decide +kernel)
theorem tw_149 : Cond.methodLink RX1 113 yX1_canPawn ∈ TBL := tbl_4 (i := 13) (by decide +kernel) (by decide +kernel)
theorem tw_150 : Cond.instanceMethod yX1_canPawn ∈ TBL := tbl_2 (i := 210) (by decide +kernel) (by decide +kernel)
theorem tw_151 : Cond.selects RX1 yX1_canPawn yX1_canPawn ∈ TBL := tbl_2 (i := 211) (by decide +kernel) (by decide +kernel)
theorem vw_RX1_113 : VW RX1 113 RX1 yX1_canPawn (.code yX1_canPawn cX1_canPawn 4 (some .boolean)) 3 := ⟨good_V tw_149 tw_150 tw_151 tw_52 tw_148, by decide +kernel⟩
theorem tw_153 : Cond.code yX1_doGive cX1_doGive 3 none ∈ TBL := tbl_3 (i := 6) (by decide +kernel) (by decide +kernel)
theorem tw_154 : Cond.methodLink RX1 120 yX1_doGive ∈ TBL := tbl_4 (i := 15) (by decide +kernel) (by decide +kernel)
theorem tw_155 : Cond.instanceMethod yX1_doGive ∈ TBL := tbl_3 (i := 4) (by decide +kernel) (by decide +kernel)
theorem tw_156 : Cond.selects RX1 yX1_doGive yX1_doGive ∈ TBL := tbl_3 (i := 5) (by decide +kernel) (by decide +kernel)
theorem vw_RX1_120 : VW RX1 120 RX1 yX1_doGive (.code yX1_doGive cX1_doGive 3 none) 2 := ⟨good_V tw_154 tw_155 tw_156 tw_52 tw_153, by decide +kernel⟩
theorem tw_158 : Cond.code yX1_doPawn cX1_doPawn 4 none ∈ TBL := tbl_2 (i := 216) (by decide +kernel) (by decide +kernel)
theorem tw_159 : Cond.methodLink RX1 117 yX1_doPawn ∈ TBL := tbl_4 (i := 14) (by decide +kernel) (by decide +kernel)
theorem tw_160 : Cond.instanceMethod yX1_doPawn ∈ TBL := tbl_2 (i := 214) (by decide +kernel) (by decide +kernel)
theorem tw_161 : Cond.selects RX1 yX1_doPawn yX1_doPawn ∈ TBL := tbl_2 (i := 215) (by decide +kernel) (by decide +kernel)
theorem vw_RX1_117 : VW RX1 117 RX1 yX1_doPawn (.code yX1_doPawn cX1_doPawn 4 none) 3 := ⟨good_V tw_159 tw_160 tw_161 tw_52 tw_158, by decide +kernel⟩
theorem tw_163 : Cond.code yX1_doWeek cX1_doWeek 1 none ∈ TBL := tbl_2 (i := 230) (by decide +kernel) (by decide +kernel)
theorem tw_164 : Cond.methodLink RX1 110 yX1_doWeek ∈ TBL := tbl_4 (i := 12) (by decide +kernel) (by decide +kernel)
theorem tw_165 : Cond.instanceMethod yX1_doWeek ∈ TBL := tbl_2 (i := 228) (by decide +kernel) (by decide +kernel)
theorem tw_166 : Cond.selects RX1 yX1_doWeek yX1_doWeek ∈ TBL := tbl_2 (i := 229) (by decide +kernel) (by decide +kernel)
theorem vw_RX1_110 : VW RX1 110 RX1 yX1_doWeek (.code yX1_doWeek cX1_doWeek 1 none) 0 := ⟨good_V tw_164 tw_165 tw_166 tw_52 tw_163, by decide +kernel⟩
theorem tw_168 : Cond.code yX1_doRedeem cX1_doRedeem 4 (some .int) ∈ TBL := tbl_2 (i := 195) (by decide +kernel) (by decide +kernel)
theorem tw_169 : Cond.methodLink RX1 106 yX1_doRedeem ∈ TBL := tbl_4 (i := 11) (by decide +kernel) (by decide +kernel)
theorem tw_170 : Cond.instanceMethod yX1_doRedeem ∈ TBL := tbl_2 (i := 193) (by decide +kernel) (by decide +kernel)
theorem tw_171 : Cond.selects RX1 yX1_doRedeem yX1_doRedeem ∈ TBL := tbl_2 (i := 194) (by decide +kernel) (by decide +kernel)
theorem vw_RX1_106 : VW RX1 106 RX1 yX1_doRedeem (.code yX1_doRedeem cX1_doRedeem 4 (some .int)) 1 := ⟨good_V tw_169 tw_170 tw_171 tw_52 tw_168, by decide +kernel⟩
theorem tw_173 : Cond.fieldLink RX3 12 "PawnLane$Reader" "draft" "LPawnLane$Lane;" ∈ TBL := tbl_1 (i := 105) (by decide +kernel) (by decide +kernel)
theorem tw_174 : Cond.fieldLink RX3 49 "PawnLane$Lane" "shops" "I" ∈ TBL := tbl_1 (i := 69) (by decide +kernel) (by decide +kernel)
theorem tw_175 : Cond.fieldLink RX3 18 "PawnLane$Reader" "awaited" "I" ∈ TBL := tbl_1 (i := 107) (by decide +kernel) (by decide +kernel)
theorem tw_176 : Cond.fieldLink RX3 72 "PawnLane$Lane" "stock" "[I" ∈ TBL := tbl_1 (i := 78) (by decide +kernel) (by decide +kernel)
theorem tw_177 : Cond.fieldLink RX3 68 "PawnLane$Lane" "cash" "[I" ∈ TBL := tbl_1 (i := 75) (by decide +kernel) (by decide +kernel)
theorem tw_178 : Cond.fieldLink RX3 26 "PawnLane$Reader" "pawned" "I" ∈ TBL := tbl_1 (i := 109) (by decide +kernel) (by decide +kernel)
theorem tw_179 : Cond.code yX1_isShop cX1_isShop 2 (some .boolean) ∈ TBL := tbl_2 (i := 81) (by decide +kernel) (by decide +kernel)
theorem tw_180 : Cond.methodLink RX3 75 yX1_isShop ∈ TBL := tbl_2 (i := 78) (by decide +kernel) (by decide +kernel)
theorem tw_181 : Cond.instanceMethod yX1_isShop ∈ TBL := tbl_2 (i := 79) (by decide +kernel) (by decide +kernel)
theorem tw_182 : Cond.selects RX1 yX1_isShop yX1_isShop ∈ TBL := tbl_2 (i := 80) (by decide +kernel) (by decide +kernel)
theorem vw_RX3_75 : VW RX3 75 RX1 yX1_isShop (.code yX1_isShop cX1_isShop 2 (some .boolean)) 1 := ⟨good_V tw_180 tw_181 tw_182 tw_52 tw_179, by decide +kernel⟩
theorem tw_184 : Cond.methodLink RX3 78 yX1_isPawned ∈ TBL := tbl_2 (i := 82) (by decide +kernel) (by decide +kernel)
theorem vw_RX3_78 : VW RX3 78 RX1 yX1_isPawned (.code yX1_isPawned cX1_isPawned 2 (some .boolean)) 1 := ⟨good_V tw_184 tw_56 tw_57 tw_52 tw_54, by decide +kernel⟩
theorem tw_186 : Cond.fieldLink RX3 29 "PawnLane$Reader" "holder" "I" ∈ TBL := tbl_1 (i := 110) (by decide +kernel) (by decide +kernel)
theorem tw_187 : Cond.methodLink RX3 81 yX1_setTicket ∈ TBL := tbl_2 (i := 86) (by decide +kernel) (by decide +kernel)
theorem vw_RX3_81 : VW RX3 81 RX1 yX1_setTicket (.code yX1_setTicket cX1_setTicket 5 none) 4 := ⟨good_V tw_187 tw_50 tw_51 tw_52 tw_48, by decide +kernel⟩
theorem tw_189 : Cond.code yX3_kindOf cX3_kindOf 1 (some .int) ∈ TBL := tbl_2 (i := 57) (by decide +kernel) (by decide +kernel)
theorem tw_190 : Cond.initialized RX3 ∈ TBL := tbl_1 (i := 4) (by decide +kernel) (by decide +kernel)
theorem tw_191 : Cond.methodLink RX3 61 yX3_kindOf ∈ TBL := tbl_2 (i := 55) (by decide +kernel) (by decide +kernel)
theorem tw_192 : Cond.static yX3_kindOf ∈ TBL := tbl_2 (i := 56) (by decide +kernel) (by decide +kernel)
theorem sw_RX3_61 : SW RX3 61 yX3_kindOf (.code yX3_kindOf cX3_kindOf 1 (some .int)) 1 := ⟨good_C tw_189, tw_190, tw_191, tw_192, by decide +kernel⟩
theorem tw_194 : Cond.fieldLink RX3 22 "PawnLane$Reader" "ticketsBegan" "Z" ∈ TBL := tbl_1 (i := 108) (by decide +kernel) (by decide +kernel)
theorem tw_195 : Cond.code yX1_addShop cX1_addShop 2 none ∈ TBL := tbl_2 (i := 61) (by decide +kernel) (by decide +kernel)
theorem tw_196 : Cond.methodLink RX3 64 yX1_addShop ∈ TBL := tbl_2 (i := 58) (by decide +kernel) (by decide +kernel)
theorem tw_197 : Cond.instanceMethod yX1_addShop ∈ TBL := tbl_2 (i := 59) (by decide +kernel) (by decide +kernel)
theorem tw_198 : Cond.selects RX1 yX1_addShop yX1_addShop ∈ TBL := tbl_2 (i := 60) (by decide +kernel) (by decide +kernel)
theorem vw_RX3_64 : VW RX3 64 RX1 yX1_addShop (.code yX1_addShop cX1_addShop 2 none) 1 := ⟨good_V tw_196 tw_197 tw_198 tw_52 tw_195, by decide +kernel⟩
theorem tw_200 : Cond.code yX3_takesOfTicket cX3_takesOfTicket 2 (some .boolean) ∈ TBL := tbl_2 (i := 77) (by decide +kernel) (by decide +kernel)
theorem tw_201 : Cond.methodLink RX3 58 yX3_takesOfTicket ∈ TBL := tbl_2 (i := 74) (by decide +kernel) (by decide +kernel)
theorem tw_202 : Cond.instanceMethod yX3_takesOfTicket ∈ TBL := tbl_2 (i := 76) (by decide +kernel) (by decide +kernel)
theorem tw_203 : Cond.selects RX3 yX3_takesOfTicket yX3_takesOfTicket ∈ TBL := tbl_sel (i := 6) (by decide +kernel) (by decide +kernel)
theorem vw_RX3_58 : VW RX3 58 RX3 yX3_takesOfTicket (.code yX3_takesOfTicket cX3_takesOfTicket 2 (some .boolean)) 1 := ⟨good_V tw_201 tw_202 tw_203 tw_190 tw_200, by decide +kernel⟩
theorem tw_205 : Cond.code yX3_takesOfShop cX3_takesOfShop 3 (some .boolean) ∈ TBL := tbl_2 (i := 73) (by decide +kernel) (by decide +kernel)
theorem tw_206 : Cond.methodLink RX3 55 yX3_takesOfShop ∈ TBL := tbl_2 (i := 70) (by decide +kernel) (by decide +kernel)
theorem tw_207 : Cond.instanceMethod yX3_takesOfShop ∈ TBL := tbl_2 (i := 72) (by decide +kernel) (by decide +kernel)
theorem tw_208 : Cond.selects RX3 yX3_takesOfShop yX3_takesOfShop ∈ TBL := tbl_sel (i := 5) (by decide +kernel) (by decide +kernel)
theorem vw_RX3_55 : VW RX3 55 RX3 yX3_takesOfShop (.code yX3_takesOfShop cX3_takesOfShop 3 (some .boolean)) 1 := ⟨good_V tw_206 tw_207 tw_208 tw_190 tw_205, by decide +kernel⟩
theorem tw_210 : Cond.code yX3_beginsItem cX3_beginsItem 3 (some .boolean) ∈ TBL := tbl_2 (i := 54) (by decide +kernel) (by decide +kernel)
theorem tw_211 : Cond.methodLink RX3 52 yX3_beginsItem ∈ TBL := tbl_2 (i := 51) (by decide +kernel) (by decide +kernel)
theorem tw_212 : Cond.instanceMethod yX3_beginsItem ∈ TBL := tbl_2 (i := 53) (by decide +kernel) (by decide +kernel)
theorem tw_213 : Cond.selects RX3 yX3_beginsItem yX3_beginsItem ∈ TBL := tbl_sel (i := 4) (by decide +kernel) (by decide +kernel)
theorem vw_RX3_52 : VW RX3 52 RX3 yX3_beginsItem (.code yX3_beginsItem cX3_beginsItem 3 (some .boolean)) 1 := ⟨good_V tw_211 tw_212 tw_213 tw_190 tw_210, by decide +kernel⟩
theorem tw_215 : Cond.methodLink RX3 41 yX4_valueAt ∈ TBL := tbl_2 (i := 46) (by decide +kernel) (by decide +kernel)
theorem vw_RX3_41 : VW RX3 41 RX4 yX4_valueAt (.code yX4_valueAt cX4_valueAt 3 (some .int)) 2 := ⟨good_V tw_215 tw_32 tw_33 tw_27 tw_30, by decide +kernel⟩
theorem tw_217 : Cond.code yX3_takes cX3_takes 3 (some .boolean) ∈ TBL := tbl_2 (i := 50) (by decide +kernel) (by decide +kernel)
theorem tw_218 : Cond.methodLink RX3 45 yX3_takes ∈ TBL := tbl_2 (i := 47) (by decide +kernel) (by decide +kernel)
theorem tw_219 : Cond.instanceMethod yX3_takes ∈ TBL := tbl_2 (i := 49) (by decide +kernel) (by decide +kernel)
theorem tw_220 : Cond.selects RX3 yX3_takes yX3_takes ∈ TBL := tbl_sel (i := 3) (by decide +kernel) (by decide +kernel)
theorem vw_RX3_45 : VW RX3 45 RX3 yX3_takes (.code yX3_takes cX3_takes 3 (some .boolean)) 1 := ⟨good_V tw_218 tw_219 tw_220 tw_190 tw_217, by decide +kernel⟩
theorem tw_222 : Cond.code yX1_clear cX1_clear 1 none ∈ TBL := tbl_2 (i := 44) (by decide +kernel) (by decide +kernel)
theorem tw_223 : Cond.methodLink RX3 32 yX1_clear ∈ TBL := tbl_2 (i := 41) (by decide +kernel) (by decide +kernel)
theorem tw_224 : Cond.instanceMethod yX1_clear ∈ TBL := tbl_2 (i := 42) (by decide +kernel) (by decide +kernel)
theorem tw_225 : Cond.selects RX1 yX1_clear yX1_clear ∈ TBL := tbl_2 (i := 43) (by decide +kernel) (by decide +kernel)
theorem vw_RX3_32 : VW RX3 32 RX1 yX1_clear (.code yX1_clear cX1_clear 1 none) 0 := ⟨good_V tw_223 tw_224 tw_225 tw_52 tw_222, by decide +kernel⟩
theorem tw_227 : Cond.code yX4_sizeOf cX4_sizeOf 2 (some .int) ∈ TBL := tbl_2 (i := 19) (by decide +kernel) (by decide +kernel)
theorem tw_228 : Cond.methodLink RX3 35 yX4_sizeOf ∈ TBL := tbl_2 (i := 45) (by decide +kernel) (by decide +kernel)
theorem tw_229 : Cond.instanceMethod yX4_sizeOf ∈ TBL := tbl_2 (i := 17) (by decide +kernel) (by decide +kernel)
theorem tw_230 : Cond.selects RX4 yX4_sizeOf yX4_sizeOf ∈ TBL := tbl_2 (i := 18) (by decide +kernel) (by decide +kernel)
theorem vw_RX3_35 : VW RX3 35 RX4 yX4_sizeOf (.code yX4_sizeOf cX4_sizeOf 2 (some .int)) 1 := ⟨good_V tw_228 tw_229 tw_230 tw_27 tw_227, by decide +kernel⟩
theorem tw_232 : Cond.fieldLink RX2 28 "PawnLane$Orders" "bySet" "[I" ∈ TBL := tbl_1 (i := 136) (by decide +kernel) (by decide +kernel)
theorem tw_233 : Cond.constant RX2 78 1000000 ∈ TBL := tbl_3 (i := 121) (by decide +kernel) (by decide +kernel)
theorem tw_234 : Cond.fieldLink RX2 9 "PawnLane$Orders" "shops" "I" ∈ TBL := tbl_1 (i := 131) (by decide +kernel) (by decide +kernel)
theorem tw_235 : Cond.fieldLink RX2 22 "PawnLane$Orders" "holder" "[I" ∈ TBL := tbl_1 (i := 134) (by decide +kernel) (by decide +kernel)
theorem nn_RX2_44 : NN RX2 44 yX5_isIn (.code yX5_isIn cX5_isIn 2 (some .boolean)) 2 := ⟨good_C tw_59, tw_60, by decide +kernel, tw_61, by decide +kernel⟩
theorem tw_237 : Cond.fieldLink RX2 25 "PawnLane$Orders" "due" "[I" ∈ TBL := tbl_1 (i := 135) (by decide +kernel) (by decide +kernel)
theorem tw_238 : Cond.fieldLink RX2 18 "PawnLane$Orders" "cash" "[I" ∈ TBL := tbl_1 (i := 133) (by decide +kernel) (by decide +kernel)
theorem tw_239 : Cond.fieldLink RX2 15 "PawnLane$Orders" "pawned" "I" ∈ TBL := tbl_1 (i := 132) (by decide +kernel) (by decide +kernel)
theorem tw_240 : Cond.code yJ6_bitCount_0f7a4 cJ6_bitCount_0f7a4 1 (some .int) ∈ TBL := tbl_2 (i := 144) (by decide +kernel) (by decide +kernel)
theorem tw_241 : Cond.initialized RJ6 ∈ TBL := tbl_1 (i := 11) (by decide +kernel) (by decide +kernel)
theorem tw_242 : Cond.methodLink RX2 57 yJ6_bitCount_0f7a4 ∈ TBL := tbl_3 (i := 164) (by decide +kernel) (by decide +kernel)
theorem tw_243 : Cond.static yJ6_bitCount_0f7a4 ∈ TBL := tbl_2 (i := 143) (by decide +kernel) (by decide +kernel)
theorem sw_RX2_57 : SW RX2 57 yJ6_bitCount_0f7a4 (.code yJ6_bitCount_0f7a4 cJ6_bitCount_0f7a4 1 (some .int)) 1 := ⟨good_C tw_240, tw_241, tw_242, tw_243, by decide +kernel⟩
theorem tw_245 : Cond.methodLink RX2 79 Lib.Math.min.name ∈ TBL := tbl_3 (i := 122) (by decide +kernel) (by decide +kernel)
theorem tw_246 : Cond.static Lib.Math.min.name ∈ TBL := tbl_3 (i := 123) (by decide +kernel) (by decide +kernel)
theorem tw_247 : Cond.code Lib.Math.min.name Lib.Math.min.code 2 (some .int) ∈ TBL := tbl_3 (i := 124) (by decide +kernel) (by decide +kernel)
theorem tw_248 : Cond.code yX2_isLeft cX2_isLeft 3 (some .boolean) ∈ TBL := tbl_2 (i := 168) (by decide +kernel) (by decide +kernel)
theorem tw_249 : Cond.methodLink RX2 48 yX2_isLeft ∈ TBL := tbl_2 (i := 165) (by decide +kernel) (by decide +kernel)
theorem tw_250 : Cond.instanceMethod yX2_isLeft ∈ TBL := tbl_2 (i := 167) (by decide +kernel) (by decide +kernel)
theorem tw_251 : Cond.selects RX2 yX2_isLeft yX2_isLeft ∈ TBL := tbl_sel (i := 8) (by decide +kernel) (by decide +kernel)
theorem tw_252 : Cond.initialized RX2 ∈ TBL := tbl_1 (i := 7) (by decide +kernel) (by decide +kernel)
theorem vw_RX2_48 : VW RX2 48 RX2 yX2_isLeft (.code yX2_isLeft cX2_isLeft 3 (some .boolean)) 2 := ⟨good_V tw_249 tw_250 tw_251 tw_252 tw_248, by decide +kernel⟩
theorem tw_254 : Cond.code yX2_cashAfter cX2_cashAfter 5 (some .int) ∈ TBL := tbl_2 (i := 175) (by decide +kernel) (by decide +kernel)
theorem tw_255 : Cond.methodLink RX2 51 yX2_cashAfter ∈ TBL := tbl_2 (i := 172) (by decide +kernel) (by decide +kernel)
theorem tw_256 : Cond.instanceMethod yX2_cashAfter ∈ TBL := tbl_2 (i := 173) (by decide +kernel) (by decide +kernel)
theorem tw_257 : Cond.selects RX2 yX2_cashAfter yX2_cashAfter ∈ TBL := tbl_2 (i := 174) (by decide +kernel) (by decide +kernel)
theorem vw_RX2_51 : VW RX2 51 RX2 yX2_cashAfter (.code yX2_cashAfter cX2_cashAfter 5 (some .int)) 2 := ⟨good_V tw_255 tw_256 tw_257 tw_252 tw_254, by decide +kernel⟩
theorem tw_259 : Cond.methodLink RX2 88 Lib.Math.max.name ∈ TBL := tbl_3 (i := 177) (by decide +kernel) (by decide +kernel)
theorem tw_260 : Cond.fieldLink RX2 38 "PawnLane$Lane" "cash" "[I" ∈ TBL := tbl_1 (i := 74) (by decide +kernel) (by decide +kernel)
theorem tw_261 : Cond.fieldLink RX2 39 "PawnLane$Lane" "holder" "[I" ∈ TBL := tbl_1 (i := 81) (by decide +kernel) (by decide +kernel)
theorem tw_262 : Cond.methodLink RX2 40 yX1_dueOf ∈ TBL := tbl_2 (i := 156) (by decide +kernel) (by decide +kernel)
theorem vw_RX2_40 : VW RX2 40 RX1 yX1_dueOf (.code yX1_dueOf cX1_dueOf 3 (some .int)) 2 := ⟨good_V tw_262 tw_105 tw_106 tw_52 tw_103, by decide +kernel⟩
theorem tw_264 : Cond.fieldLink RX2 31 "PawnLane$Lane" "shops" "I" ∈ TBL := tbl_1 (i := 68) (by decide +kernel) (by decide +kernel)
theorem tw_265 : Cond.code yX1_pawnedSet cX1_pawnedSet 3 (some .int) ∈ TBL := tbl_2 (i := 155) (by decide +kernel) (by decide +kernel)
theorem tw_266 : Cond.methodLink RX2 34 yX1_pawnedSet ∈ TBL := tbl_2 (i := 152) (by decide +kernel) (by decide +kernel)
theorem tw_267 : Cond.instanceMethod yX1_pawnedSet ∈ TBL := tbl_2 (i := 153) (by decide +kernel) (by decide +kernel)
theorem tw_268 : Cond.selects RX1 yX1_pawnedSet yX1_pawnedSet ∈ TBL := tbl_2 (i := 154) (by decide +kernel) (by decide +kernel)
theorem vw_RX2_34 : VW RX2 34 RX1 yX1_pawnedSet (.code yX1_pawnedSet cX1_pawnedSet 3 (some .int)) 0 := ⟨good_V tw_266 tw_267 tw_268 tw_52 tw_265, by decide +kernel⟩
theorem tw_270 : Cond.code yX2_goesOn cX2_goesOn 3 (some .boolean) ∈ TBL := tbl_2 (i := 164) (by decide +kernel) (by decide +kernel)
theorem tw_271 : Cond.methodLink RX2 54 yX2_goesOn ∈ TBL := tbl_2 (i := 161) (by decide +kernel) (by decide +kernel)
theorem tw_272 : Cond.instanceMethod yX2_goesOn ∈ TBL := tbl_2 (i := 162) (by decide +kernel) (by decide +kernel)
theorem tw_273 : Cond.selects RX2 yX2_goesOn yX2_goesOn ∈ TBL := tbl_2 (i := 163) (by decide +kernel) (by decide +kernel)
theorem vw_RX2_54 : VW RX2 54 RX2 yX2_goesOn (.code yX2_goesOn cX2_goesOn 3 (some .boolean)) 2 := ⟨good_V tw_271 tw_272 tw_273 tw_252 tw_270, by decide +kernel⟩
theorem tw_275 : Cond.code yJ6_numberOfTrailingZeros_0f7a4 cJ6_numberOfTrailingZeros_0f7a4 2 (some .int) ∈ TBL := tbl_3 (i := 75) (by decide +kernel) (by decide +kernel)
theorem tw_276 : Cond.methodLink RX2 63 yJ6_numberOfTrailingZeros_0f7a4 ∈ TBL := tbl_3 (i := 228) (by decide +kernel) (by decide +kernel)
theorem tw_277 : Cond.static yJ6_numberOfTrailingZeros_0f7a4 ∈ TBL := tbl_3 (i := 74) (by decide +kernel) (by decide +kernel)
theorem sw_RX2_63 : SW RX2 63 yJ6_numberOfTrailingZeros_0f7a4 (.code yJ6_numberOfTrailingZeros_0f7a4 cJ6_numberOfTrailingZeros_0f7a4 2 (some .int)) 1 := ⟨good_C tw_275, tw_241, tw_276, tw_277, by decide +kernel⟩
theorem tw_279 : Cond.code yX2_spreadNeed cX2_spreadNeed 6 none ∈ TBL := tbl_3 (i := 176) (by decide +kernel) (by decide +kernel)
theorem tw_280 : Cond.methodLink RX2 84 yX2_spreadNeed ∈ TBL := tbl_3 (i := 173) (by decide +kernel) (by decide +kernel)
theorem tw_281 : Cond.instanceMethod yX2_spreadNeed ∈ TBL := tbl_3 (i := 175) (by decide +kernel) (by decide +kernel)
theorem tw_282 : Cond.selects RX2 yX2_spreadNeed yX2_spreadNeed ∈ TBL := tbl_sel (i := 14) (by decide +kernel) (by decide +kernel)
theorem vw_RX2_84 : VW RX2 84 RX2 yX2_spreadNeed (.code yX2_spreadNeed cX2_spreadNeed 6 none) 2 := ⟨good_V tw_280 tw_281 tw_282 tw_252 tw_279, by decide +kernel⟩
theorem tw_284 : Cond.code yJ7_fill_53178 cJ7_fill_53178 4 none ∈ TBL := tbl_1 (i := 28) (by decide +kernel) (by decide +kernel)
theorem tw_285 : Cond.initialized RJ7 ∈ TBL := tbl_1 (i := 3) (by decide +kernel) (by decide +kernel)
theorem tw_286 : Cond.methodLink RX2 66 yJ7_fill_53178 ∈ TBL := tbl_3 (i := 141) (by decide +kernel) (by decide +kernel)
theorem tw_287 : Cond.static yJ7_fill_53178 ∈ TBL := tbl_1 (i := 27) (by decide +kernel) (by decide +kernel)
theorem sw_RX2_66 : SW RX2 66 yJ7_fill_53178 (.code yJ7_fill_53178 cJ7_fill_53178 4 none) 2 := ⟨good_C tw_284, tw_285, tw_286, tw_287, by decide +kernel⟩
theorem tw_289 : Cond.code yX2_nextAfter cX2_nextAfter 4 (some .int) ∈ TBL := tbl_2 (i := 160) (by decide +kernel) (by decide +kernel)
theorem tw_290 : Cond.methodLink RX2 72 yX2_nextAfter ∈ TBL := tbl_3 (i := 116) (by decide +kernel) (by decide +kernel)
theorem tw_291 : Cond.instanceMethod yX2_nextAfter ∈ TBL := tbl_2 (i := 158) (by decide +kernel) (by decide +kernel)
theorem tw_292 : Cond.selects RX2 yX2_nextAfter yX2_nextAfter ∈ TBL := tbl_2 (i := 159) (by decide +kernel) (by decide +kernel)
theorem vw_RX2_72 : VW RX2 72 RX2 yX2_nextAfter (.code yX2_nextAfter cX2_nextAfter 4 (some .int)) 1 := ⟨good_V tw_290 tw_291 tw_292 tw_252 tw_289, by decide +kernel⟩
theorem tw_294 : Cond.code yX2_stepsBy cX2_stepsBy 5 (some .int) ∈ TBL := tbl_3 (i := 120) (by decide +kernel) (by decide +kernel)
theorem tw_295 : Cond.methodLink RX2 75 yX2_stepsBy ∈ TBL := tbl_3 (i := 117) (by decide +kernel) (by decide +kernel)
theorem tw_296 : Cond.instanceMethod yX2_stepsBy ∈ TBL := tbl_3 (i := 119) (by decide +kernel) (by decide +kernel)
theorem tw_297 : Cond.selects RX2 yX2_stepsBy yX2_stepsBy ∈ TBL := tbl_sel (i := 12) (by decide +kernel) (by decide +kernel)
theorem vw_RX2_75 : VW RX2 75 RX2 yX2_stepsBy (.code yX2_stepsBy cX2_stepsBy 5 (some .int)) 2 := ⟨good_V tw_295 tw_296 tw_297 tw_252 tw_294, by decide +kernel⟩
theorem tw_299 : Cond.fieldLink RX5 54 "PawnLane" "answer" "I" ∈ TBL := tbl_1 (i := 158) (by decide +kernel) (by decide +kernel)
theorem tw_300 : Cond.fieldLink RX5 57 "PawnLane" "numerator" "J" ∈ TBL := tbl_1 (i := 159) (by decide +kernel) (by decide +kernel)
theorem tw_301 : Cond.fieldLink RX5 61 "PawnLane" "denominator" "J" ∈ TBL := tbl_1 (i := 160) (by decide +kernel) (by decide +kernel)
theorem tw_302 : Cond.fieldLink RX5 50 "PawnLane" "latestFinding" "I" ∈ TBL := tbl_1 (i := 157) (by decide +kernel) (by decide +kernel)
theorem tw_303 : Cond.fieldLink RX5 46 "PawnLane" "findingTimes" "[I" ∈ TBL := tbl_1 (i := 156) (by decide +kernel) (by decide +kernel)
theorem tw_304 : Cond.fieldLink RX5 35 "PawnLane" "kept" "[LPawnLane$Lane;" ∈ TBL := tbl_1 (i := 154) (by decide +kernel) (by decide +kernel)
theorem tw_305 : Cond.fieldLink RX5 126 "PawnLane$Lane" "shops" "I" ∈ TBL := tbl_1 (i := 70) (by decide +kernel) (by decide +kernel)
theorem tw_306 : Cond.fieldLink RX5 215 "PawnLane$Lane" "holder" "[I" ∈ TBL := tbl_1 (i := 82) (by decide +kernel) (by decide +kernel)
theorem tw_307 : Cond.code yX5_chalked cX5_chalked 5 (some .int) ∈ TBL := tbl_3 (i := 99) (by decide +kernel) (by decide +kernel)
theorem tw_308 : Cond.methodLink RX5 233 yX5_chalked ∈ TBL := tbl_3 (i := 97) (by decide +kernel) (by decide +kernel)
theorem tw_309 : Cond.static yX5_chalked ∈ TBL := tbl_3 (i := 98) (by decide +kernel) (by decide +kernel)
theorem sw_RX5_233 : SW RX5 233 yX5_chalked (.code yX5_chalked cX5_chalked 5 (some .int)) 3 := ⟨good_C tw_307, tw_60, tw_308, tw_309, by decide +kernel⟩
theorem tw_311 : Cond.fieldLink RX5 172 "PawnLane$Lane" "stock" "[I" ∈ TBL := tbl_1 (i := 79) (by decide +kernel) (by decide +kernel)
theorem tw_312 : Cond.fieldLink RX5 31 "PawnLane" "lane" "LPawnLane$Lane;" ∈ TBL := tbl_1 (i := 153) (by decide +kernel) (by decide +kernel)
theorem tw_313 : Cond.methodLink RX5 129 yX1_isShop ∈ TBL := tbl_2 (i := 106) (by decide +kernel) (by decide +kernel)
theorem vw_RX5_129 : VW RX5 129 RX1 yX1_isShop (.code yX1_isShop cX1_isShop 2 (some .boolean)) 1 := ⟨good_V tw_313 tw_181 tw_182 tw_52 tw_179, by decide +kernel⟩
theorem tw_315 : Cond.fieldLink RX5 163 "PawnLane$Lane" "deeds" "LPawnLane$Deeds;" ∈ TBL := tbl_1 (i := 87) (by decide +kernel) (by decide +kernel)
theorem tw_316 : Cond.fieldLink RX5 167 "PawnLane$Deeds" "size" "I" ∈ TBL := tbl_1 (i := 61) (by decide +kernel) (by decide +kernel)
theorem tw_317 : Cond.methodLink RX5 212 yX1_isPawned ∈ TBL := tbl_3 (i := 51) (by decide +kernel) (by decide +kernel)
theorem vw_RX5_212 : VW RX5 212 RX1 yX1_isPawned (.code yX1_isPawned cX1_isPawned 2 (some .boolean)) 1 := ⟨good_V tw_317 tw_56 tw_57 tw_52 tw_54, by decide +kernel⟩
theorem tw_319 : Cond.code yX4_isNumber cX4_isNumber 2 (some .boolean) ∈ TBL := tbl_1 (i := 191) (by decide +kernel) (by decide +kernel)
theorem tw_320 : Cond.methodLink RX5 64 yX4_isNumber ∈ TBL := tbl_1 (i := 188) (by decide +kernel) (by decide +kernel)
theorem tw_321 : Cond.instanceMethod yX4_isNumber ∈ TBL := tbl_1 (i := 189) (by decide +kernel) (by decide +kernel)
theorem tw_322 : Cond.selects RX4 yX4_isNumber yX4_isNumber ∈ TBL := tbl_1 (i := 190) (by decide +kernel) (by decide +kernel)
theorem vw_RX5_64 : VW RX5 64 RX4 yX4_isNumber (.code yX4_isNumber cX4_isNumber 2 (some .boolean)) 1 := ⟨good_V tw_320 tw_321 tw_322 tw_27 tw_319, by decide +kernel⟩
theorem tw_324 : Cond.methodLink RX5 95 yX4_isThere ∈ TBL := tbl_1 (i := 216) (by decide +kernel) (by decide +kernel)
theorem vw_RX5_95 : VW RX5 95 RX4 yX4_isThere (.code yX4_isThere cX4_isThere 2 (some .boolean)) 1 := ⟨good_V tw_324 tw_37 tw_38 tw_27 tw_35, by decide +kernel⟩
theorem tw_326 : Cond.code yX5_found cX5_found 2 (some .int) ∈ TBL := tbl_1 (i := 195) (by decide +kernel) (by decide +kernel)
theorem tw_327 : Cond.methodLink RX5 68 yX5_found ∈ TBL := tbl_1 (i := 192) (by decide +kernel) (by decide +kernel)
theorem tw_328 : Cond.instanceMethod yX5_found ∈ TBL := tbl_1 (i := 194) (by decide +kernel) (by decide +kernel)
theorem tw_329 : Cond.selects RX5 yX5_found yX5_found ∈ TBL := tbl_sel (i := 0) (by decide +kernel) (by decide +kernel)
theorem vw_RX5_68 : VW RX5 68 RX5 yX5_found (.code yX5_found cX5_found 2 (some .int)) 1 := ⟨good_V tw_327 tw_328 tw_329 tw_60 tw_326, by decide +kernel⟩
theorem tw_331 : Cond.code yX5_commonDivisor cX5_commonDivisor 11 (some .long) ∈ TBL := tbl_3 (i := 152) (by decide +kernel) (by decide +kernel)
theorem tw_332 : Cond.methodLink RX5 311 yX5_commonDivisor ∈ TBL := tbl_3 (i := 150) (by decide +kernel) (by decide +kernel)
theorem tw_333 : Cond.static yX5_commonDivisor ∈ TBL := tbl_3 (i := 151) (by decide +kernel) (by decide +kernel)
theorem sw_RX5_311 : SW RX5 311 yX5_commonDivisor (.code yX5_commonDivisor cX5_commonDivisor 11 (some .long)) 2 := ⟨good_C tw_331, tw_60, tw_332, tw_333, by decide +kernel⟩
theorem tw_335 : Cond.methodLink RX5 315 Lib.MathLoose.max_long.x ∈ TBL := tbl_3 (i := 153) (by decide +kernel) (by decide +kernel)
theorem tw_336 : Cond.static Lib.MathLoose.max_long.x ∈ TBL := tbl_3 (i := 154) (by decide +kernel) (by decide +kernel)
theorem tw_337 : Cond.code Lib.MathLoose.max_long.x Lib.MathLoose.max_long.code 4 (some .long) ∈ TBL := tbl_3 (i := 155) (by decide +kernel) (by decide +kernel)
theorem tw_338 : Cond.fieldLink RX5 14 "PawnLane" "rows" "LPawnLane$Sheets;" ∈ TBL := tbl_1 (i := 150) (by decide +kernel) (by decide +kernel)
theorem tw_339 : Cond.code yX4_begin cX4_begin 5 none ∈ TBL := tbl_1 (i := 199) (by decide +kernel) (by decide +kernel)
theorem tw_340 : Cond.methodLink RX5 72 yX4_begin ∈ TBL := tbl_1 (i := 196) (by decide +kernel) (by decide +kernel)
theorem tw_341 : Cond.instanceMethod yX4_begin ∈ TBL := tbl_1 (i := 197) (by decide +kernel) (by decide +kernel)
theorem tw_342 : Cond.selects RX4 yX4_begin yX4_begin ∈ TBL := tbl_1 (i := 198) (by decide +kernel) (by decide +kernel)
theorem vw_RX5_72 : VW RX5 72 RX4 yX4_begin (.code yX4_begin cX4_begin 5 none) 3 := ⟨good_V tw_340 tw_341 tw_342 tw_27 tw_339, by decide +kernel⟩
theorem tw_344 : Cond.code yX5_refusalOfSheet cX5_refusalOfSheet 3 (some .int) ∈ TBL := tbl_1 (i := 215) (by decide +kernel) (by decide +kernel)
theorem tw_345 : Cond.methodLink RX5 87 yX5_refusalOfSheet ∈ TBL := tbl_1 (i := 212) (by decide +kernel) (by decide +kernel)
theorem tw_346 : Cond.instanceMethod yX5_refusalOfSheet ∈ TBL := tbl_1 (i := 214) (by decide +kernel) (by decide +kernel)
theorem tw_347 : Cond.selects RX5 yX5_refusalOfSheet yX5_refusalOfSheet ∈ TBL := tbl_sel (i := 2) (by decide +kernel) (by decide +kernel)
theorem vw_RX5_87 : VW RX5 87 RX5 yX5_refusalOfSheet (.code yX5_refusalOfSheet cX5_refusalOfSheet 3 (some .int)) 2 := ⟨good_V tw_345 tw_346 tw_347 tw_60 tw_344, by decide +kernel⟩
theorem tw_349 : Cond.code yX4_remove cX4_remove 2 none ∈ TBL := tbl_2 (i := 0) (by decide +kernel) (by decide +kernel)
theorem tw_350 : Cond.methodLink RX5 91 yX4_remove ∈ TBL := tbl_1 (i := 237) (by decide +kernel) (by decide +kernel)
theorem tw_351 : Cond.instanceMethod yX4_remove ∈ TBL := tbl_1 (i := 238) (by decide +kernel) (by decide +kernel)
theorem tw_352 : Cond.selects RX4 yX4_remove yX4_remove ∈ TBL := tbl_1 (i := 239) (by decide +kernel) (by decide +kernel)
theorem vw_RX5_91 : VW RX5 91 RX4 yX4_remove (.code yX4_remove cX4_remove 2 none) 1 := ⟨good_V tw_350 tw_351 tw_352 tw_27 tw_349, by decide +kernel⟩
theorem tw_354 : Cond.code yX4_hasPlaces cX4_hasPlaces 4 (some .boolean) ∈ TBL := tbl_1 (i := 223) (by decide +kernel) (by decide +kernel)
theorem tw_355 : Cond.methodLink RX5 98 yX4_hasPlaces ∈ TBL := tbl_1 (i := 220) (by decide +kernel) (by decide +kernel)
theorem tw_356 : Cond.instanceMethod yX4_hasPlaces ∈ TBL := tbl_1 (i := 221) (by decide +kernel) (by decide +kernel)
theorem tw_357 : Cond.selects RX4 yX4_hasPlaces yX4_hasPlaces ∈ TBL := tbl_1 (i := 222) (by decide +kernel) (by decide +kernel)
theorem vw_RX5_98 : VW RX5 98 RX4 yX4_hasPlaces (.code yX4_hasPlaces cX4_hasPlaces 4 (some .boolean)) 3 := ⟨good_V tw_355 tw_356 tw_357 tw_27 tw_354, by decide +kernel⟩
theorem tw_359 : Cond.code yX4_move cX4_move 6 none ∈ TBL := tbl_2 (i := 8) (by decide +kernel) (by decide +kernel)
theorem tw_360 : Cond.methodLink RX5 102 yX4_move ∈ TBL := tbl_2 (i := 5) (by decide +kernel) (by decide +kernel)
theorem tw_361 : Cond.instanceMethod yX4_move ∈ TBL := tbl_2 (i := 6) (by decide +kernel) (by decide +kernel)
theorem tw_362 : Cond.selects RX4 yX4_move yX4_move ∈ TBL := tbl_2 (i := 7) (by decide +kernel) (by decide +kernel)
theorem vw_RX5_102 : VW RX5 102 RX4 yX4_move (.code yX4_move cX4_move 6 none) 5 := ⟨good_V tw_360 tw_361 tw_362 tw_27 tw_359, by decide +kernel⟩
theorem tw_364 : Cond.methodLink RX5 106 yX4_sizeOf ∈ TBL := tbl_2 (i := 16) (by decide +kernel) (by decide +kernel)
theorem vw_RX5_106 : VW RX5 106 RX4 yX4_sizeOf (.code yX4_sizeOf cX4_sizeOf 2 (some .int)) 1 := ⟨good_V tw_364 tw_229 tw_230 tw_27 tw_227, by decide +kernel⟩
theorem tw_366 : Cond.code yX4_sumOf cX4_sumOf 5 (some .long) ∈ TBL := tbl_2 (i := 23) (by decide +kernel) (by decide +kernel)
theorem tw_367 : Cond.methodLink RX5 109 yX4_sumOf ∈ TBL := tbl_2 (i := 20) (by decide +kernel) (by decide +kernel)
theorem tw_368 : Cond.instanceMethod yX4_sumOf ∈ TBL := tbl_2 (i := 21) (by decide +kernel) (by decide +kernel)
theorem tw_369 : Cond.selects RX4 yX4_sumOf yX4_sumOf ∈ TBL := tbl_2 (i := 22) (by decide +kernel) (by decide +kernel)
theorem vw_RX5_109 : VW RX5 109 RX4 yX4_sumOf (.code yX4_sumOf cX4_sumOf 5 (some .long)) 1 := ⟨good_V tw_367 tw_368 tw_369 tw_27 tw_366, by decide +kernel⟩
theorem tw_371 : Cond.fieldLink RX5 18 "PawnLane" "texts" "LPawnLane$Sheets;" ∈ TBL := tbl_1 (i := 151) (by decide +kernel) (by decide +kernel)
theorem tw_372 : Cond.code yX1_ringOf cX1_ringOf 5 (some .int) ∈ TBL := tbl_3 (i := 72) (by decide +kernel) (by decide +kernel)
theorem tw_373 : Cond.methodLink RX5 221 yX1_ringOf ∈ TBL := tbl_3 (i := 69) (by decide +kernel) (by decide +kernel)
theorem tw_374 : Cond.instanceMethod yX1_ringOf ∈ TBL := tbl_3 (i := 70) (by decide +kernel) (by decide +kernel)
theorem tw_375 : Cond.selects RX1 yX1_ringOf yX1_ringOf ∈ TBL := tbl_3 (i := 71) (by decide +kernel) (by decide +kernel)
theorem vw_RX5_221 : VW RX5 221 RX1 yX1_ringOf (.code yX1_ringOf cX1_ringOf 5 (some .int)) 1 := ⟨good_V tw_373 tw_374 tw_375 tw_52 tw_372, by decide +kernel⟩
theorem tw_377 : Cond.methodLink RX5 224 yJ6_numberOfTrailingZeros_0f7a4 ∈ TBL := tbl_3 (i := 73) (by decide +kernel) (by decide +kernel)
theorem sw_RX5_224 : SW RX5 224 yJ6_numberOfTrailingZeros_0f7a4 (.code yJ6_numberOfTrailingZeros_0f7a4 cJ6_numberOfTrailingZeros_0f7a4 2 (some .int)) 1 := ⟨good_C tw_275, tw_241, tw_377, tw_277, by decide +kernel⟩
theorem tw_379 : Cond.code yX5_refusalOfPlace cX5_refusalOfPlace 5 (some .int) ∈ TBL := tbl_1 (i := 211) (by decide +kernel) (by decide +kernel)
theorem tw_380 : Cond.methodLink RX5 76 yX5_refusalOfPlace ∈ TBL := tbl_1 (i := 208) (by decide +kernel) (by decide +kernel)
theorem tw_381 : Cond.instanceMethod yX5_refusalOfPlace ∈ TBL := tbl_1 (i := 210) (by decide +kernel) (by decide +kernel)
theorem tw_382 : Cond.selects RX5 yX5_refusalOfPlace yX5_refusalOfPlace ∈ TBL := tbl_sel (i := 1) (by decide +kernel) (by decide +kernel)
theorem vw_RX5_76 : VW RX5 76 RX5 yX5_refusalOfPlace (.code yX5_refusalOfPlace cX5_refusalOfPlace 5 (some .int)) 3 := ⟨good_V tw_380 tw_381 tw_382 tw_60 tw_379, by decide +kernel⟩
theorem tw_384 : Cond.methodLink RX5 80 yX4_valueAt ∈ TBL := tbl_1 (i := 224) (by decide +kernel) (by decide +kernel)
theorem vw_RX5_80 : VW RX5 80 RX4 yX4_valueAt (.code yX4_valueAt cX4_valueAt 3 (some .int)) 2 := ⟨good_V tw_384 tw_32 tw_33 tw_27 tw_30, by decide +kernel⟩
theorem tw_386 : Cond.methodLink RX5 84 yX4_setValue ∈ TBL := tbl_1 (i := 228) (by decide +kernel) (by decide +kernel)
theorem vw_RX5_84 : VW RX5 84 RX4 yX4_setValue (.code yX4_setValue cX4_setValue 4 none) 3 := ⟨good_V tw_386 tw_25 tw_26 tw_27 tw_23, by decide +kernel⟩
theorem tw_388 : Cond.methodLink RX5 184 yX1_canPawn ∈ TBL := tbl_2 (i := 209) (by decide +kernel) (by decide +kernel)
theorem vw_RX5_184 : VW RX5 184 RX1 yX1_canPawn (.code yX1_canPawn cX1_canPawn 4 (some .boolean)) 3 := ⟨good_V tw_388 tw_150 tw_151 tw_52 tw_148, by decide +kernel⟩
theorem tw_390 : Cond.methodLink RX5 178 yX0_hasRoom ∈ TBL := tbl_2 (i := 188) (by decide +kernel) (by decide +kernel)
theorem vw_RX5_178 : VW RX5 178 RX0 yX0_hasRoom (.code yX0_hasRoom cX0_hasRoom 2 (some .boolean)) 1 := ⟨good_V tw_390 tw_12 tw_13 tw_14 tw_10, by decide +kernel⟩
theorem tw_392 : Cond.methodLink RX5 187 yX1_doPawn ∈ TBL := tbl_2 (i := 213) (by decide +kernel) (by decide +kernel)
theorem vw_RX5_187 : VW RX5 187 RX1 yX1_doPawn (.code yX1_doPawn cX1_doPawn 4 none) 3 := ⟨good_V tw_392 tw_160 tw_161 tw_52 tw_158, by decide +kernel⟩
theorem tw_394 : Cond.methodLink RX5 190 yX1_pawnedSet ∈ TBL := tbl_2 (i := 217) (by decide +kernel) (by decide +kernel)
theorem vw_RX5_190 : VW RX5 190 RX1 yX1_pawnedSet (.code yX1_pawnedSet cX1_pawnedSet 3 (some .int)) 0 := ⟨good_V tw_394 tw_267 tw_268 tw_52 tw_265, by decide +kernel⟩
theorem tw_396 : Cond.methodLink RX5 151 yJ6_bitCount_0f7a4 ∈ TBL := tbl_2 (i := 142) (by decide +kernel) (by decide +kernel)
theorem sw_RX5_151 : SW RX5 151 yJ6_bitCount_0f7a4 (.code yJ6_bitCount_0f7a4 cJ6_bitCount_0f7a4 1 (some .int)) 1 := ⟨good_C tw_240, tw_241, tw_396, tw_243, by decide +kernel⟩
theorem tw_398 : Cond.fieldLink RX5 203 "PawnLane$Lane" "cash" "[I" ∈ TBL := tbl_1 (i := 76) (by decide +kernel) (by decide +kernel)
theorem tw_399 : Cond.methodLink RX5 206 yX1_doGive ∈ TBL := tbl_3 (i := 3) (by decide +kernel) (by decide +kernel)
theorem vw_RX5_206 : VW RX5 206 RX1 yX1_doGive (.code yX1_doGive cX1_doGive 3 none) 2 := ⟨good_V tw_399 tw_155 tw_156 tw_52 tw_153, by decide +kernel⟩
theorem tw_401 : Cond.code yX1_becomeLike cX1_becomeLike 2 none ∈ TBL := tbl_2 (i := 94) (by decide +kernel) (by decide +kernel)
theorem tw_402 : Cond.methodLink RX5 119 yX1_becomeLike ∈ TBL := tbl_2 (i := 91) (by decide +kernel) (by decide +kernel)
theorem tw_403 : Cond.instanceMethod yX1_becomeLike ∈ TBL := tbl_2 (i := 92) (by decide +kernel) (by decide +kernel)
theorem tw_404 : Cond.selects RX1 yX1_becomeLike yX1_becomeLike ∈ TBL := tbl_2 (i := 93) (by decide +kernel) (by decide +kernel)
theorem vw_RX5_119 : VW RX5 119 RX1 yX1_becomeLike (.code yX1_becomeLike cX1_becomeLike 2 none) 1 := ⟨good_V tw_402 tw_403 tw_404 tw_52 tw_401, by decide +kernel⟩
theorem tw_406 : Cond.code yX1_insideOf cX1_insideOf 5 (some .int) ∈ TBL := tbl_3 (i := 59) (by decide +kernel) (by decide +kernel)
theorem tw_407 : Cond.methodLink RX5 218 yX1_insideOf ∈ TBL := tbl_3 (i := 56) (by decide +kernel) (by decide +kernel)
theorem tw_408 : Cond.instanceMethod yX1_insideOf ∈ TBL := tbl_3 (i := 57) (by decide +kernel) (by decide +kernel)
theorem tw_409 : Cond.selects RX1 yX1_insideOf yX1_insideOf ∈ TBL := tbl_3 (i := 58) (by decide +kernel) (by decide +kernel)
theorem vw_RX5_218 : VW RX5 218 RX1 yX1_insideOf (.code yX1_insideOf cX1_insideOf 5 (some .int)) 1 := ⟨good_V tw_407 tw_408 tw_409 tw_52 tw_406, by decide +kernel⟩
theorem tw_411 : Cond.code yX1_stockOf cX1_stockOf 4 (some .int) ∈ TBL := tbl_3 (i := 84) (by decide +kernel) (by decide +kernel)
theorem tw_412 : Cond.methodLink RX5 227 yX1_stockOf ∈ TBL := tbl_3 (i := 81) (by decide +kernel) (by decide +kernel)
theorem tw_413 : Cond.instanceMethod yX1_stockOf ∈ TBL := tbl_3 (i := 82) (by decide +kernel) (by decide +kernel)
theorem tw_414 : Cond.selects RX1 yX1_stockOf yX1_stockOf ∈ TBL := tbl_3 (i := 83) (by decide +kernel) (by decide +kernel)
theorem vw_RX5_227 : VW RX5 227 RX1 yX1_stockOf (.code yX1_stockOf cX1_stockOf 4 (some .int)) 1 := ⟨good_V tw_412 tw_413 tw_414 tw_52 tw_411, by decide +kernel⟩
theorem tw_416 : Cond.code yX5_refusalOfAside cX5_refusalOfAside 2 (some .int) ∈ TBL := tbl_3 (i := 197) (by decide +kernel) (by decide +kernel)
theorem tw_417 : Cond.methodLink RX5 296 yX5_refusalOfAside ∈ TBL := tbl_3 (i := 194) (by decide +kernel) (by decide +kernel)
theorem tw_418 : Cond.instanceMethod yX5_refusalOfAside ∈ TBL := tbl_3 (i := 196) (by decide +kernel) (by decide +kernel)
theorem tw_419 : Cond.selects RX5 yX5_refusalOfAside yX5_refusalOfAside ∈ TBL := tbl_sel (i := 16) (by decide +kernel) (by decide +kernel)
theorem vw_RX5_296 : VW RX5 296 RX5 yX5_refusalOfAside (.code yX5_refusalOfAside cX5_refusalOfAside 2 (some .int)) 1 := ⟨good_V tw_417 tw_418 tw_419 tw_60 tw_416, by decide +kernel⟩
theorem tw_421 : Cond.code yX4_allBelow cX4_allBelow 5 (some .boolean) ∈ TBL := tbl_3 (i := 201) (by decide +kernel) (by decide +kernel)
theorem tw_422 : Cond.methodLink RX5 299 yX4_allBelow ∈ TBL := tbl_3 (i := 198) (by decide +kernel) (by decide +kernel)
theorem tw_423 : Cond.instanceMethod yX4_allBelow ∈ TBL := tbl_3 (i := 199) (by decide +kernel) (by decide +kernel)
theorem tw_424 : Cond.selects RX4 yX4_allBelow yX4_allBelow ∈ TBL := tbl_3 (i := 200) (by decide +kernel) (by decide +kernel)
theorem vw_RX5_299 : VW RX5 299 RX4 yX4_allBelow (.code yX4_allBelow cX4_allBelow 5 (some .boolean)) 2 := ⟨good_V tw_422 tw_423 tw_424 tw_27 tw_421, by decide +kernel⟩
theorem tw_426 : Cond.fieldLink RX5 135 "PawnLane$Lane" "kind" "[I" ∈ TBL := tbl_1 (i := 72) (by decide +kernel) (by decide +kernel)
theorem tw_427 : Cond.methodLink RX5 230 yX1_dueOf ∈ TBL := tbl_2 (i := 111) (by decide +kernel) (by decide +kernel)
theorem vw_RX5_230 : VW RX5 230 RX1 yX1_dueOf (.code yX1_dueOf cX1_dueOf 3 (some .int)) 2 := ⟨good_V tw_427 tw_105 tw_106 tw_52 tw_103, by decide +kernel⟩
theorem tw_429 : Cond.fieldLink RX5 320 "PawnLane$Lane" "weeks" "[I" ∈ TBL := tbl_1 (i := 85) (by decide +kernel) (by decide +kernel)
theorem tw_430 : Cond.code yX1_heldBy cX1_heldBy 4 (some .int) ∈ TBL := tbl_2 (i := 125) (by decide +kernel) (by decide +kernel)
theorem tw_431 : Cond.methodLink RX5 148 yX1_heldBy ∈ TBL := tbl_2 (i := 122) (by decide +kernel) (by decide +kernel)
theorem tw_432 : Cond.instanceMethod yX1_heldBy ∈ TBL := tbl_2 (i := 123) (by decide +kernel) (by decide +kernel)
theorem tw_433 : Cond.selects RX1 yX1_heldBy yX1_heldBy ∈ TBL := tbl_2 (i := 124) (by decide +kernel) (by decide +kernel)
theorem vw_RX5_148 : VW RX5 148 RX1 yX1_heldBy (.code yX1_heldBy cX1_heldBy 4 (some .int)) 1 := ⟨good_V tw_431 tw_432 tw_433 tw_52 tw_430, by decide +kernel⟩
theorem tw_435 : Cond.code yX5_toldOfShop cX5_toldOfShop 3 (some .int) ∈ TBL := tbl_2 (i := 110) (by decide +kernel) (by decide +kernel)
theorem tw_436 : Cond.methodLink RX5 132 yX5_toldOfShop ∈ TBL := tbl_2 (i := 107) (by decide +kernel) (by decide +kernel)
theorem tw_437 : Cond.instanceMethod yX5_toldOfShop ∈ TBL := tbl_2 (i := 109) (by decide +kernel) (by decide +kernel)
theorem tw_438 : Cond.selects RX5 yX5_toldOfShop yX5_toldOfShop ∈ TBL := tbl_sel (i := 7) (by decide +kernel) (by decide +kernel)
theorem vw_RX5_132 : VW RX5 132 RX5 yX5_toldOfShop (.code yX5_toldOfShop cX5_toldOfShop 3 (some .int)) 2 := ⟨good_V tw_436 tw_437 tw_438 tw_60 tw_435, by decide +kernel⟩
theorem tw_440 : Cond.methodLink RX5 138 yX5_isOfKind ∈ TBL := tbl_2 (i := 130) (by decide +kernel) (by decide +kernel)
theorem sw_RX5_138 : SW RX5 138 yX5_isOfKind (.code yX5_isOfKind cX5_isOfKind 2 (some .boolean)) 2 := ⟨good_C tw_65, tw_60, tw_440, tw_66, by decide +kernel⟩
theorem tw_442 : Cond.code yX1_loansTo cX1_loansTo 4 (some .int) ∈ TBL := tbl_2 (i := 136) (by decide +kernel) (by decide +kernel)
theorem tw_443 : Cond.methodLink RX5 142 yX1_loansTo ∈ TBL := tbl_2 (i := 133) (by decide +kernel) (by decide +kernel)
theorem tw_444 : Cond.instanceMethod yX1_loansTo ∈ TBL := tbl_2 (i := 134) (by decide +kernel) (by decide +kernel)
theorem tw_445 : Cond.selects RX1 yX1_loansTo yX1_loansTo ∈ TBL := tbl_2 (i := 135) (by decide +kernel) (by decide +kernel)
theorem vw_RX5_142 : VW RX5 142 RX1 yX1_loansTo (.code yX1_loansTo cX1_loansTo 4 (some .int)) 1 := ⟨good_V tw_443 tw_444 tw_445 tw_52 tw_442, by decide +kernel⟩
theorem tw_447 : Cond.code yX1_dueTo cX1_dueTo 5 (some .int) ∈ TBL := tbl_2 (i := 140) (by decide +kernel) (by decide +kernel)
theorem tw_448 : Cond.methodLink RX5 145 yX1_dueTo ∈ TBL := tbl_2 (i := 137) (by decide +kernel) (by decide +kernel)
theorem tw_449 : Cond.instanceMethod yX1_dueTo ∈ TBL := tbl_2 (i := 138) (by decide +kernel) (by decide +kernel)
theorem tw_450 : Cond.selects RX1 yX1_dueTo yX1_dueTo ∈ TBL := tbl_2 (i := 139) (by decide +kernel) (by decide +kernel)
theorem vw_RX5_145 : VW RX5 145 RX1 yX1_dueTo (.code yX1_dueTo cX1_dueTo 5 (some .int)) 2 := ⟨good_V tw_448 tw_449 tw_450 tw_52 tw_447, by decide +kernel⟩
theorem tw_452 : Cond.fieldLink RX5 42 "PawnLane" "orders" "LPawnLane$Orders;" ∈ TBL := tbl_1 (i := 155) (by decide +kernel) (by decide +kernel)
theorem tw_453 : Cond.code yX2_lookAt cX2_lookAt 4 none ∈ TBL := tbl_2 (i := 151) (by decide +kernel) (by decide +kernel)
theorem tw_454 : Cond.methodLink RX5 156 yX2_lookAt ∈ TBL := tbl_2 (i := 148) (by decide +kernel) (by decide +kernel)
theorem tw_455 : Cond.instanceMethod yX2_lookAt ∈ TBL := tbl_2 (i := 149) (by decide +kernel) (by decide +kernel)
theorem tw_456 : Cond.selects RX2 yX2_lookAt yX2_lookAt ∈ TBL := tbl_2 (i := 150) (by decide +kernel) (by decide +kernel)
theorem vw_RX5_156 : VW RX5 156 RX2 yX2_lookAt (.code yX2_lookAt cX2_lookAt 4 none) 2 := ⟨good_V tw_454 tw_455 tw_456 tw_252 tw_453, by decide +kernel⟩
theorem tw_458 : Cond.methodLink RX5 160 yX2_nextAfter ∈ TBL := tbl_2 (i := 157) (by decide +kernel) (by decide +kernel)
theorem vw_RX5_160 : VW RX5 160 RX2 yX2_nextAfter (.code yX2_nextAfter cX2_nextAfter 4 (some .int)) 1 := ⟨good_V tw_458 tw_291 tw_292 tw_252 tw_289, by decide +kernel⟩
theorem tw_460 : Cond.methodLink RX5 175 yX1_canRedeem ∈ TBL := tbl_2 (i := 184) (by decide +kernel) (by decide +kernel)
theorem vw_RX5_175 : VW RX5 175 RX1 yX1_canRedeem (.code yX1_canRedeem cX1_canRedeem 2 (some .boolean)) 1 := ⟨good_V tw_460 tw_145 tw_146 tw_52 tw_143, by decide +kernel⟩
theorem tw_462 : Cond.methodLink RX5 181 yX1_doRedeem ∈ TBL := tbl_2 (i := 192) (by decide +kernel) (by decide +kernel)
theorem vw_RX5_181 : VW RX5 181 RX1 yX1_doRedeem (.code yX1_doRedeem cX1_doRedeem 4 (some .int)) 1 := ⟨good_V tw_462 tw_170 tw_171 tw_52 tw_168, by decide +kernel⟩
theorem tw_464 : Cond.code yX1_oldestTicket cX1_oldestTicket 3 (some .int) ∈ TBL := tbl_2 (i := 225) (by decide +kernel) (by decide +kernel)
theorem tw_465 : Cond.methodLink RX5 194 yX1_oldestTicket ∈ TBL := tbl_2 (i := 222) (by decide +kernel) (by decide +kernel)
theorem tw_466 : Cond.instanceMethod yX1_oldestTicket ∈ TBL := tbl_2 (i := 223) (by decide +kernel) (by decide +kernel)
theorem tw_467 : Cond.selects RX1 yX1_oldestTicket yX1_oldestTicket ∈ TBL := tbl_2 (i := 224) (by decide +kernel) (by decide +kernel)
theorem vw_RX5_194 : VW RX5 194 RX1 yX1_oldestTicket (.code yX1_oldestTicket cX1_oldestTicket 3 (some .int)) 0 := ⟨good_V tw_465 tw_466 tw_467 tw_52 tw_464, by decide +kernel⟩
theorem tw_469 : Cond.methodLink RX5 197 yX1_doWeek ∈ TBL := tbl_2 (i := 227) (by decide +kernel) (by decide +kernel)
theorem vw_RX5_197 : VW RX5 197 RX1 yX1_doWeek (.code yX1_doWeek cX1_doWeek 1 none) 0 := ⟨good_V tw_469 tw_165 tw_166 tw_52 tw_163, by decide +kernel⟩
theorem tw_471 : Cond.code yX1_dueInAll cX1_dueInAll 3 (some .int) ∈ TBL := tbl_2 (i := 238) (by decide +kernel) (by decide +kernel)
theorem tw_472 : Cond.methodLink RX5 200 yX1_dueInAll ∈ TBL := tbl_2 (i := 235) (by decide +kernel) (by decide +kernel)
theorem tw_473 : Cond.instanceMethod yX1_dueInAll ∈ TBL := tbl_2 (i := 236) (by decide +kernel) (by decide +kernel)
theorem tw_474 : Cond.selects RX1 yX1_dueInAll yX1_dueInAll ∈ TBL := tbl_2 (i := 237) (by decide +kernel) (by decide +kernel)
theorem vw_RX5_200 : VW RX5 200 RX1 yX1_dueInAll (.code yX1_dueInAll cX1_dueInAll 3 (some .int)) 0 := ⟨good_V tw_472 tw_473 tw_474 tw_52 tw_471, by decide +kernel⟩
theorem tw_476 : Cond.code yX1_undoLast cX1_undoLast 5 none ∈ TBL := tbl_3 (i := 14) (by decide +kernel) (by decide +kernel)
theorem tw_477 : Cond.methodLink RX5 209 yX1_undoLast ∈ TBL := tbl_3 (i := 11) (by decide +kernel) (by decide +kernel)
theorem tw_478 : Cond.instanceMethod yX1_undoLast ∈ TBL := tbl_3 (i := 12) (by decide +kernel) (by decide +kernel)
theorem tw_479 : Cond.selects RX1 yX1_undoLast yX1_undoLast ∈ TBL := tbl_3 (i := 13) (by decide +kernel) (by decide +kernel)
theorem vw_RX5_209 : VW RX5 209 RX1 yX1_undoLast (.code yX1_undoLast cX1_undoLast 5 none) 0 := ⟨good_V tw_477 tw_478 tw_479 tw_52 tw_476, by decide +kernel⟩
theorem tw_481 : Cond.code yX2_needOf cX2_needOf 3 (some .int) ∈ TBL := tbl_3 (i := 172) (by decide +kernel) (by decide +kernel)
theorem tw_482 : Cond.methodLink RX5 253 yX2_needOf ∈ TBL := tbl_3 (i := 169) (by decide +kernel) (by decide +kernel)
theorem tw_483 : Cond.instanceMethod yX2_needOf ∈ TBL := tbl_3 (i := 170) (by decide +kernel) (by decide +kernel)
theorem tw_484 : Cond.selects RX2 yX2_needOf yX2_needOf ∈ TBL := tbl_3 (i := 171) (by decide +kernel) (by decide +kernel)
theorem vw_RX5_253 : VW RX5 253 RX2 yX2_needOf (.code yX2_needOf cX2_needOf 3 (some .int)) 1 := ⟨good_V tw_482 tw_483 tw_484 tw_252 tw_481, by decide +kernel⟩
theorem tw_486 : Cond.methodLink RX5 262 yX2_cashAfter ∈ TBL := tbl_3 (i := 203) (by decide +kernel) (by decide +kernel)
theorem vw_RX5_262 : VW RX5 262 RX2 yX2_cashAfter (.code yX2_cashAfter cX2_cashAfter 5 (some .int)) 2 := ⟨good_V tw_486 tw_256 tw_257 tw_252 tw_254, by decide +kernel⟩
theorem tw_488 : Cond.methodLink RX5 259 yX2_goesOn ∈ TBL := tbl_3 (i := 202) (by decide +kernel) (by decide +kernel)
theorem vw_RX5_259 : VW RX5 259 RX2 yX2_goesOn (.code yX2_goesOn cX2_goesOn 3 (some .boolean)) 2 := ⟨good_V tw_488 tw_272 tw_273 tw_252 tw_270, by decide +kernel⟩
theorem tw_490 : Cond.code yX5_refusalOfOrder cX5_refusalOfOrder 3 (some .int) ∈ TBL := tbl_3 (i := 193) (by decide +kernel) (by decide +kernel)
theorem tw_491 : Cond.methodLink RX5 256 yX5_refusalOfOrder ∈ TBL := tbl_3 (i := 190) (by decide +kernel) (by decide +kernel)
theorem tw_492 : Cond.instanceMethod yX5_refusalOfOrder ∈ TBL := tbl_3 (i := 192) (by decide +kernel) (by decide +kernel)
theorem tw_493 : Cond.selects RX5 yX5_refusalOfOrder yX5_refusalOfOrder ∈ TBL := tbl_sel (i := 15) (by decide +kernel) (by decide +kernel)
theorem vw_RX5_256 : VW RX5 256 RX5 yX5_refusalOfOrder (.code yX5_refusalOfOrder cX5_refusalOfOrder 3 (some .int)) 1 := ⟨good_V tw_491 tw_492 tw_493 tw_60 tw_490, by decide +kernel⟩
theorem tw_495 : Cond.code yX2_isStep cX2_isStep 4 (some .boolean) ∈ TBL := tbl_3 (i := 227) (by decide +kernel) (by decide +kernel)
theorem tw_496 : Cond.methodLink RX5 271 yX2_isStep ∈ TBL := tbl_3 (i := 224) (by decide +kernel) (by decide +kernel)
theorem tw_497 : Cond.instanceMethod yX2_isStep ∈ TBL := tbl_3 (i := 225) (by decide +kernel) (by decide +kernel)
theorem tw_498 : Cond.selects RX2 yX2_isStep yX2_isStep ∈ TBL := tbl_3 (i := 226) (by decide +kernel) (by decide +kernel)
theorem vw_RX5_271 : VW RX5 271 RX2 yX2_isStep (.code yX2_isStep cX2_isStep 4 (some .boolean)) 2 := ⟨good_V tw_496 tw_497 tw_498 tw_252 tw_495, by decide +kernel⟩
theorem tw_500 : Cond.code yX5_refusalOfSets cX5_refusalOfSets 3 (some .int) ∈ TBL := tbl_3 (i := 223) (by decide +kernel) (by decide +kernel)
theorem tw_501 : Cond.methodLink RX5 268 yX5_refusalOfSets ∈ TBL := tbl_3 (i := 220) (by decide +kernel) (by decide +kernel)
theorem tw_502 : Cond.instanceMethod yX5_refusalOfSets ∈ TBL := tbl_3 (i := 222) (by decide +kernel) (by decide +kernel)
theorem tw_503 : Cond.selects RX5 yX5_refusalOfSets yX5_refusalOfSets ∈ TBL := tbl_sel (i := 18) (by decide +kernel) (by decide +kernel)
theorem vw_RX5_268 : VW RX5 268 RX5 yX5_refusalOfSets (.code yX5_refusalOfSets cX5_refusalOfSets 3 (some .int)) 1 := ⟨good_V tw_501 tw_502 tw_503 tw_60 tw_500, by decide +kernel⟩
theorem tw_505 : Cond.code yX1_cashInAll cX1_cashInAll 3 (some .int) ∈ TBL := tbl_4 (i := 39) (by decide +kernel) (by decide +kernel)
theorem tw_506 : Cond.methodLink RX5 323 yX1_cashInAll ∈ TBL := tbl_4 (i := 36) (by decide +kernel) (by decide +kernel)
theorem tw_507 : Cond.instanceMethod yX1_cashInAll ∈ TBL := tbl_4 (i := 37) (by decide +kernel) (by decide +kernel)
theorem tw_508 : Cond.selects RX1 yX1_cashInAll yX1_cashInAll ∈ TBL := tbl_4 (i := 38) (by decide +kernel) (by decide +kernel)
theorem vw_RX5_323 : VW RX5 323 RX1 yX1_cashInAll (.code yX1_cashInAll cX1_cashInAll 3 (some .int)) 0 := ⟨good_V tw_506 tw_507 tw_508 tw_52 tw_505, by decide +kernel⟩
theorem tw_510 : Cond.code yX1_howManyOf cX1_howManyOf 4 (some .int) ∈ TBL := tbl_4 (i := 43) (by decide +kernel) (by decide +kernel)
theorem tw_511 : Cond.methodLink RX5 326 yX1_howManyOf ∈ TBL := tbl_4 (i := 40) (by decide +kernel) (by decide +kernel)
theorem tw_512 : Cond.instanceMethod yX1_howManyOf ∈ TBL := tbl_4 (i := 41) (by decide +kernel) (by decide +kernel)
theorem tw_513 : Cond.selects RX1 yX1_howManyOf yX1_howManyOf ∈ TBL := tbl_4 (i := 42) (by decide +kernel) (by decide +kernel)
theorem vw_RX5_326 : VW RX5 326 RX1 yX1_howManyOf (.code yX1_howManyOf cX1_howManyOf 4 (some .int)) 1 := ⟨good_V tw_511 tw_512 tw_513 tw_52 tw_510, by decide +kernel⟩
theorem tw_515 : Cond.code yX4_howMany cX4_howMany 3 (some .int) ∈ TBL := tbl_4 (i := 48) (by decide +kernel) (by decide +kernel)
theorem tw_516 : Cond.methodLink RX5 329 yX4_howMany ∈ TBL := tbl_4 (i := 45) (by decide +kernel) (by decide +kernel)
theorem tw_517 : Cond.instanceMethod yX4_howMany ∈ TBL := tbl_4 (i := 46) (by decide +kernel) (by decide +kernel)
theorem tw_518 : Cond.selects RX4 yX4_howMany yX4_howMany ∈ TBL := tbl_4 (i := 47) (by decide +kernel) (by decide +kernel)
theorem vw_RX5_329 : VW RX5 329 RX4 yX4_howMany (.code yX4_howMany cX4_howMany 3 (some .int)) 0 := ⟨good_V tw_516 tw_517 tw_518 tw_27 tw_515, by decide +kernel⟩
theorem tw_520 : Cond.code yX5_keptLanes cX5_keptLanes 3 (some .int) ∈ TBL := tbl_4 (i := 53) (by decide +kernel) (by decide +kernel)
theorem tw_521 : Cond.methodLink RX5 332 yX5_keptLanes ∈ TBL := tbl_4 (i := 50) (by decide +kernel) (by decide +kernel)
theorem tw_522 : Cond.instanceMethod yX5_keptLanes ∈ TBL := tbl_4 (i := 52) (by decide +kernel) (by decide +kernel)
theorem tw_523 : Cond.selects RX5 yX5_keptLanes yX5_keptLanes ∈ TBL := tbl_sel (i := 20) (by decide +kernel) (by decide +kernel)
theorem vw_RX5_332 : VW RX5 332 RX5 yX5_keptLanes (.code yX5_keptLanes cX5_keptLanes 3 (some .int)) 0 := ⟨good_V tw_521 tw_522 tw_523 tw_60 tw_520, by decide +kernel⟩
theorem tw_525 : Cond.code yX2_countFrom cX2_countFrom 5 none ∈ TBL := tbl_3 (i := 140) (by decide +kernel) (by decide +kernel)
theorem tw_526 : Cond.methodLink RX5 240 yX2_countFrom ∈ TBL := tbl_3 (i := 137) (by decide +kernel) (by decide +kernel)
theorem tw_527 : Cond.instanceMethod yX2_countFrom ∈ TBL := tbl_3 (i := 138) (by decide +kernel) (by decide +kernel)
theorem tw_528 : Cond.selects RX2 yX2_countFrom yX2_countFrom ∈ TBL := tbl_3 (i := 139) (by decide +kernel) (by decide +kernel)
theorem vw_RX5_240 : VW RX5 240 RX2 yX2_countFrom (.code yX2_countFrom cX2_countFrom 5 none) 1 := ⟨good_V tw_526 tw_527 tw_528 tw_252 tw_525, by decide +kernel⟩
theorem tw_530 : Cond.code yX2_countOf cX2_countOf 2 (some .int) ∈ TBL := tbl_3 (i := 145) (by decide +kernel) (by decide +kernel)
theorem tw_531 : Cond.methodLink RX5 243 yX2_countOf ∈ TBL := tbl_3 (i := 142) (by decide +kernel) (by decide +kernel)
theorem tw_532 : Cond.instanceMethod yX2_countOf ∈ TBL := tbl_3 (i := 143) (by decide +kernel) (by decide +kernel)
theorem tw_533 : Cond.selects RX2 yX2_countOf yX2_countOf ∈ TBL := tbl_3 (i := 144) (by decide +kernel) (by decide +kernel)
theorem vw_RX5_243 : VW RX5 243 RX2 yX2_countOf (.code yX2_countOf cX2_countOf 2 (some .int)) 1 := ⟨good_V tw_531 tw_532 tw_533 tw_252 tw_530, by decide +kernel⟩
theorem tw_535 : Cond.code yX5_tell cX5_tell 7 none ∈ TBL := tbl_3 (i := 149) (by decide +kernel) (by decide +kernel)
theorem tw_536 : Cond.methodLink RX5 246 yX5_tell ∈ TBL := tbl_3 (i := 146) (by decide +kernel) (by decide +kernel)
theorem tw_537 : Cond.instanceMethod yX5_tell ∈ TBL := tbl_3 (i := 148) (by decide +kernel) (by decide +kernel)
theorem tw_538 : Cond.selects RX5 yX5_tell yX5_tell ∈ TBL := tbl_sel (i := 13) (by decide +kernel) (by decide +kernel)
theorem vw_RX5_246 : VW RX5 246 RX5 yX5_tell (.code yX5_tell cX5_tell 7 none) 2 := ⟨good_V tw_536 tw_537 tw_538 tw_60 tw_535, by decide +kernel⟩
theorem tw_540 : Cond.code yX2_largest cX2_largest 3 (some .int) ∈ TBL := tbl_3 (i := 163) (by decide +kernel) (by decide +kernel)
theorem tw_541 : Cond.methodLink RX5 250 yX2_largest ∈ TBL := tbl_3 (i := 160) (by decide +kernel) (by decide +kernel)
theorem tw_542 : Cond.instanceMethod yX2_largest ∈ TBL := tbl_3 (i := 161) (by decide +kernel) (by decide +kernel)
theorem tw_543 : Cond.selects RX2 yX2_largest yX2_largest ∈ TBL := tbl_3 (i := 162) (by decide +kernel) (by decide +kernel)
theorem vw_RX5_250 : VW RX5 250 RX2 yX2_largest (.code yX2_largest cX2_largest 3 (some .int)) 0 := ⟨good_V tw_541 tw_542 tw_543 tw_252 tw_540, by decide +kernel⟩
theorem tw_545 : Cond.code yX1_shutBy cX1_shutBy 5 (some .int) ∈ TBL := tbl_3 (i := 211) (by decide +kernel) (by decide +kernel)
theorem tw_546 : Cond.methodLink RX5 265 yX1_shutBy ∈ TBL := tbl_3 (i := 208) (by decide +kernel) (by decide +kernel)
theorem tw_547 : Cond.instanceMethod yX1_shutBy ∈ TBL := tbl_3 (i := 209) (by decide +kernel) (by decide +kernel)
theorem tw_548 : Cond.selects RX1 yX1_shutBy yX1_shutBy ∈ TBL := tbl_3 (i := 210) (by decide +kernel) (by decide +kernel)
theorem vw_RX5_265 : VW RX5 265 RX1 yX1_shutBy (.code yX1_shutBy cX1_shutBy 5 (some .int)) 1 := ⟨good_V tw_546 tw_547 tw_548 tw_52 tw_545, by decide +kernel⟩
theorem tw_550 : Cond.code yX5_power cX5_power 5 (some .long) ∈ TBL := tbl_3 (i := 239) (by decide +kernel) (by decide +kernel)
theorem tw_551 : Cond.methodLink RX5 274 yX5_power ∈ TBL := tbl_3 (i := 237) (by decide +kernel) (by decide +kernel)
theorem tw_552 : Cond.static yX5_power ∈ TBL := tbl_3 (i := 238) (by decide +kernel) (by decide +kernel)
theorem sw_RX5_274 : SW RX5 274 yX5_power (.code yX5_power cX5_power 5 (some .long)) 2 := ⟨good_C tw_550, tw_60, tw_551, tw_552, by decide +kernel⟩
theorem tw_554 : Cond.constantLong RX5 280 48271 ∈ TBL := tbl_4 (i := 5) (by decide +kernel) (by decide +kernel)
theorem tw_555 : Cond.constantLong RX5 278 2147483647 ∈ TBL := tbl_4 (i := 4) (by decide +kernel) (by decide +kernel)
theorem tw_556 : Cond.code yX1_doByLot cX1_doByLot 5 none ∈ TBL := tbl_4 (i := 9) (by decide +kernel) (by decide +kernel)
theorem tw_557 : Cond.methodLink RX5 282 yX1_doByLot ∈ TBL := tbl_4 (i := 6) (by decide +kernel) (by decide +kernel)
theorem tw_558 : Cond.instanceMethod yX1_doByLot ∈ TBL := tbl_4 (i := 7) (by decide +kernel) (by decide +kernel)
theorem tw_559 : Cond.selects RX1 yX1_doByLot yX1_doByLot ∈ TBL := tbl_4 (i := 8) (by decide +kernel) (by decide +kernel)
theorem vw_RX5_282 : VW RX5 282 RX1 yX1_doByLot (.code yX1_doByLot cX1_doByLot 5 none) 1 := ⟨good_V tw_557 tw_558 tw_559 tw_52 tw_556, by decide +kernel⟩
theorem tw_561 : Cond.code yX5_counted cX5_counted 2 (some .int) ∈ TBL := tbl_4 (i := 35) (by decide +kernel) (by decide +kernel)
theorem tw_562 : Cond.methodLink RX5 285 yX5_counted ∈ TBL := tbl_4 (i := 32) (by decide +kernel) (by decide +kernel)
theorem tw_563 : Cond.instanceMethod yX5_counted ∈ TBL := tbl_4 (i := 34) (by decide +kernel) (by decide +kernel)
theorem tw_564 : Cond.selects RX5 yX5_counted yX5_counted ∈ TBL := tbl_sel (i := 19) (by decide +kernel) (by decide +kernel)
theorem vw_RX5_285 : VW RX5 285 RX5 yX5_counted (.code yX5_counted cX5_counted 2 (some .int)) 1 := ⟨good_V tw_562 tw_563 tw_564 tw_60 tw_561, by decide +kernel⟩
theorem tw_566 : Cond.code yX4_digestOnto cX4_digestOnto 7 (some .long) ∈ TBL := tbl_4 (i := 71) (by decide +kernel) (by decide +kernel)
theorem tw_567 : Cond.methodLink RX5 292 yX4_digestOnto ∈ TBL := tbl_4 (i := 68) (by decide +kernel) (by decide +kernel)
theorem tw_568 : Cond.instanceMethod yX4_digestOnto ∈ TBL := tbl_4 (i := 69) (by decide +kernel) (by decide +kernel)
theorem tw_569 : Cond.selects RX4 yX4_digestOnto yX4_digestOnto ∈ TBL := tbl_4 (i := 70) (by decide +kernel) (by decide +kernel)
theorem vw_RX5_292 : VW RX5 292 RX4 yX4_digestOnto (.code yX4_digestOnto cX4_digestOnto 7 (some .long)) 1 := ⟨good_V tw_567 tw_568 tw_569 tw_27 tw_566, by decide +kernel⟩
theorem tw_571 : Cond.constantLong RX5 290 31 ∈ TBL := tbl_4 (i := 67) (by decide +kernel) (by decide +kernel)
theorem tw_572 : Cond.constantLong RX5 288 17 ∈ TBL := tbl_4 (i := 66) (by decide +kernel) (by decide +kernel)
theorem tw_573 : Cond.code yX2_firstNearer cX2_firstNearer 4 (some .int) ∈ TBL := tbl_3 (i := 132) (by decide +kernel) (by decide +kernel)
theorem tw_574 : Cond.methodLink RX5 308 yX2_firstNearer ∈ TBL := tbl_3 (i := 129) (by decide +kernel) (by decide +kernel)
theorem tw_575 : Cond.instanceMethod yX2_firstNearer ∈ TBL := tbl_3 (i := 130) (by decide +kernel) (by decide +kernel)
theorem tw_576 : Cond.selects RX2 yX2_firstNearer yX2_firstNearer ∈ TBL := tbl_3 (i := 131) (by decide +kernel) (by decide +kernel)
theorem vw_RX5_308 : VW RX5 308 RX2 yX2_firstNearer (.code yX2_firstNearer cX2_firstNearer 4 (some .int)) 1 := ⟨good_V tw_574 tw_575 tw_576 tw_252 tw_573, by decide +kernel⟩
theorem tw_578 : Cond.code yX2_measureTo cX2_measureTo 3 none ∈ TBL := tbl_3 (i := 115) (by decide +kernel) (by decide +kernel)
theorem tw_579 : Cond.methodLink RX5 302 yX2_measureTo ∈ TBL := tbl_3 (i := 112) (by decide +kernel) (by decide +kernel)
theorem tw_580 : Cond.instanceMethod yX2_measureTo ∈ TBL := tbl_3 (i := 113) (by decide +kernel) (by decide +kernel)
theorem tw_581 : Cond.selects RX2 yX2_measureTo yX2_measureTo ∈ TBL := tbl_3 (i := 114) (by decide +kernel) (by decide +kernel)
theorem vw_RX5_302 : VW RX5 302 RX2 yX2_measureTo (.code yX2_measureTo cX2_measureTo 3 none) 1 := ⟨good_V tw_579 tw_580 tw_581 tw_252 tw_578, by decide +kernel⟩
theorem tw_583 : Cond.code yX2_stepsFrom cX2_stepsFrom 2 (some .int) ∈ TBL := tbl_3 (i := 128) (by decide +kernel) (by decide +kernel)
theorem tw_584 : Cond.methodLink RX5 305 yX2_stepsFrom ∈ TBL := tbl_3 (i := 125) (by decide +kernel) (by decide +kernel)
theorem tw_585 : Cond.instanceMethod yX2_stepsFrom ∈ TBL := tbl_3 (i := 126) (by decide +kernel) (by decide +kernel)
theorem tw_586 : Cond.selects RX2 yX2_stepsFrom yX2_stepsFrom ∈ TBL := tbl_3 (i := 127) (by decide +kernel) (by decide +kernel)
theorem vw_RX5_305 : VW RX5 305 RX2 yX2_stepsFrom (.code yX2_stepsFrom cX2_stepsFrom 2 (some .int)) 1 := ⟨good_V tw_584 tw_585 tw_586 tw_252 tw_583, by decide +kernel⟩
theorem tw_588 : Cond.fieldLink RX5 24 "PawnLane" "reader" "LPawnLane$Reader;" ∈ TBL := tbl_1 (i := 152) (by decide +kernel) (by decide +kernel)
theorem tw_589 : Cond.code yX3_faultOf cX3_faultOf 5 (some .int) ∈ TBL := tbl_2 (i := 40) (by decide +kernel) (by decide +kernel)
theorem tw_590 : Cond.methodLink RX5 113 yX3_faultOf ∈ TBL := tbl_2 (i := 37) (by decide +kernel) (by decide +kernel)
theorem tw_591 : Cond.instanceMethod yX3_faultOf ∈ TBL := tbl_2 (i := 38) (by decide +kernel) (by decide +kernel)
theorem tw_592 : Cond.selects RX3 yX3_faultOf yX3_faultOf ∈ TBL := tbl_2 (i := 39) (by decide +kernel) (by decide +kernel)
theorem vw_RX5_113 : VW RX5 113 RX3 yX3_faultOf (.code yX3_faultOf cX3_faultOf 5 (some .int)) 2 := ⟨good_V tw_590 tw_591 tw_592 tw_190 tw_589, by decide +kernel⟩
theorem tw_594 : Cond.methodLink RX5 123 yX1_clear ∈ TBL := tbl_2 (i := 101) (by decide +kernel) (by decide +kernel)
theorem vw_RX5_123 : VW RX5 123 RX1 yX1_clear (.code yX1_clear cX1_clear 1 none) 0 := ⟨good_V tw_594 tw_224 tw_225 tw_52 tw_222, by decide +kernel⟩
theorem tw_596 : Cond.fieldLink RX5 116 "PawnLane$Reader" "draft" "LPawnLane$Lane;" ∈ TBL := tbl_1 (i := 106) (by decide +kernel) (by decide +kernel)
theorem tw_597 : Cond.code yX5_firstOrderTo cX5_firstOrderTo 7 (some .int) ∈ TBL := tbl_3 (i := 111) (by decide +kernel) (by decide +kernel)
theorem tw_598 : Cond.methodLink RX5 237 yX5_firstOrderTo ∈ TBL := tbl_3 (i := 108) (by decide +kernel) (by decide +kernel)
theorem tw_599 : Cond.instanceMethod yX5_firstOrderTo ∈ TBL := tbl_3 (i := 110) (by decide +kernel) (by decide +kernel)
theorem tw_600 : Cond.selects RX5 yX5_firstOrderTo yX5_firstOrderTo ∈ TBL := tbl_sel (i := 11) (by decide +kernel) (by decide +kernel)
theorem vw_RX5_237 : VW RX5 237 RX5 yX5_firstOrderTo (.code yX5_firstOrderTo cX5_firstOrderTo 7 (some .int)) 2 := ⟨good_V tw_598 tw_599 tw_600 tw_60 tw_597, by decide +kernel⟩
theorem tw_602 : Cond.fieldLink RX6 60 "PawnLaneModel" "finding" "I" ∈ TBL := tbl_4 (i := 89) (by decide +kernel) (by decide +kernel)
theorem tw_603 : Cond.fieldLink RX6 32 "PawnLaneModel" "findings" "[I" ∈ TBL := tbl_4 (i := 90) (by decide +kernel) (by decide +kernel)
theorem tw_604 : Cond.fieldLink RX6 64 "PawnLaneModel" "asked" "I" ∈ TBL := tbl_4 (i := 86) (by decide +kernel) (by decide +kernel)
theorem tw_605 : Cond.fieldLink RX6 19 "PawnLaneModel" "items" "[I" ∈ TBL := tbl_4 (i := 83) (by decide +kernel) (by decide +kernel)
theorem tw_606 : Cond.fieldLink RX6 16 "PawnLaneModel" "sizes" "[I" ∈ TBL := tbl_4 (i := 82) (by decide +kernel) (by decide +kernel)
theorem tw_607 : Cond.fieldLink RX6 25 "PawnLaneModel" "bytes" "[I" ∈ TBL := tbl_4 (i := 85) (by decide +kernel) (by decide +kernel)
theorem tw_608 : Cond.fieldLink RX6 101 "PawnLaneModel" "from" "I" ∈ TBL := tbl_4 (i := 91) (by decide +kernel) (by decide +kernel)
theorem tw_609 : Cond.fieldLink RX6 104 "PawnLaneModel" "place" "I" ∈ TBL := tbl_4 (i := 92) (by decide +kernel) (by decide +kernel)
theorem tw_610 : Cond.fieldLink RX6 7 "PawnLaneModel" "row" "[I" ∈ TBL := tbl_4 (i := 79) (by decide +kernel) (by decide +kernel)
theorem tw_611 : Cond.fieldLink RX6 140 "PawnLaneModel" "shops" "I" ∈ TBL := tbl_4 (i := 80) (by decide +kernel) (by decide +kernel)
theorem tw_612 : Cond.fieldLink RX6 13 "PawnLaneModel" "kinds" "[I" ∈ TBL := tbl_4 (i := 81) (by decide +kernel) (by decide +kernel)
theorem tw_613 : Cond.fieldLink RX6 237 "PawnLaneModel" "upper" "J" ∈ TBL := tbl_4 (i := 87) (by decide +kernel) (by decide +kernel)
theorem tw_614 : Cond.fieldLink RX6 28 "PawnLaneModel" "lower" "J" ∈ TBL := tbl_4 (i := 88) (by decide +kernel) (by decide +kernel)
theorem tw_615 : Cond.fieldLink RX6 22 "PawnLaneModel" "lengths" "[I" ∈ TBL := tbl_4 (i := 84) (by decide +kernel) (by decide +kernel)
theorem tw_616 : Cond.constantLong RX6 67 5 ∈ TBL := tbl_4 (i := 166) (by decide +kernel) (by decide +kernel)
theorem tw_617 : Cond.code yX6_in cX6_in 6 (some .boolean) ∈ TBL := tbl_4 (i := 169) (by decide +kernel) (by decide +kernel)
theorem tw_618 : Cond.initialized RX6 ∈ TBL := tbl_1 (i := 8) (by decide +kernel) (by decide +kernel)
theorem tw_619 : Cond.methodLink RX6 69 yX6_in ∈ TBL := tbl_4 (i := 167) (by decide +kernel) (by decide +kernel)
theorem tw_620 : Cond.static yX6_in ∈ TBL := tbl_4 (i := 168) (by decide +kernel) (by decide +kernel)
theorem sw_RX6_69 : SW RX6 69 yX6_in (.code yX6_in cX6_in 6 (some .boolean)) 3 := ⟨good_C tw_617, tw_618, tw_619, tw_620, by decide +kernel⟩
theorem tw_622 : Cond.constantLong RX6 73 3 ∈ TBL := tbl_4 (i := 217) (by decide +kernel) (by decide +kernel)
theorem tw_623 : Cond.fieldLink RX6 107 "PawnLaneModel" "end" "I" ∈ TBL := tbl_4 (i := 93) (by decide +kernel) (by decide +kernel)
theorem tw_624 : Cond.code yX6_here cX6_here 1 (some .int) ∈ TBL := tbl_4 (i := 237) (by decide +kernel) (by decide +kernel)
theorem tw_625 : Cond.methodLink RX6 110 yX6_here ∈ TBL := tbl_4 (i := 234) (by decide +kernel) (by decide +kernel)
theorem tw_626 : Cond.instanceMethod yX6_here ∈ TBL := tbl_4 (i := 236) (by decide +kernel) (by decide +kernel)
theorem tw_627 : Cond.selects RX6 yX6_here yX6_here ∈ TBL := tbl_sel (i := 28) (by decide +kernel) (by decide +kernel)
theorem vw_RX6_110 : VW RX6 110 RX6 yX6_here (.code yX6_here cX6_here 1 (some .int)) 0 := ⟨good_V tw_625 tw_626 tw_627 tw_618 tw_624, by decide +kernel⟩
theorem tw_629 : Cond.code yX6_isPawned cX6_isPawned 2 (some .boolean) ∈ TBL := tbl_5 (i := 37) (by decide +kernel) (by decide +kernel)
theorem tw_630 : Cond.methodLink RX6 143 yX6_isPawned ∈ TBL := tbl_5 (i := 34) (by decide +kernel) (by decide +kernel)
theorem tw_631 : Cond.instanceMethod yX6_isPawned ∈ TBL := tbl_5 (i := 36) (by decide +kernel) (by decide +kernel)
theorem tw_632 : Cond.selects RX6 yX6_isPawned yX6_isPawned ∈ TBL := tbl_sel (i := 35) (by decide +kernel) (by decide +kernel)
theorem vw_RX6_143 : VW RX6 143 RX6 yX6_isPawned (.code yX6_isPawned cX6_isPawned 2 (some .boolean)) 1 := ⟨good_V tw_630 tw_631 tw_632 tw_618 tw_629, by decide +kernel⟩
theorem tw_634 : Cond.code yX6_keepPast cX6_keepPast 2 none ∈ TBL := tbl_5 (i := 84) (by decide +kernel) (by decide +kernel)
theorem tw_635 : Cond.methodLink RX6 178 yX6_keepPast ∈ TBL := tbl_5 (i := 81) (by decide +kernel) (by decide +kernel)
theorem tw_636 : Cond.instanceMethod yX6_keepPast ∈ TBL := tbl_5 (i := 83) (by decide +kernel) (by decide +kernel)
theorem tw_637 : Cond.selects RX6 yX6_keepPast yX6_keepPast ∈ TBL := tbl_sel (i := 42) (by decide +kernel) (by decide +kernel)
theorem vw_RX6_178 : VW RX6 178 RX6 yX6_keepPast (.code yX6_keepPast cX6_keepPast 2 none) 0 := ⟨good_V tw_635 tw_636 tw_637 tw_618 tw_634, by decide +kernel⟩
theorem tw_639 : Cond.constantLong RX6 208 2 ∈ TBL := tbl_5 (i := 130) (by decide +kernel) (by decide +kernel)
theorem tw_640 : Cond.code yX6_copyLane cX6_copyLane 4 none ∈ TBL := tbl_5 (i := 134) (by decide +kernel) (by decide +kernel)
theorem tw_641 : Cond.methodLink RX6 210 yX6_copyLane ∈ TBL := tbl_5 (i := 131) (by decide +kernel) (by decide +kernel)
theorem tw_642 : Cond.instanceMethod yX6_copyLane ∈ TBL := tbl_5 (i := 133) (by decide +kernel) (by decide +kernel)
theorem tw_643 : Cond.selects RX6 yX6_copyLane yX6_copyLane ∈ TBL := tbl_sel (i := 49) (by decide +kernel) (by decide +kernel)
theorem vw_RX6_210 : VW RX6 210 RX6 yX6_copyLane (.code yX6_copyLane cX6_copyLane 4 none) 2 := ⟨good_V tw_641 tw_642 tw_643 tw_618 tw_640, by decide +kernel⟩
theorem tw_645 : Cond.code yX6_find cX6_find 2 (some .int) ∈ TBL := tbl_4 (i := 173) (by decide +kernel) (by decide +kernel)
theorem tw_646 : Cond.methodLink RX6 79 yX6_find ∈ TBL := tbl_4 (i := 170) (by decide +kernel) (by decide +kernel)
theorem tw_647 : Cond.instanceMethod yX6_find ∈ TBL := tbl_4 (i := 172) (by decide +kernel) (by decide +kernel)
theorem tw_648 : Cond.selects RX6 yX6_find yX6_find ∈ TBL := tbl_sel (i := 21) (by decide +kernel) (by decide +kernel)
theorem vw_RX6_79 : VW RX6 79 RX6 yX6_find (.code yX6_find cX6_find 2 (some .int)) 1 := ⟨good_V tw_646 tw_647 tw_648 tw_618 tw_645, by decide +kernel⟩
theorem tw_650 : Cond.code yX6_has cX6_has 2 (some .boolean) ∈ TBL := tbl_5 (i := 76) (by decide +kernel) (by decide +kernel)
theorem tw_651 : Cond.methodLink RX6 181 yX6_has ∈ TBL := tbl_5 (i := 74) (by decide +kernel) (by decide +kernel)
theorem tw_652 : Cond.static yX6_has ∈ TBL := tbl_5 (i := 75) (by decide +kernel) (by decide +kernel)
theorem sw_RX6_181 : SW RX6 181 yX6_has (.code yX6_has cX6_has 2 (some .boolean)) 2 := ⟨good_C tw_650, tw_618, tw_651, tw_652, by decide +kernel⟩
theorem tw_654 : Cond.fieldLink RX6 44 "PawnLaneModel" "due" "[I" ∈ TBL := tbl_4 (i := 99) (by decide +kernel) (by decide +kernel)
theorem tw_655 : Cond.fieldLink RX6 47 "PawnLaneModel" "cash" "[I" ∈ TBL := tbl_4 (i := 100) (by decide +kernel) (by decide +kernel)
theorem tw_656 : Cond.code yX6_isOf cX6_isOf 3 (some .boolean) ∈ TBL := tbl_5 (i := 49) (by decide +kernel) (by decide +kernel)
theorem tw_657 : Cond.methodLink RX6 160 yX6_isOf ∈ TBL := tbl_5 (i := 46) (by decide +kernel) (by decide +kernel)
theorem tw_658 : Cond.instanceMethod yX6_isOf ∈ TBL := tbl_5 (i := 48) (by decide +kernel) (by decide +kernel)
theorem tw_659 : Cond.selects RX6 yX6_isOf yX6_isOf ∈ TBL := tbl_sel (i := 37) (by decide +kernel) (by decide +kernel)
theorem vw_RX6_160 : VW RX6 160 RX6 yX6_isOf (.code yX6_isOf cX6_isOf 3 (some .boolean)) 2 := ⟨good_V tw_657 tw_658 tw_659 tw_618 tw_656, by decide +kernel⟩
theorem tw_661 : Cond.code yX6_isRow cX6_isRow 1 (some .boolean) ∈ TBL := tbl_4 (i := 165) (by decide +kernel) (by decide +kernel)
theorem tw_662 : Cond.methodLink RX6 75 yX6_isRow ∈ TBL := tbl_4 (i := 163) (by decide +kernel) (by decide +kernel)
theorem tw_663 : Cond.static yX6_isRow ∈ TBL := tbl_4 (i := 164) (by decide +kernel) (by decide +kernel)
theorem sw_RX6_75 : SW RX6 75 yX6_isRow (.code yX6_isRow cX6_isRow 1 (some .boolean)) 1 := ⟨good_C tw_661, tw_618, tw_662, tw_663, by decide +kernel⟩
theorem tw_665 : Cond.code yX6_makeRow cX6_makeRow 4 none ∈ TBL := tbl_4 (i := 177) (by decide +kernel) (by decide +kernel)
theorem tw_666 : Cond.methodLink RX6 83 yX6_makeRow ∈ TBL := tbl_4 (i := 174) (by decide +kernel) (by decide +kernel)
theorem tw_667 : Cond.instanceMethod yX6_makeRow ∈ TBL := tbl_4 (i := 176) (by decide +kernel) (by decide +kernel)
theorem tw_668 : Cond.selects RX6 yX6_makeRow yX6_makeRow ∈ TBL := tbl_sel (i := 22) (by decide +kernel) (by decide +kernel)
theorem vw_RX6_83 : VW RX6 83 RX6 yX6_makeRow (.code yX6_makeRow cX6_makeRow 4 none) 2 := ⟨good_V tw_666 tw_667 tw_668 tw_618 tw_665, by decide +kernel⟩
theorem tw_670 : Cond.code yX6_isSpan cX6_isSpan 4 (some .boolean) ∈ TBL := tbl_4 (i := 205) (by decide +kernel) (by decide +kernel)
theorem tw_671 : Cond.methodLink RX6 94 yX6_isSpan ∈ TBL := tbl_4 (i := 202) (by decide +kernel) (by decide +kernel)
theorem tw_672 : Cond.instanceMethod yX6_isSpan ∈ TBL := tbl_4 (i := 204) (by decide +kernel) (by decide +kernel)
theorem tw_673 : Cond.selects RX6 yX6_isSpan yX6_isSpan ∈ TBL := tbl_sel (i := 25) (by decide +kernel) (by decide +kernel)
theorem vw_RX6_94 : VW RX6 94 RX6 yX6_isSpan (.code yX6_isSpan cX6_isSpan 4 (some .boolean)) 3 := ⟨good_V tw_671 tw_672 tw_673 tw_618 tw_670, by decide +kernel⟩
theorem tw_675 : Cond.code yX6_tell cX6_tell 2 (some .int) ∈ TBL := tbl_4 (i := 189) (by decide +kernel) (by decide +kernel)
theorem tw_676 : Cond.methodLink RX6 91 yX6_tell ∈ TBL := tbl_4 (i := 186) (by decide +kernel) (by decide +kernel)
theorem tw_677 : Cond.instanceMethod yX6_tell ∈ TBL := tbl_4 (i := 188) (by decide +kernel) (by decide +kernel)
theorem tw_678 : Cond.selects RX6 yX6_tell yX6_tell ∈ TBL := tbl_sel (i := 24) (by decide +kernel) (by decide +kernel)
theorem vw_RX6_91 : VW RX6 91 RX6 yX6_tell (.code yX6_tell cX6_tell 2 (some .int)) 1 := ⟨good_V tw_676 tw_677 tw_678 tw_618 tw_675, by decide +kernel⟩
theorem tw_680 : Cond.code yX6_isText cX6_isText 1 (some .boolean) ∈ TBL := tbl_4 (i := 216) (by decide +kernel) (by decide +kernel)
theorem tw_681 : Cond.methodLink RX6 98 yX6_isText ∈ TBL := tbl_4 (i := 214) (by decide +kernel) (by decide +kernel)
theorem tw_682 : Cond.static yX6_isText ∈ TBL := tbl_4 (i := 215) (by decide +kernel) (by decide +kernel)
theorem sw_RX6_98 : SW RX6 98 yX6_isText (.code yX6_isText cX6_isText 1 (some .boolean)) 1 := ⟨good_C tw_680, tw_618, tw_681, tw_682, by decide +kernel⟩
theorem tw_684 : Cond.fieldLink RX6 117 "PawnLaneModel" "readMany" "I" ∈ TBL := tbl_4 (i := 95) (by decide +kernel) (by decide +kernel)
theorem tw_685 : Cond.fieldLink RX6 35 "PawnLaneModel" "readShops" "[I" ∈ TBL := tbl_4 (i := 94) (by decide +kernel) (by decide +kernel)
theorem tw_686 : Cond.code yX6_kindOfLetter cX6_kindOfLetter 1 (some .int) ∈ TBL := tbl_5 (i := 12) (by decide +kernel) (by decide +kernel)
theorem tw_687 : Cond.methodLink RX6 114 yX6_kindOfLetter ∈ TBL := tbl_5 (i := 10) (by decide +kernel) (by decide +kernel)
theorem tw_688 : Cond.static yX6_kindOfLetter ∈ TBL := tbl_5 (i := 11) (by decide +kernel) (by decide +kernel)
theorem sw_RX6_114 : SW RX6 114 yX6_kindOfLetter (.code yX6_kindOfLetter cX6_kindOfLetter 1 (some .int)) 1 := ⟨good_C tw_686, tw_618, tw_687, tw_688, by decide +kernel⟩
theorem tw_690 : Cond.fieldLink RX6 120 "PawnLaneModel" "readTickets" "I" ∈ TBL := tbl_4 (i := 96) (by decide +kernel) (by decide +kernel)
theorem tw_691 : Cond.code yX6_figure cX6_figure 4 (some .int) ∈ TBL := tbl_5 (i := 5) (by decide +kernel) (by decide +kernel)
theorem tw_692 : Cond.methodLink RX6 123 yX6_figure ∈ TBL := tbl_5 (i := 2) (by decide +kernel) (by decide +kernel)
theorem tw_693 : Cond.instanceMethod yX6_figure ∈ TBL := tbl_5 (i := 4) (by decide +kernel) (by decide +kernel)
theorem tw_694 : Cond.selects RX6 yX6_figure yX6_figure ∈ TBL := tbl_sel (i := 30) (by decide +kernel) (by decide +kernel)
theorem vw_RX6_123 : VW RX6 123 RX6 yX6_figure (.code yX6_figure cX6_figure 4 (some .int)) 3 := ⟨good_V tw_692 tw_693 tw_694 tw_618 tw_691, by decide +kernel⟩
theorem tw_696 : Cond.code yX6_dueIn cX6_dueIn 5 (some .int) ∈ TBL := tbl_5 (i := 33) (by decide +kernel) (by decide +kernel)
theorem tw_697 : Cond.methodLink RX6 146 yX6_dueIn ∈ TBL := tbl_5 (i := 30) (by decide +kernel) (by decide +kernel)
theorem tw_698 : Cond.instanceMethod yX6_dueIn ∈ TBL := tbl_5 (i := 32) (by decide +kernel) (by decide +kernel)
theorem tw_699 : Cond.selects RX6 yX6_dueIn yX6_dueIn ∈ TBL := tbl_sel (i := 34) (by decide +kernel) (by decide +kernel)
theorem vw_RX6_146 : VW RX6 146 RX6 yX6_dueIn (.code yX6_dueIn cX6_dueIn 5 (some .int)) 2 := ⟨good_V tw_697 tw_698 tw_699 tw_618 tw_696, by decide +kernel⟩
theorem tw_701 : Cond.code yX6_heldBy cX6_heldBy 4 (some .int) ∈ TBL := tbl_5 (i := 41) (by decide +kernel) (by decide +kernel)
theorem tw_702 : Cond.methodLink RX6 149 yX6_heldBy ∈ TBL := tbl_5 (i := 38) (by decide +kernel) (by decide +kernel)
theorem tw_703 : Cond.instanceMethod yX6_heldBy ∈ TBL := tbl_5 (i := 40) (by decide +kernel) (by decide +kernel)
theorem tw_704 : Cond.selects RX6 yX6_heldBy yX6_heldBy ∈ TBL := tbl_sel (i := 36) (by decide +kernel) (by decide +kernel)
theorem vw_RX6_149 : VW RX6 149 RX6 yX6_heldBy (.code yX6_heldBy cX6_heldBy 4 (some .int)) 1 := ⟨good_V tw_702 tw_703 tw_704 tw_618 tw_701, by decide +kernel⟩
theorem tw_706 : Cond.code yX6_isShop cX6_isShop 2 (some .boolean) ∈ TBL := tbl_5 (i := 24) (by decide +kernel) (by decide +kernel)
theorem tw_707 : Cond.methodLink RX6 152 yX6_isShop ∈ TBL := tbl_5 (i := 21) (by decide +kernel) (by decide +kernel)
theorem tw_708 : Cond.instanceMethod yX6_isShop ∈ TBL := tbl_5 (i := 23) (by decide +kernel) (by decide +kernel)
theorem tw_709 : Cond.selects RX6 yX6_isShop yX6_isShop ∈ TBL := tbl_sel (i := 32) (by decide +kernel) (by decide +kernel)
theorem vw_RX6_152 : VW RX6 152 RX6 yX6_isShop (.code yX6_isShop cX6_isShop 2 (some .boolean)) 1 := ⟨good_V tw_707 tw_708 tw_709 tw_618 tw_706, by decide +kernel⟩
theorem tw_711 : Cond.constantLong RX6 176 9 ∈ TBL := tbl_5 (i := 69) (by decide +kernel) (by decide +kernel)
theorem tw_712 : Cond.code yX6_doPawn cX6_doPawn 4 none ∈ TBL := tbl_5 (i := 92) (by decide +kernel) (by decide +kernel)
theorem tw_713 : Cond.methodLink RX6 187 yX6_doPawn ∈ TBL := tbl_5 (i := 89) (by decide +kernel) (by decide +kernel)
theorem tw_714 : Cond.instanceMethod yX6_doPawn ∈ TBL := tbl_5 (i := 91) (by decide +kernel) (by decide +kernel)
theorem tw_715 : Cond.selects RX6 yX6_doPawn yX6_doPawn ∈ TBL := tbl_sel (i := 43) (by decide +kernel) (by decide +kernel)
theorem vw_RX6_187 : VW RX6 187 RX6 yX6_doPawn (.code yX6_doPawn cX6_doPawn 4 none) 3 := ⟨good_V tw_713 tw_714 tw_715 tw_618 tw_712, by decide +kernel⟩
theorem tw_717 : Cond.code yX6_pawned cX6_pawned 3 (some .int) ∈ TBL := tbl_5 (i := 96) (by decide +kernel) (by decide +kernel)
theorem tw_718 : Cond.methodLink RX6 191 yX6_pawned ∈ TBL := tbl_5 (i := 93) (by decide +kernel) (by decide +kernel)
theorem tw_719 : Cond.instanceMethod yX6_pawned ∈ TBL := tbl_5 (i := 95) (by decide +kernel) (by decide +kernel)
theorem tw_720 : Cond.selects RX6 yX6_pawned yX6_pawned ∈ TBL := tbl_sel (i := 44) (by decide +kernel) (by decide +kernel)
theorem vw_RX6_191 : VW RX6 191 RX6 yX6_pawned (.code yX6_pawned cX6_pawned 3 (some .int)) 0 := ⟨good_V tw_718 tw_719 tw_720 tw_618 tw_717, by decide +kernel⟩
theorem tw_722 : Cond.code yX6_bits cX6_bits 3 (some .int) ∈ TBL := tbl_5 (i := 60) (by decide +kernel) (by decide +kernel)
theorem tw_723 : Cond.methodLink RX6 170 yX6_bits ∈ TBL := tbl_5 (i := 58) (by decide +kernel) (by decide +kernel)
theorem tw_724 : Cond.static yX6_bits ∈ TBL := tbl_5 (i := 59) (by decide +kernel) (by decide +kernel)
theorem sw_RX6_170 : SW RX6 170 yX6_bits (.code yX6_bits cX6_bits 3 (some .int)) 1 := ⟨good_C tw_722, tw_618, tw_723, tw_724, by decide +kernel⟩
theorem tw_726 : Cond.constantLong RX6 203 99 ∈ TBL := tbl_5 (i := 117) (by decide +kernel) (by decide +kernel)
theorem tw_727 : Cond.code yX6_doGive cX6_doGive 3 (some .int) ∈ TBL := tbl_5 (i := 121) (by decide +kernel) (by decide +kernel)
theorem tw_728 : Cond.methodLink RX6 205 yX6_doGive ∈ TBL := tbl_5 (i := 118) (by decide +kernel) (by decide +kernel)
theorem tw_729 : Cond.instanceMethod yX6_doGive ∈ TBL := tbl_5 (i := 120) (by decide +kernel) (by decide +kernel)
theorem tw_730 : Cond.selects RX6 yX6_doGive yX6_doGive ∈ TBL := tbl_sel (i := 48) (by decide +kernel) (by decide +kernel)
theorem vw_RX6_205 : VW RX6 205 RX6 yX6_doGive (.code yX6_doGive cX6_doGive 3 (some .int)) 2 := ⟨good_V tw_728 tw_729 tw_730 tw_618 tw_727, by decide +kernel⟩
theorem tw_732 : Cond.code yX6_insideOf cX6_insideOf 5 (some .int) ∈ TBL := tbl_5 (i := 150) (by decide +kernel) (by decide +kernel)
theorem tw_733 : Cond.methodLink RX6 213 yX6_insideOf ∈ TBL := tbl_5 (i := 147) (by decide +kernel) (by decide +kernel)
theorem tw_734 : Cond.instanceMethod yX6_insideOf ∈ TBL := tbl_5 (i := 149) (by decide +kernel) (by decide +kernel)
theorem tw_735 : Cond.selects RX6 yX6_insideOf yX6_insideOf ∈ TBL := tbl_sel (i := 50) (by decide +kernel) (by decide +kernel)
theorem vw_RX6_213 : VW RX6 213 RX6 yX6_insideOf (.code yX6_insideOf cX6_insideOf 5 (some .int)) 1 := ⟨good_V tw_733 tw_734 tw_735 tw_618 tw_732, by decide +kernel⟩
theorem tw_737 : Cond.code yX6_ringOf cX6_ringOf 4 (some .int) ∈ TBL := tbl_5 (i := 158) (by decide +kernel) (by decide +kernel)
theorem tw_738 : Cond.methodLink RX6 216 yX6_ringOf ∈ TBL := tbl_5 (i := 155) (by decide +kernel) (by decide +kernel)
theorem tw_739 : Cond.instanceMethod yX6_ringOf ∈ TBL := tbl_5 (i := 157) (by decide +kernel) (by decide +kernel)
theorem tw_740 : Cond.selects RX6 yX6_ringOf yX6_ringOf ∈ TBL := tbl_sel (i := 51) (by decide +kernel) (by decide +kernel)
theorem vw_RX6_216 : VW RX6 216 RX6 yX6_ringOf (.code yX6_ringOf cX6_ringOf 4 (some .int)) 1 := ⟨good_V tw_738 tw_739 tw_740 tw_618 tw_737, by decide +kernel⟩
theorem tw_742 : Cond.fieldLink RX6 38 "PawnLaneModel" "chalked" "[I" ∈ TBL := tbl_4 (i := 97) (by decide +kernel) (by decide +kernel)
theorem tw_743 : Cond.fieldLink RX6 41 "PawnLaneModel" "more" "[I" ∈ TBL := tbl_4 (i := 98) (by decide +kernel) (by decide +kernel)
theorem tw_744 : Cond.constantLong RX6 155 6 ∈ TBL := tbl_5 (i := 25) (by decide +kernel) (by decide +kernel)
theorem tw_745 : Cond.fieldLink RX6 219 "PawnLaneModel" "all" "I" ∈ TBL := tbl_4 (i := 101) (by decide +kernel) (by decide +kernel)
theorem tw_746 : Cond.code yX6_cashBy cX6_cashBy 5 (some .int) ∈ TBL := tbl_5 (i := 198) (by decide +kernel) (by decide +kernel)
theorem tw_747 : Cond.methodLink RX6 222 yX6_cashBy ∈ TBL := tbl_5 (i := 195) (by decide +kernel) (by decide +kernel)
theorem tw_748 : Cond.instanceMethod yX6_cashBy ∈ TBL := tbl_5 (i := 197) (by decide +kernel) (by decide +kernel)
theorem tw_749 : Cond.selects RX6 yX6_cashBy yX6_cashBy ∈ TBL := tbl_sel (i := 55) (by decide +kernel) (by decide +kernel)
theorem vw_RX6_222 : VW RX6 222 RX6 yX6_cashBy (.code yX6_cashBy cX6_cashBy 5 (some .int)) 2 := ⟨good_V tw_747 tw_748 tw_749 tw_618 tw_746, by decide +kernel⟩
theorem tw_751 : Cond.code yX6_refused cX6_refused 3 (some .int) ∈ TBL := tbl_4 (i := 185) (by decide +kernel) (by decide +kernel)
theorem tw_752 : Cond.methodLink RX6 87 yX6_refused ∈ TBL := tbl_4 (i := 182) (by decide +kernel) (by decide +kernel)
theorem tw_753 : Cond.instanceMethod yX6_refused ∈ TBL := tbl_4 (i := 184) (by decide +kernel) (by decide +kernel)
theorem tw_754 : Cond.selects RX6 yX6_refused yX6_refused ∈ TBL := tbl_sel (i := 23) (by decide +kernel) (by decide +kernel)
theorem vw_RX6_87 : VW RX6 87 RX6 yX6_refused (.code yX6_refused cX6_refused 3 (some .int)) 2 := ⟨good_V tw_752 tw_753 tw_754 tw_618 tw_751, by decide +kernel⟩
theorem tw_756 : Cond.code yX6_skip cX6_skip 1 none ∈ TBL := tbl_4 (i := 233) (by decide +kernel) (by decide +kernel)
theorem tw_757 : Cond.methodLink RX6 127 yX6_skip ∈ TBL := tbl_4 (i := 230) (by decide +kernel) (by decide +kernel)
theorem tw_758 : Cond.instanceMethod yX6_skip ∈ TBL := tbl_4 (i := 232) (by decide +kernel) (by decide +kernel)
theorem tw_759 : Cond.selects RX6 yX6_skip yX6_skip ∈ TBL := tbl_sel (i := 27) (by decide +kernel) (by decide +kernel)
theorem vw_RX6_127 : VW RX6 127 RX6 yX6_skip (.code yX6_skip cX6_skip 1 none) 0 := ⟨good_V tw_757 tw_758 tw_759 tw_618 tw_756, by decide +kernel⟩
theorem tw_761 : Cond.code yX6_readsShop cX6_readsShop 5 (some .boolean) ∈ TBL := tbl_5 (i := 9) (by decide +kernel) (by decide +kernel)
theorem tw_762 : Cond.methodLink RX6 134 yX6_readsShop ∈ TBL := tbl_5 (i := 6) (by decide +kernel) (by decide +kernel)
theorem tw_763 : Cond.instanceMethod yX6_readsShop ∈ TBL := tbl_5 (i := 8) (by decide +kernel) (by decide +kernel)
theorem tw_764 : Cond.selects RX6 yX6_readsShop yX6_readsShop ∈ TBL := tbl_sel (i := 31) (by decide +kernel) (by decide +kernel)
theorem vw_RX6_134 : VW RX6 134 RX6 yX6_readsShop (.code yX6_readsShop cX6_readsShop 5 (some .boolean)) 0 := ⟨good_V tw_762 tw_763 tw_764 tw_618 tw_761, by decide +kernel⟩
theorem tw_766 : Cond.code yX6_readsTicket cX6_readsTicket 4 (some .boolean) ∈ TBL := tbl_5 (i := 1) (by decide +kernel) (by decide +kernel)
theorem tw_767 : Cond.methodLink RX6 130 yX6_readsTicket ∈ TBL := tbl_4 (i := 238) (by decide +kernel) (by decide +kernel)
theorem tw_768 : Cond.instanceMethod yX6_readsTicket ∈ TBL := tbl_5 (i := 0) (by decide +kernel) (by decide +kernel)
theorem tw_769 : Cond.selects RX6 yX6_readsTicket yX6_readsTicket ∈ TBL := tbl_sel (i := 29) (by decide +kernel) (by decide +kernel)
theorem vw_RX6_130 : VW RX6 130 RX6 yX6_readsTicket (.code yX6_readsTicket cX6_readsTicket 4 (some .boolean)) 0 := ⟨good_V tw_767 tw_768 tw_769 tw_618 tw_766, by decide +kernel⟩
theorem tw_771 : Cond.code yX6_toldOf cX6_toldOf 3 (some .int) ∈ TBL := tbl_5 (i := 29) (by decide +kernel) (by decide +kernel)
theorem tw_772 : Cond.methodLink RX6 157 yX6_toldOf ∈ TBL := tbl_5 (i := 26) (by decide +kernel) (by decide +kernel)
theorem tw_773 : Cond.instanceMethod yX6_toldOf ∈ TBL := tbl_5 (i := 28) (by decide +kernel) (by decide +kernel)
theorem tw_774 : Cond.selects RX6 yX6_toldOf yX6_toldOf ∈ TBL := tbl_sel (i := 33) (by decide +kernel) (by decide +kernel)
theorem vw_RX6_157 : VW RX6 157 RX6 yX6_toldOf (.code yX6_toldOf cX6_toldOf 3 (some .int)) 2 := ⟨good_V tw_772 tw_773 tw_774 tw_618 tw_771, by decide +kernel⟩
theorem tw_776 : Cond.code yX6_loansTo cX6_loansTo 4 (some .int) ∈ TBL := tbl_5 (i := 53) (by decide +kernel) (by decide +kernel)
theorem tw_777 : Cond.methodLink RX6 164 yX6_loansTo ∈ TBL := tbl_5 (i := 50) (by decide +kernel) (by decide +kernel)
theorem tw_778 : Cond.instanceMethod yX6_loansTo ∈ TBL := tbl_5 (i := 52) (by decide +kernel) (by decide +kernel)
theorem tw_779 : Cond.selects RX6 yX6_loansTo yX6_loansTo ∈ TBL := tbl_sel (i := 38) (by decide +kernel) (by decide +kernel)
theorem vw_RX6_164 : VW RX6 164 RX6 yX6_loansTo (.code yX6_loansTo cX6_loansTo 4 (some .int)) 1 := ⟨good_V tw_777 tw_778 tw_779 tw_618 tw_776, by decide +kernel⟩
theorem tw_781 : Cond.code yX6_dueTo cX6_dueTo 5 (some .int) ∈ TBL := tbl_5 (i := 57) (by decide +kernel) (by decide +kernel)
theorem tw_782 : Cond.methodLink RX6 167 yX6_dueTo ∈ TBL := tbl_5 (i := 54) (by decide +kernel) (by decide +kernel)
theorem tw_783 : Cond.instanceMethod yX6_dueTo ∈ TBL := tbl_5 (i := 56) (by decide +kernel) (by decide +kernel)
theorem tw_784 : Cond.selects RX6 yX6_dueTo yX6_dueTo ∈ TBL := tbl_sel (i := 39) (by decide +kernel) (by decide +kernel)
theorem vw_RX6_167 : VW RX6 167 RX6 yX6_dueTo (.code yX6_dueTo cX6_dueTo 5 (some .int)) 2 := ⟨good_V tw_782 tw_783 tw_784 tw_618 tw_781, by decide +kernel⟩
theorem tw_786 : Cond.code yX6_canNow cX6_canNow 3 (some .int) ∈ TBL := tbl_5 (i := 64) (by decide +kernel) (by decide +kernel)
theorem tw_787 : Cond.methodLink RX6 173 yX6_canNow ∈ TBL := tbl_5 (i := 61) (by decide +kernel) (by decide +kernel)
theorem tw_788 : Cond.instanceMethod yX6_canNow ∈ TBL := tbl_5 (i := 63) (by decide +kernel) (by decide +kernel)
theorem tw_789 : Cond.selects RX6 yX6_canNow yX6_canNow ∈ TBL := tbl_sel (i := 40) (by decide +kernel) (by decide +kernel)
theorem vw_RX6_173 : VW RX6 173 RX6 yX6_canNow (.code yX6_canNow cX6_canNow 3 (some .int)) 0 := ⟨good_V tw_787 tw_788 tw_789 tw_618 tw_786, by decide +kernel⟩
theorem tw_791 : Cond.code yX6_doRedeem cX6_doRedeem 3 (some .int) ∈ TBL := tbl_5 (i := 80) (by decide +kernel) (by decide +kernel)
theorem tw_792 : Cond.methodLink RX6 184 yX6_doRedeem ∈ TBL := tbl_5 (i := 77) (by decide +kernel) (by decide +kernel)
theorem tw_793 : Cond.instanceMethod yX6_doRedeem ∈ TBL := tbl_5 (i := 79) (by decide +kernel) (by decide +kernel)
theorem tw_794 : Cond.selects RX6 yX6_doRedeem yX6_doRedeem ∈ TBL := tbl_sel (i := 41) (by decide +kernel) (by decide +kernel)
theorem vw_RX6_184 : VW RX6 184 RX6 yX6_doRedeem (.code yX6_doRedeem cX6_doRedeem 3 (some .int)) 1 := ⟨good_V tw_792 tw_793 tw_794 tw_618 tw_791, by decide +kernel⟩
theorem tw_796 : Cond.code yX6_isOld cX6_isOld 2 (some .boolean) ∈ TBL := tbl_5 (i := 104) (by decide +kernel) (by decide +kernel)
theorem tw_797 : Cond.methodLink RX6 194 yX6_isOld ∈ TBL := tbl_5 (i := 101) (by decide +kernel) (by decide +kernel)
theorem tw_798 : Cond.instanceMethod yX6_isOld ∈ TBL := tbl_5 (i := 103) (by decide +kernel) (by decide +kernel)
theorem tw_799 : Cond.selects RX6 yX6_isOld yX6_isOld ∈ TBL := tbl_sel (i := 45) (by decide +kernel) (by decide +kernel)
theorem vw_RX6_194 : VW RX6 194 RX6 yX6_isOld (.code yX6_isOld cX6_isOld 2 (some .boolean)) 0 := ⟨good_V tw_797 tw_798 tw_799 tw_618 tw_796, by decide +kernel⟩
theorem tw_801 : Cond.code yX6_doWeek cX6_doWeek 2 none ∈ TBL := tbl_5 (i := 108) (by decide +kernel) (by decide +kernel)
theorem tw_802 : Cond.methodLink RX6 197 yX6_doWeek ∈ TBL := tbl_5 (i := 105) (by decide +kernel) (by decide +kernel)
theorem tw_803 : Cond.instanceMethod yX6_doWeek ∈ TBL := tbl_5 (i := 107) (by decide +kernel) (by decide +kernel)
theorem tw_804 : Cond.selects RX6 yX6_doWeek yX6_doWeek ∈ TBL := tbl_sel (i := 46) (by decide +kernel) (by decide +kernel)
theorem vw_RX6_197 : VW RX6 197 RX6 yX6_doWeek (.code yX6_doWeek cX6_doWeek 2 none) 0 := ⟨good_V tw_802 tw_803 tw_804 tw_618 tw_801, by decide +kernel⟩
theorem tw_806 : Cond.code yX6_dueInAll cX6_dueInAll 3 (some .int) ∈ TBL := tbl_5 (i := 112) (by decide +kernel) (by decide +kernel)
theorem tw_807 : Cond.methodLink RX6 200 yX6_dueInAll ∈ TBL := tbl_5 (i := 109) (by decide +kernel) (by decide +kernel)
theorem tw_808 : Cond.instanceMethod yX6_dueInAll ∈ TBL := tbl_5 (i := 111) (by decide +kernel) (by decide +kernel)
theorem tw_809 : Cond.selects RX6 yX6_dueInAll yX6_dueInAll ∈ TBL := tbl_sel (i := 47) (by decide +kernel) (by decide +kernel)
theorem vw_RX6_200 : VW RX6 200 RX6 yX6_dueInAll (.code yX6_dueInAll cX6_dueInAll 3 (some .int)) 0 := ⟨good_V tw_807 tw_808 tw_809 tw_618 tw_806, by decide +kernel⟩
theorem tw_811 : Cond.fieldLink RX6 50 "PawnLaneModel" "ways" "[J" ∈ TBL := tbl_4 (i := 102) (by decide +kernel) (by decide +kernel)
theorem tw_812 : Cond.code yX6_next cX6_next 3 (some .boolean) ∈ TBL := tbl_5 (i := 194) (by decide +kernel) (by decide +kernel)
theorem tw_813 : Cond.methodLink RX6 225 yX6_next ∈ TBL := tbl_5 (i := 191) (by decide +kernel) (by decide +kernel)
theorem tw_814 : Cond.instanceMethod yX6_next ∈ TBL := tbl_5 (i := 193) (by decide +kernel) (by decide +kernel)
theorem tw_815 : Cond.selects RX6 yX6_next yX6_next ∈ TBL := tbl_sel (i := 54) (by decide +kernel) (by decide +kernel)
theorem vw_RX6_225 : VW RX6 225 RX6 yX6_next (.code yX6_next cX6_next 3 (some .boolean)) 2 := ⟨good_V tw_813 tw_814 tw_815 tw_618 tw_812, by decide +kernel⟩
theorem tw_817 : Cond.fieldLink RX6 54 "PawnLaneModel" "on" "[J" ∈ TBL := tbl_4 (i := 103) (by decide +kernel) (by decide +kernel)
theorem tw_818 : Cond.fieldLink RX6 57 "PawnLaneModel" "soon" "[I" ∈ TBL := tbl_4 (i := 104) (by decide +kernel) (by decide +kernel)
theorem tw_819 : Cond.code yX6_layTried cX6_layTried 4 none ∈ TBL := tbl_5 (i := 186) (by decide +kernel) (by decide +kernel)
theorem tw_820 : Cond.methodLink RX6 231 yX6_layTried ∈ TBL := tbl_5 (i := 183) (by decide +kernel) (by decide +kernel)
theorem tw_821 : Cond.instanceMethod yX6_layTried ∈ TBL := tbl_5 (i := 185) (by decide +kernel) (by decide +kernel)
theorem tw_822 : Cond.selects RX6 yX6_layTried yX6_layTried ∈ TBL := tbl_sel (i := 52) (by decide +kernel) (by decide +kernel)
theorem vw_RX6_231 : VW RX6 231 RX6 yX6_layTried (.code yX6_layTried cX6_layTried 4 none) 2 := ⟨good_V tw_820 tw_821 tw_822 tw_618 tw_819, by decide +kernel⟩
theorem tw_824 : Cond.code yX6_noRow cX6_noRow 6 (some .int) ∈ TBL := tbl_5 (i := 238) (by decide +kernel) (by decide +kernel)
theorem tw_825 : Cond.methodLink RX6 247 yX6_noRow ∈ TBL := tbl_5 (i := 235) (by decide +kernel) (by decide +kernel)
theorem tw_826 : Cond.instanceMethod yX6_noRow ∈ TBL := tbl_5 (i := 237) (by decide +kernel) (by decide +kernel)
theorem tw_827 : Cond.selects RX6 yX6_noRow yX6_noRow ∈ TBL := tbl_sel (i := 59) (by decide +kernel) (by decide +kernel)
theorem vw_RX6_247 : VW RX6 247 RX6 yX6_noRow (.code yX6_noRow cX6_noRow 6 (some .int)) 3 := ⟨good_V tw_825 tw_826 tw_827 tw_618 tw_824, by decide +kernel⟩
theorem tw_829 : Cond.constantLong RX6 256 16 ∈ TBL := tbl_6 (i := 32) (by decide +kernel) (by decide +kernel)
theorem tw_830 : Cond.constantLong RX6 258 256 ∈ TBL := tbl_6 (i := 33) (by decide +kernel) (by decide +kernel)
theorem tw_831 : Cond.code yX6_cashOfAll cX6_cashOfAll 3 (some .int) ∈ TBL := tbl_6 (i := 58) (by decide +kernel) (by decide +kernel)
theorem tw_832 : Cond.methodLink RX6 272 yX6_cashOfAll ∈ TBL := tbl_6 (i := 55) (by decide +kernel) (by decide +kernel)
theorem tw_833 : Cond.instanceMethod yX6_cashOfAll ∈ TBL := tbl_6 (i := 57) (by decide +kernel) (by decide +kernel)
theorem tw_834 : Cond.selects RX6 yX6_cashOfAll yX6_cashOfAll ∈ TBL := tbl_sel (i := 63) (by decide +kernel) (by decide +kernel)
theorem vw_RX6_272 : VW RX6 272 RX6 yX6_cashOfAll (.code yX6_cashOfAll cX6_cashOfAll 3 (some .int)) 0 := ⟨good_V tw_832 tw_833 tw_834 tw_618 tw_831, by decide +kernel⟩
theorem tw_836 : Cond.code yX6_hawks cX6_hawks 3 (some .int) ∈ TBL := tbl_6 (i := 62) (by decide +kernel) (by decide +kernel)
theorem tw_837 : Cond.methodLink RX6 275 yX6_hawks ∈ TBL := tbl_6 (i := 59) (by decide +kernel) (by decide +kernel)
theorem tw_838 : Cond.instanceMethod yX6_hawks ∈ TBL := tbl_6 (i := 61) (by decide +kernel) (by decide +kernel)
theorem tw_839 : Cond.selects RX6 yX6_hawks yX6_hawks ∈ TBL := tbl_sel (i := 64) (by decide +kernel) (by decide +kernel)
theorem vw_RX6_275 : VW RX6 275 RX6 yX6_hawks (.code yX6_hawks cX6_hawks 3 (some .int)) 0 := ⟨good_V tw_837 tw_838 tw_839 tw_618 tw_836, by decide +kernel⟩
theorem tw_841 : Cond.code yX6_thereOf cX6_thereOf 4 (some .int) ∈ TBL := tbl_6 (i := 66) (by decide +kernel) (by decide +kernel)
theorem tw_842 : Cond.methodLink RX6 278 yX6_thereOf ∈ TBL := tbl_6 (i := 63) (by decide +kernel) (by decide +kernel)
theorem tw_843 : Cond.instanceMethod yX6_thereOf ∈ TBL := tbl_6 (i := 65) (by decide +kernel) (by decide +kernel)
theorem tw_844 : Cond.selects RX6 yX6_thereOf yX6_thereOf ∈ TBL := tbl_sel (i := 65) (by decide +kernel) (by decide +kernel)
theorem vw_RX6_278 : VW RX6 278 RX6 yX6_thereOf (.code yX6_thereOf cX6_thereOf 4 (some .int)) 1 := ⟨good_V tw_842 tw_843 tw_844 tw_618 tw_841, by decide +kernel⟩
theorem tw_846 : Cond.code yX6_faultOf cX6_faultOf 3 (some .int) ∈ TBL := tbl_4 (i := 229) (by decide +kernel) (by decide +kernel)
theorem tw_847 : Cond.methodLink RX6 137 yX6_faultOf ∈ TBL := tbl_4 (i := 226) (by decide +kernel) (by decide +kernel)
theorem tw_848 : Cond.instanceMethod yX6_faultOf ∈ TBL := tbl_4 (i := 228) (by decide +kernel) (by decide +kernel)
theorem tw_849 : Cond.selects RX6 yX6_faultOf yX6_faultOf ∈ TBL := tbl_sel (i := 26) (by decide +kernel) (by decide +kernel)
theorem vw_RX6_137 : VW RX6 137 RX6 yX6_faultOf (.code yX6_faultOf cX6_faultOf 3 (some .int)) 1 := ⟨good_V tw_847 tw_848 tw_849 tw_618 tw_846, by decide +kernel⟩
theorem tw_851 : Cond.code yX6_layWays cX6_layWays 3 none ∈ TBL := tbl_5 (i := 206) (by decide +kernel) (by decide +kernel)
theorem tw_852 : Cond.methodLink RX6 228 yX6_layWays ∈ TBL := tbl_5 (i := 203) (by decide +kernel) (by decide +kernel)
theorem tw_853 : Cond.instanceMethod yX6_layWays ∈ TBL := tbl_5 (i := 205) (by decide +kernel) (by decide +kernel)
theorem tw_854 : Cond.selects RX6 yX6_layWays yX6_layWays ∈ TBL := tbl_sel (i := 56) (by decide +kernel) (by decide +kernel)
theorem vw_RX6_228 : VW RX6 228 RX6 yX6_layWays (.code yX6_layWays cX6_layWays 3 none) 0 := ⟨good_V tw_852 tw_853 tw_854 tw_618 tw_851, by decide +kernel⟩
theorem tw_856 : Cond.code yX6_layOn cX6_layOn 3 none ∈ TBL := tbl_5 (i := 190) (by decide +kernel) (by decide +kernel)
theorem tw_857 : Cond.methodLink RX6 234 yX6_layOn ∈ TBL := tbl_5 (i := 187) (by decide +kernel) (by decide +kernel)
theorem tw_858 : Cond.instanceMethod yX6_layOn ∈ TBL := tbl_5 (i := 189) (by decide +kernel) (by decide +kernel)
theorem tw_859 : Cond.selects RX6 yX6_layOn yX6_layOn ∈ TBL := tbl_sel (i := 53) (by decide +kernel) (by decide +kernel)
theorem vw_RX6_234 : VW RX6 234 RX6 yX6_layOn (.code yX6_layOn cX6_layOn 3 none) 0 := ⟨good_V tw_857 tw_858 tw_859 tw_618 tw_856, by decide +kernel⟩
theorem tw_861 : Cond.code yX6_tellMany cX6_tellMany 3 (some .int) ∈ TBL := tbl_5 (i := 210) (by decide +kernel) (by decide +kernel)
theorem tw_862 : Cond.methodLink RX6 240 yX6_tellMany ∈ TBL := tbl_5 (i := 207) (by decide +kernel) (by decide +kernel)
theorem tw_863 : Cond.instanceMethod yX6_tellMany ∈ TBL := tbl_5 (i := 209) (by decide +kernel) (by decide +kernel)
theorem tw_864 : Cond.selects RX6 yX6_tellMany yX6_tellMany ∈ TBL := tbl_sel (i := 57) (by decide +kernel) (by decide +kernel)
theorem vw_RX6_240 : VW RX6 240 RX6 yX6_tellMany (.code yX6_tellMany cX6_tellMany 3 (some .int)) 1 := ⟨good_V tw_862 tw_863 tw_864 tw_618 tw_861, by decide +kernel⟩
theorem tw_866 : Cond.constantLong RX6 264 48271 ∈ TBL := tbl_6 (i := 26) (by decide +kernel) (by decide +kernel)
theorem tw_867 : Cond.constantLong RX6 266 2147483647 ∈ TBL := tbl_6 (i := 27) (by decide +kernel) (by decide +kernel)
theorem tw_868 : Cond.code yX6_doLot cX6_doLot 6 none ∈ TBL := tbl_6 (i := 31) (by decide +kernel) (by decide +kernel)
theorem tw_869 : Cond.methodLink RX6 268 yX6_doLot ∈ TBL := tbl_6 (i := 28) (by decide +kernel) (by decide +kernel)
theorem tw_870 : Cond.instanceMethod yX6_doLot ∈ TBL := tbl_6 (i := 30) (by decide +kernel) (by decide +kernel)
theorem tw_871 : Cond.selects RX6 yX6_doLot yX6_doLot ∈ TBL := tbl_sel (i := 61) (by decide +kernel) (by decide +kernel)
theorem vw_RX6_268 : VW RX6 268 RX6 yX6_doLot (.code yX6_doLot cX6_doLot 6 none) 1 := ⟨good_V tw_869 tw_870 tw_871 tw_618 tw_868, by decide +kernel⟩
theorem tw_873 : Cond.constantLong RX6 260 20 ∈ TBL := tbl_6 (i := 24) (by decide +kernel) (by decide +kernel)
theorem tw_874 : Cond.constantLong RX6 262 2147483646 ∈ TBL := tbl_6 (i := 25) (by decide +kernel) (by decide +kernel)
theorem tw_875 : Cond.constantLong RX6 281 8 ∈ TBL := tbl_6 (i := 50) (by decide +kernel) (by decide +kernel)
theorem tw_876 : Cond.code yX6_countOf cX6_countOf 2 (some .int) ∈ TBL := tbl_6 (i := 54) (by decide +kernel) (by decide +kernel)
theorem tw_877 : Cond.methodLink RX6 283 yX6_countOf ∈ TBL := tbl_6 (i := 51) (by decide +kernel) (by decide +kernel)
theorem tw_878 : Cond.instanceMethod yX6_countOf ∈ TBL := tbl_6 (i := 53) (by decide +kernel) (by decide +kernel)
theorem tw_879 : Cond.selects RX6 yX6_countOf yX6_countOf ∈ TBL := tbl_sel (i := 62) (by decide +kernel) (by decide +kernel)
theorem vw_RX6_283 : VW RX6 283 RX6 yX6_countOf (.code yX6_countOf cX6_countOf 2 (some .int)) 1 := ⟨good_V tw_877 tw_878 tw_879 tw_618 tw_876, by decide +kernel⟩
theorem tw_881 : Cond.constantLong RX6 288 31 ∈ TBL := tbl_6 (i := 80) (by decide +kernel) (by decide +kernel)
theorem tw_882 : Cond.constantLong RX6 286 17 ∈ TBL := tbl_6 (i := 79) (by decide +kernel) (by decide +kernel)
theorem tw_883 : Cond.code yX6_canAll cX6_canAll 1 (some .boolean) ∈ TBL := tbl_5 (i := 222) (by decide +kernel) (by decide +kernel)
theorem tw_884 : Cond.methodLink RX6 244 yX6_canAll ∈ TBL := tbl_5 (i := 219) (by decide +kernel) (by decide +kernel)
theorem tw_885 : Cond.instanceMethod yX6_canAll ∈ TBL := tbl_5 (i := 221) (by decide +kernel) (by decide +kernel)
theorem tw_886 : Cond.selects RX6 yX6_canAll yX6_canAll ∈ TBL := tbl_sel (i := 58) (by decide +kernel) (by decide +kernel)
theorem vw_RX6_244 : VW RX6 244 RX6 yX6_canAll (.code yX6_canAll cX6_canAll 1 (some .boolean)) 0 := ⟨good_V tw_884 tw_885 tw_886 tw_618 tw_883, by decide +kernel⟩
theorem tw_888 : Cond.code yX6_tellParts cX6_tellParts 11 (some .int) ∈ TBL := tbl_6 (i := 19) (by decide +kernel) (by decide +kernel)
theorem tw_889 : Cond.methodLink RX6 252 yX6_tellParts ∈ TBL := tbl_6 (i := 16) (by decide +kernel) (by decide +kernel)
theorem tw_890 : Cond.instanceMethod yX6_tellParts ∈ TBL := tbl_6 (i := 18) (by decide +kernel) (by decide +kernel)
theorem tw_891 : Cond.selects RX6 yX6_tellParts yX6_tellParts ∈ TBL := tbl_sel (i := 60) (by decide +kernel) (by decide +kernel)
theorem vw_RX6_252 : VW RX6 252 RX6 yX6_tellParts (.code yX6_tellParts cX6_tellParts 11 (some .int)) 2 := ⟨good_V tw_889 tw_890 tw_891 tw_618 tw_888, by decide +kernel⟩
theorem tw_893 : Cond.constantLong RX6 250 12 ∈ TBL := tbl_6 (i := 15) (by decide +kernel) (by decide +kernel)
end
section
theorem dJ6_numberOfTrailingZeros_0f7a4_0 : decode cJ6_numberOfTrailingZeros_0f7a4 0 = .ok (.iload_n 0, 1) := by decide +kernel
theorem dJ6_numberOfTrailingZeros_0f7a4_1 : decode cJ6_numberOfTrailingZeros_0f7a4 1 = .ok (.iconst (-1), 1) := by decide +kernel
theorem dJ6_numberOfTrailingZeros_0f7a4_2 : decode cJ6_numberOfTrailingZeros_0f7a4 2 = .ok (.ixor, 1) := by decide +kernel
theorem dJ6_numberOfTrailingZeros_0f7a4_3 : decode cJ6_numberOfTrailingZeros_0f7a4 3 = .ok (.iload_n 0, 1) := by decide +kernel
theorem dJ6_numberOfTrailingZeros_0f7a4_4 : decode cJ6_numberOfTrailingZeros_0f7a4 4 = .ok (.iconst 1, 1) := by decide +kernel
theorem dJ6_numberOfTrailingZeros_0f7a4_5 : decode cJ6_numberOfTrailingZeros_0f7a4 5 = .ok (.isub, 1) := by decide +kernel
theorem dJ6_numberOfTrailingZeros_0f7a4_6 : decode cJ6_numberOfTrailingZeros_0f7a4 6 = .ok (.iand, 1) := by decide +kernel
theorem dJ6_numberOfTrailingZeros_0f7a4_7 : decode cJ6_numberOfTrailingZeros_0f7a4 7 = .ok (.istore_n 0, 1) := by decide +kernel
theorem dJ6_numberOfTrailingZeros_0f7a4_8 : decode cJ6_numberOfTrailingZeros_0f7a4 8 = .ok (.iload_n 0, 1) := by decide +kernel
theorem dJ6_numberOfTrailingZeros_0f7a4_9 : decode cJ6_numberOfTrailingZeros_0f7a4 9 = .ok (.ifCond .gt 8, 3) := by decide +kernel
theorem dJ6_numberOfTrailingZeros_0f7a4_12 : decode cJ6_numberOfTrailingZeros_0f7a4 12 = .ok (.iload_n 0, 1) := by decide +kernel
theorem dJ6_numberOfTrailingZeros_0f7a4_13 : decode cJ6_numberOfTrailingZeros_0f7a4 13 = .ok (.bipush 32, 2) := by decide +kernel
theorem dJ6_numberOfTrailingZeros_0f7a4_15 : decode cJ6_numberOfTrailingZeros_0f7a4 15 = .ok (.iand, 1) := by decide +kernel
theorem dJ6_numberOfTrailingZeros_0f7a4_16 : decode cJ6_numberOfTrailingZeros_0f7a4 16 = .ok (.ireturn, 1) := by decide +kernel
theorem dJ6_numberOfTrailingZeros_0f7a4_17 : decode cJ6_numberOfTrailingZeros_0f7a4 17 = .ok (.iconst 1, 1) := by decide +kernel
theorem dJ6_numberOfTrailingZeros_0f7a4_18 : decode cJ6_numberOfTrailingZeros_0f7a4 18 = .ok (.istore_n 1, 1) := by decide +kernel
theorem dJ6_numberOfTrailingZeros_0f7a4_19 : decode cJ6_numberOfTrailingZeros_0f7a4 19 = .ok (.iload_n 0, 1) := by decide +kernel
theorem dJ6_numberOfTrailingZeros_0f7a4_20 : decode cJ6_numberOfTrailingZeros_0f7a4 20 = .ok (.ldc_w 264, 3) := by decide +kernel
theorem dJ6_numberOfTrailingZeros_0f7a4_23 : decode cJ6_numberOfTrailingZeros_0f7a4 23 = .ok (.if_icmp .le 11, 3) := by decide +kernel
theorem dJ6_numberOfTrailingZeros_0f7a4_26 : decode cJ6_numberOfTrailingZeros_0f7a4 26 = .ok (.iinc 1 16, 3) := by decide +kernel
theorem dJ6_numberOfTrailingZeros_0f7a4_29 : decode cJ6_numberOfTrailingZeros_0f7a4 29 = .ok (.iload_n 0, 1) := by decide +kernel
theorem dJ6_numberOfTrailingZeros_0f7a4_30 : decode cJ6_numberOfTrailingZeros_0f7a4 30 = .ok (.bipush 16, 2) := by decide +kernel
theorem dJ6_numberOfTrailingZeros_0f7a4_32 : decode cJ6_numberOfTrailingZeros_0f7a4 32 = .ok (.iushr, 1) := by decide +kernel
theorem dJ6_numberOfTrailingZeros_0f7a4_33 : decode cJ6_numberOfTrailingZeros_0f7a4 33 = .ok (.istore_n 0, 1) := by decide +kernel
theorem dJ6_numberOfTrailingZeros_0f7a4_34 : decode cJ6_numberOfTrailingZeros_0f7a4 34 = .ok (.iload_n 0, 1) := by decide +kernel
theorem dJ6_numberOfTrailingZeros_0f7a4_35 : decode cJ6_numberOfTrailingZeros_0f7a4 35 = .ok (.sipush 256, 3) := by decide +kernel
theorem dJ6_numberOfTrailingZeros_0f7a4_38 : decode cJ6_numberOfTrailingZeros_0f7a4 38 = .ok (.if_icmp .le 11, 3) := by decide +kernel
theorem dJ6_numberOfTrailingZeros_0f7a4_41 : decode cJ6_numberOfTrailingZeros_0f7a4 41 = .ok (.iinc 1 8, 3) := by decide +kernel
theorem dJ6_numberOfTrailingZeros_0f7a4_44 : decode cJ6_numberOfTrailingZeros_0f7a4 44 = .ok (.iload_n 0, 1) := by decide +kernel
theorem dJ6_numberOfTrailingZeros_0f7a4_45 : decode cJ6_numberOfTrailingZeros_0f7a4 45 = .ok (.bipush 8, 2) := by decide +kernel
theorem dJ6_numberOfTrailingZeros_0f7a4_47 : decode cJ6_numberOfTrailingZeros_0f7a4 47 = .ok (.iushr, 1) := by decide +kernel
theorem dJ6_numberOfTrailingZeros_0f7a4_48 : decode cJ6_numberOfTrailingZeros_0f7a4 48 = .ok (.istore_n 0, 1) := by decide +kernel
theorem dJ6_numberOfTrailingZeros_0f7a4_49 : decode cJ6_numberOfTrailingZeros_0f7a4 49 = .ok (.iload_n 0, 1) := by decide +kernel
theorem dJ6_numberOfTrailingZeros_0f7a4_50 : decode cJ6_numberOfTrailingZeros_0f7a4 50 = .ok (.bipush 16, 2) := by decide +kernel
theorem dJ6_numberOfTrailingZeros_0f7a4_52 : decode cJ6_numberOfTrailingZeros_0f7a4 52 = .ok (.if_icmp .le 10, 3) := by decide +kernel
theorem dJ6_numberOfTrailingZeros_0f7a4_55 : decode cJ6_numberOfTrailingZeros_0f7a4 55 = .ok (.iinc 1 4, 3) := by decide +kernel
theorem dJ6_numberOfTrailingZeros_0f7a4_58 : decode cJ6_numberOfTrailingZeros_0f7a4 58 = .ok (.iload_n 0, 1) := by decide +kernel
theorem dJ6_numberOfTrailingZeros_0f7a4_59 : decode cJ6_numberOfTrailingZeros_0f7a4 59 = .ok (.iconst 4, 1) := by decide +kernel
theorem dJ6_numberOfTrailingZeros_0f7a4_60 : decode cJ6_numberOfTrailingZeros_0f7a4 60 = .ok (.iushr, 1) := by decide +kernel
theorem dJ6_numberOfTrailingZeros_0f7a4_61 : decode cJ6_numberOfTrailingZeros_0f7a4 61 = .ok (.istore_n 0, 1) := by decide +kernel
theorem dJ6_numberOfTrailingZeros_0f7a4_62 : decode cJ6_numberOfTrailingZeros_0f7a4 62 = .ok (.iload_n 0, 1) := by decide +kernel
theorem dJ6_numberOfTrailingZeros_0f7a4_63 : decode cJ6_numberOfTrailingZeros_0f7a4 63 = .ok (.iconst 4, 1) := by decide +kernel
theorem dJ6_numberOfTrailingZeros_0f7a4_64 : decode cJ6_numberOfTrailingZeros_0f7a4 64 = .ok (.if_icmp .le 10, 3) := by decide +kernel
theorem dJ6_numberOfTrailingZeros_0f7a4_67 : decode cJ6_numberOfTrailingZeros_0f7a4 67 = .ok (.iinc 1 2, 3) := by decide +kernel
theorem dJ6_numberOfTrailingZeros_0f7a4_70 : decode cJ6_numberOfTrailingZeros_0f7a4 70 = .ok (.iload_n 0, 1) := by decide +kernel
theorem dJ6_numberOfTrailingZeros_0f7a4_71 : decode cJ6_numberOfTrailingZeros_0f7a4 71 = .ok (.iconst 2, 1) := by decide +kernel
theorem dJ6_numberOfTrailingZeros_0f7a4_72 : decode cJ6_numberOfTrailingZeros_0f7a4 72 = .ok (.iushr, 1) := by decide +kernel
theorem dJ6_numberOfTrailingZeros_0f7a4_73 : decode cJ6_numberOfTrailingZeros_0f7a4 73 = .ok (.istore_n 0, 1) := by decide +kernel
theorem dJ6_numberOfTrailingZeros_0f7a4_74 : decode cJ6_numberOfTrailingZeros_0f7a4 74 = .ok (.iload_n 1, 1) := by decide +kernel
theorem dJ6_numberOfTrailingZeros_0f7a4_75 : decode cJ6_numberOfTrailingZeros_0f7a4 75 = .ok (.iload_n 0, 1) := by decide +kernel
theorem dJ6_numberOfTrailingZeros_0f7a4_76 : decode cJ6_numberOfTrailingZeros_0f7a4 76 = .ok (.iconst 1, 1) := by decide +kernel
theorem dJ6_numberOfTrailingZeros_0f7a4_77 : decode cJ6_numberOfTrailingZeros_0f7a4 77 = .ok (.iushr, 1) := by decide +kernel
theorem dJ6_numberOfTrailingZeros_0f7a4_78 : decode cJ6_numberOfTrailingZeros_0f7a4 78 = .ok (.iadd, 1) := by decide +kernel
theorem dJ6_numberOfTrailingZeros_0f7a4_79 : decode cJ6_numberOfTrailingZeros_0f7a4 79 = .ok (.ireturn, 1) := by decide +kernel
def pj_ntz_74 (v0 : Int32) (v1 : Int32) (M : SX) : Option (Int32 × SX) :=
  some (v1 + ((Int32.toUInt32 v0 >>> (Int32.toUInt32 1 &&& Int32.toUInt32 31)).toInt32), M)
set_option maxHeartbeats 4000000 in
set_option maxRecDepth 100000 in
theorem wj_ntz_74 {G : XG} {Z : Zh} {p : Program} {l : Launch} {e : Env} {s : State} {m : MethodId} {args : Array Value} {below : List Frame} {meth : Method} {c : Code} (F : Fx G Z p m c cJ6_numberOfTrailingZeros_0f7a4 2 s args RJ6) (hr : meth.sig.returnType = some .int) (hk : meth.locks = false) {r : Int32} {M' : SX} : ∀ (v0 : Int32) (v1 : Int32) (M : SX) (H : Heap) (locs : List Loc) (ls : Array Slot), Wld G Z M s.heap H locs → lv_has ls 2 [(0, .int v0), (1, .int v1)] → pj_ntz_74 v0 v1 M = some (r, M') → WXi G Z p l e 0 s m args below meth c r M' H locs (F0 m 74 ls []) := by
  intro v0 v1 M H locs ls hw hl hf
  have hx := F.1.1
  have hb := F.1.2.1
  unfold pj_ntz_74 at hf
  refine lv_iload_n hx hb dJ6_numberOfTrailingZeros_0f7a4_74 rfl (lv_at hl 1 rfl) ?_
  refine lv_iload_n hx hb dJ6_numberOfTrailingZeros_0f7a4_75 rfl (lv_at hl 0 rfl) ?_
  refine lv_iconst (v := 1) hx hb dJ6_numberOfTrailingZeros_0f7a4_76 (by decide) ?_
  refine lv_iushr (v := (Int32.toUInt32 v0 >>> (Int32.toUInt32 1 &&& Int32.toUInt32 31)).toInt32) hx hb dJ6_numberOfTrailingZeros_0f7a4_77 rfl ?_
  refine lv_iadd hx hb dJ6_numberOfTrailingZeros_0f7a4_78 ?_
  exact x_iret F hw hr hk hf dJ6_numberOfTrailingZeros_0f7a4_79
def pj_ntz_62 (v0 : Int32) (v1 : Int32) (M : SX) : Option (Int32 × SX) :=
  if v0 ≤ (4 : Int32) then (pj_ntz_74 v0 v1 M)
  else (lt_ (v1 + 2) (fun x2 => lt_ ((Int32.toUInt32 v0 >>> (Int32.toUInt32 2 &&& Int32.toUInt32 31)).toInt32) (fun x3 => pj_ntz_74 x3 x2 M)))
set_option maxHeartbeats 4000000 in
set_option maxRecDepth 100000 in
theorem wj_ntz_62 {G : XG} {Z : Zh} {p : Program} {l : Launch} {e : Env} {s : State} {m : MethodId} {args : Array Value} {below : List Frame} {meth : Method} {c : Code} (F : Fx G Z p m c cJ6_numberOfTrailingZeros_0f7a4 2 s args RJ6) (hr : meth.sig.returnType = some .int) (hk : meth.locks = false) {r : Int32} {M' : SX} : ∀ (v0 : Int32) (v1 : Int32) (M : SX) (H : Heap) (locs : List Loc) (ls : Array Slot), Wld G Z M s.heap H locs → lv_has ls 2 [(0, .int v0), (1, .int v1)] → pj_ntz_62 v0 v1 M = some (r, M') → WXi G Z p l e 0 s m args below meth c r M' H locs (F0 m 62 ls []) := by
  intro v0 v1 M H locs ls hw hl hf
  have hx := F.1.1
  have hb := F.1.2.1
  unfold pj_ntz_62 at hf
  refine lv_iload_n hx hb dJ6_numberOfTrailingZeros_0f7a4_62 rfl (lv_at hl 0 rfl) ?_
  refine lv_iconst (v := 4) hx hb dJ6_numberOfTrailingZeros_0f7a4_63 (by decide) ?_
  refine lv_icmp_le (tgt := 74) hx hb dJ6_numberOfTrailingZeros_0f7a4_64 (by decide) (fun c1 => ?_) (fun c1 => ?_)
  · have hf := it_t hf c1
    exact wj_ntz_74 F hr hk v0 v1 M _ _ ls hw (lv_sub hl [0, 1] rfl) hf
  · have hf := it_f hf c1
    obtain ⟨x2, ex2, hf⟩ := lt_elim hf
    refine lv_iinc (v := x2) (lv' := [(1, .int x2), (0, .int v0)]) hx hb dJ6_numberOfTrailingZeros_0f7a4_67 hl (k := 1) rfl (by rw [ex2]; rfl) (by decide) rfl (fun ls hl => ?_)
    refine lv_iload_n hx hb dJ6_numberOfTrailingZeros_0f7a4_70 rfl (lv_at hl 1 rfl) ?_
    refine lv_iconst (v := 2) hx hb dJ6_numberOfTrailingZeros_0f7a4_71 (by decide) ?_
    refine lv_iushr (v := (Int32.toUInt32 v0 >>> (Int32.toUInt32 2 &&& Int32.toUInt32 31)).toInt32) hx hb dJ6_numberOfTrailingZeros_0f7a4_72 rfl ?_
    obtain ⟨x3, ex3, hf⟩ := lt_elim hf
    refine x_let ex3 ?_
    refine lv_istore_n (lv' := [(0, .int x3), (1, .int x2)]) hx hb dJ6_numberOfTrailingZeros_0f7a4_73 rfl hl (by decide) rfl (fun ls hl => ?_)
    exact wj_ntz_74 F hr hk x3 x2 M _ _ ls hw (lv_sub hl [0, 1] rfl) hf
def pj_ntz_49 (v0 : Int32) (v1 : Int32) (M : SX) : Option (Int32 × SX) :=
  if v0 ≤ (16 : Int32) then (pj_ntz_62 v0 v1 M)
  else (lt_ (v1 + 4) (fun x2 => lt_ ((Int32.toUInt32 v0 >>> (Int32.toUInt32 4 &&& Int32.toUInt32 31)).toInt32) (fun x3 => pj_ntz_62 x3 x2 M)))
set_option maxHeartbeats 4000000 in
set_option maxRecDepth 100000 in
theorem wj_ntz_49 {G : XG} {Z : Zh} {p : Program} {l : Launch} {e : Env} {s : State} {m : MethodId} {args : Array Value} {below : List Frame} {meth : Method} {c : Code} (F : Fx G Z p m c cJ6_numberOfTrailingZeros_0f7a4 2 s args RJ6) (hr : meth.sig.returnType = some .int) (hk : meth.locks = false) {r : Int32} {M' : SX} : ∀ (v0 : Int32) (v1 : Int32) (M : SX) (H : Heap) (locs : List Loc) (ls : Array Slot), Wld G Z M s.heap H locs → lv_has ls 2 [(0, .int v0), (1, .int v1)] → pj_ntz_49 v0 v1 M = some (r, M') → WXi G Z p l e 0 s m args below meth c r M' H locs (F0 m 49 ls []) := by
  intro v0 v1 M H locs ls hw hl hf
  have hx := F.1.1
  have hb := F.1.2.1
  unfold pj_ntz_49 at hf
  refine lv_iload_n hx hb dJ6_numberOfTrailingZeros_0f7a4_49 rfl (lv_at hl 0 rfl) ?_
  refine lv_bipush (v := 16) hx hb dJ6_numberOfTrailingZeros_0f7a4_50 (by decide) ?_
  refine lv_icmp_le (tgt := 62) hx hb dJ6_numberOfTrailingZeros_0f7a4_52 (by decide) (fun c1 => ?_) (fun c1 => ?_)
  · have hf := it_t hf c1
    exact wj_ntz_62 F hr hk v0 v1 M _ _ ls hw (lv_sub hl [0, 1] rfl) hf
  · have hf := it_f hf c1
    obtain ⟨x2, ex2, hf⟩ := lt_elim hf
    refine lv_iinc (v := x2) (lv' := [(1, .int x2), (0, .int v0)]) hx hb dJ6_numberOfTrailingZeros_0f7a4_55 hl (k := 1) rfl (by rw [ex2]; rfl) (by decide) rfl (fun ls hl => ?_)
    refine lv_iload_n hx hb dJ6_numberOfTrailingZeros_0f7a4_58 rfl (lv_at hl 1 rfl) ?_
    refine lv_iconst (v := 4) hx hb dJ6_numberOfTrailingZeros_0f7a4_59 (by decide) ?_
    refine lv_iushr (v := (Int32.toUInt32 v0 >>> (Int32.toUInt32 4 &&& Int32.toUInt32 31)).toInt32) hx hb dJ6_numberOfTrailingZeros_0f7a4_60 rfl ?_
    obtain ⟨x3, ex3, hf⟩ := lt_elim hf
    refine x_let ex3 ?_
    refine lv_istore_n (lv' := [(0, .int x3), (1, .int x2)]) hx hb dJ6_numberOfTrailingZeros_0f7a4_61 rfl hl (by decide) rfl (fun ls hl => ?_)
    exact wj_ntz_62 F hr hk x3 x2 M _ _ ls hw (lv_sub hl [0, 1] rfl) hf
def pj_ntz_34 (v0 : Int32) (v1 : Int32) (M : SX) : Option (Int32 × SX) :=
  if v0 ≤ (256 : Int32) then (pj_ntz_49 v0 v1 M)
  else (lt_ (v1 + 8) (fun x2 => lt_ ((Int32.toUInt32 v0 >>> (Int32.toUInt32 8 &&& Int32.toUInt32 31)).toInt32) (fun x3 => pj_ntz_49 x3 x2 M)))
set_option maxHeartbeats 4000000 in
set_option maxRecDepth 100000 in
theorem wj_ntz_34 {G : XG} {Z : Zh} {p : Program} {l : Launch} {e : Env} {s : State} {m : MethodId} {args : Array Value} {below : List Frame} {meth : Method} {c : Code} (F : Fx G Z p m c cJ6_numberOfTrailingZeros_0f7a4 2 s args RJ6) (hr : meth.sig.returnType = some .int) (hk : meth.locks = false) {r : Int32} {M' : SX} : ∀ (v0 : Int32) (v1 : Int32) (M : SX) (H : Heap) (locs : List Loc) (ls : Array Slot), Wld G Z M s.heap H locs → lv_has ls 2 [(0, .int v0), (1, .int v1)] → pj_ntz_34 v0 v1 M = some (r, M') → WXi G Z p l e 0 s m args below meth c r M' H locs (F0 m 34 ls []) := by
  intro v0 v1 M H locs ls hw hl hf
  have hx := F.1.1
  have hb := F.1.2.1
  unfold pj_ntz_34 at hf
  refine lv_iload_n hx hb dJ6_numberOfTrailingZeros_0f7a4_34 rfl (lv_at hl 0 rfl) ?_
  refine lv_sipush (v := 256) hx hb dJ6_numberOfTrailingZeros_0f7a4_35 (by decide) ?_
  refine lv_icmp_le (tgt := 49) hx hb dJ6_numberOfTrailingZeros_0f7a4_38 (by decide) (fun c1 => ?_) (fun c1 => ?_)
  · have hf := it_t hf c1
    exact wj_ntz_49 F hr hk v0 v1 M _ _ ls hw (lv_sub hl [0, 1] rfl) hf
  · have hf := it_f hf c1
    obtain ⟨x2, ex2, hf⟩ := lt_elim hf
    refine lv_iinc (v := x2) (lv' := [(1, .int x2), (0, .int v0)]) hx hb dJ6_numberOfTrailingZeros_0f7a4_41 hl (k := 1) rfl (by rw [ex2]; rfl) (by decide) rfl (fun ls hl => ?_)
    refine lv_iload_n hx hb dJ6_numberOfTrailingZeros_0f7a4_44 rfl (lv_at hl 1 rfl) ?_
    refine lv_bipush (v := 8) hx hb dJ6_numberOfTrailingZeros_0f7a4_45 (by decide) ?_
    refine lv_iushr (v := (Int32.toUInt32 v0 >>> (Int32.toUInt32 8 &&& Int32.toUInt32 31)).toInt32) hx hb dJ6_numberOfTrailingZeros_0f7a4_47 rfl ?_
    obtain ⟨x3, ex3, hf⟩ := lt_elim hf
    refine x_let ex3 ?_
    refine lv_istore_n (lv' := [(0, .int x3), (1, .int x2)]) hx hb dJ6_numberOfTrailingZeros_0f7a4_48 rfl hl (by decide) rfl (fun ls hl => ?_)
    exact wj_ntz_49 F hr hk x3 x2 M _ _ ls hw (lv_sub hl [0, 1] rfl) hf
def pj_ntz (a1 : Int32) (M : SX) : Option (Int32 × SX) :=
  lt_ ((a1 ^^^ (-1)) &&& (a1 - 1)) (fun x1 => if 0 < x1 then (if x1 ≤ (65536 : Int32) then (pj_ntz_34 x1 1 M)
  else (lt_ (1 + 16) (fun x4 => lt_ ((Int32.toUInt32 x1 >>> (Int32.toUInt32 16 &&& Int32.toUInt32 31)).toInt32) (fun x5 => pj_ntz_34 x5 x4 M))))
  else (some (x1 &&& 32, M)))
set_option maxHeartbeats 4000000 in
set_option maxRecDepth 100000 in
theorem cj_ntz {l : Launch} {G : XG} {Z : Zh} {r : Int32} {M' : SX} {M : SX} (a1 : Int32) (hf : pj_ntz a1 M = some (r, M')) : Met l yJ6_numberOfTrailingZeros_0f7a4 (.code yJ6_numberOfTrailingZeros_0f7a4 cJ6_numberOfTrailingZeros_0f7a4 2 (some .int) :: TBL) (rmX 0) (xPc G Z M [.int a1]) (xQi G Z r M') 0 0 (inA G Z) := by
  refine x_met (cc := cJ6_numberOfTrailingZeros_0f7a4) (by decide) (Nat.le_of_ble_eq_true rfl) ?_
  intro p e s m below meth c ls F hr hk hl hw
  have F : Fx G Z p m c cJ6_numberOfTrailingZeros_0f7a4 2 s [.int a1].toArray RJ6 := F
  have hl : lv_has ls 2 [(0, .int a1)] := hl
  have hx := F.1.1
  have hb := F.1.2.1
  unfold pj_ntz at hf
  refine lv_iload_n hx hb dJ6_numberOfTrailingZeros_0f7a4_0 rfl (lv_at hl 0 rfl) ?_
  refine lv_iconst (v := (-1)) hx hb dJ6_numberOfTrailingZeros_0f7a4_1 (by decide) ?_
  refine lv_ixor hx hb dJ6_numberOfTrailingZeros_0f7a4_2 ?_
  refine lv_iload_n hx hb dJ6_numberOfTrailingZeros_0f7a4_3 rfl (lv_at hl 0 rfl) ?_
  refine lv_iconst (v := 1) hx hb dJ6_numberOfTrailingZeros_0f7a4_4 (by decide) ?_
  refine lv_isub hx hb dJ6_numberOfTrailingZeros_0f7a4_5 ?_
  refine lv_iand hx hb dJ6_numberOfTrailingZeros_0f7a4_6 ?_
  obtain ⟨x1, ex1, hf⟩ := lt_elim hf
  refine x_let ex1 ?_
  refine lv_istore_n (lv' := [(0, .int x1)]) hx hb dJ6_numberOfTrailingZeros_0f7a4_7 rfl hl (by decide) rfl (fun ls hl => ?_)
  refine lv_iload_n hx hb dJ6_numberOfTrailingZeros_0f7a4_8 rfl (lv_at hl 0 rfl) ?_
  refine lv_if_gt (tgt := 17) hx hb dJ6_numberOfTrailingZeros_0f7a4_9 (by decide) (fun c2 => ?_) (fun c2 => ?_)
  · have hf := it_t hf c2
    refine lv_iconst (v := 1) hx hb dJ6_numberOfTrailingZeros_0f7a4_17 (by decide) ?_
    refine lv_istore_n (lv' := [(1, .int 1), (0, .int x1)]) hx hb dJ6_numberOfTrailingZeros_0f7a4_18 rfl hl (by decide) rfl (fun ls hl => ?_)
    refine lv_iload_n hx hb dJ6_numberOfTrailingZeros_0f7a4_19 rfl (lv_at hl 1 rfl) ?_
    refine lv_ldcw (v := 65536) hx hb F.1.2.2.2.1 (F.1.2.2.2.2 _ tw_0) dJ6_numberOfTrailingZeros_0f7a4_20 ?_
    refine lv_icmp_le (tgt := 34) hx hb dJ6_numberOfTrailingZeros_0f7a4_23 (by decide) (fun c3 => ?_) (fun c3 => ?_)
    · have hf := it_t hf c3
      exact wj_ntz_34 F hr hk x1 1 M _ _ ls hw (lv_sub hl [1, 0] rfl) hf
    · have hf := it_f hf c3
      obtain ⟨x4, ex4, hf⟩ := lt_elim hf
      refine lv_iinc (v := x4) (lv' := [(1, .int x4), (0, .int x1)]) hx hb dJ6_numberOfTrailingZeros_0f7a4_26 hl (k := 0) rfl (by rw [ex4]; rfl) (by decide) rfl (fun ls hl => ?_)
      refine lv_iload_n hx hb dJ6_numberOfTrailingZeros_0f7a4_29 rfl (lv_at hl 1 rfl) ?_
      refine lv_bipush (v := 16) hx hb dJ6_numberOfTrailingZeros_0f7a4_30 (by decide) ?_
      refine lv_iushr (v := (Int32.toUInt32 x1 >>> (Int32.toUInt32 16 &&& Int32.toUInt32 31)).toInt32) hx hb dJ6_numberOfTrailingZeros_0f7a4_32 rfl ?_
      obtain ⟨x5, ex5, hf⟩ := lt_elim hf
      refine x_let ex5 ?_
      refine lv_istore_n (lv' := [(0, .int x5), (1, .int x4)]) hx hb dJ6_numberOfTrailingZeros_0f7a4_33 rfl hl (by decide) rfl (fun ls hl => ?_)
      exact wj_ntz_34 F hr hk x5 x4 M _ _ ls hw (lv_sub hl [0, 1] rfl) hf
  · have hf := it_f hf c2
    refine lv_iload_n hx hb dJ6_numberOfTrailingZeros_0f7a4_12 rfl (lv_at hl 0 rfl) ?_
    refine lv_bipush (v := 32) hx hb dJ6_numberOfTrailingZeros_0f7a4_13 (by decide) ?_
    refine lv_iand hx hb dJ6_numberOfTrailingZeros_0f7a4_15 ?_
    exact x_iret F hw hr hk hf dJ6_numberOfTrailingZeros_0f7a4_16
theorem dJ6_bitCount_0f7a4_0 : decode cJ6_bitCount_0f7a4 0 = .ok (.iload_n 0, 1) := by decide +kernel
theorem dJ6_bitCount_0f7a4_1 : decode cJ6_bitCount_0f7a4 1 = .ok (.iload_n 0, 1) := by decide +kernel
theorem dJ6_bitCount_0f7a4_2 : decode cJ6_bitCount_0f7a4 2 = .ok (.iconst 1, 1) := by decide +kernel
theorem dJ6_bitCount_0f7a4_3 : decode cJ6_bitCount_0f7a4 3 = .ok (.iushr, 1) := by decide +kernel
theorem dJ6_bitCount_0f7a4_4 : decode cJ6_bitCount_0f7a4 4 = .ok (.ldc_w 265, 3) := by decide +kernel
theorem dJ6_bitCount_0f7a4_7 : decode cJ6_bitCount_0f7a4 7 = .ok (.iand, 1) := by decide +kernel
theorem dJ6_bitCount_0f7a4_8 : decode cJ6_bitCount_0f7a4 8 = .ok (.isub, 1) := by decide +kernel
theorem dJ6_bitCount_0f7a4_9 : decode cJ6_bitCount_0f7a4 9 = .ok (.istore_n 0, 1) := by decide +kernel
theorem dJ6_bitCount_0f7a4_10 : decode cJ6_bitCount_0f7a4 10 = .ok (.iload_n 0, 1) := by decide +kernel
theorem dJ6_bitCount_0f7a4_11 : decode cJ6_bitCount_0f7a4 11 = .ok (.ldc_w 266, 3) := by decide +kernel
theorem dJ6_bitCount_0f7a4_14 : decode cJ6_bitCount_0f7a4 14 = .ok (.iand, 1) := by decide +kernel
theorem dJ6_bitCount_0f7a4_15 : decode cJ6_bitCount_0f7a4 15 = .ok (.iload_n 0, 1) := by decide +kernel
theorem dJ6_bitCount_0f7a4_16 : decode cJ6_bitCount_0f7a4 16 = .ok (.iconst 2, 1) := by decide +kernel
theorem dJ6_bitCount_0f7a4_17 : decode cJ6_bitCount_0f7a4 17 = .ok (.iushr, 1) := by decide +kernel
theorem dJ6_bitCount_0f7a4_18 : decode cJ6_bitCount_0f7a4 18 = .ok (.ldc_w 266, 3) := by decide +kernel
theorem dJ6_bitCount_0f7a4_21 : decode cJ6_bitCount_0f7a4 21 = .ok (.iand, 1) := by decide +kernel
theorem dJ6_bitCount_0f7a4_22 : decode cJ6_bitCount_0f7a4 22 = .ok (.iadd, 1) := by decide +kernel
theorem dJ6_bitCount_0f7a4_23 : decode cJ6_bitCount_0f7a4 23 = .ok (.istore_n 0, 1) := by decide +kernel
theorem dJ6_bitCount_0f7a4_24 : decode cJ6_bitCount_0f7a4 24 = .ok (.iload_n 0, 1) := by decide +kernel
theorem dJ6_bitCount_0f7a4_25 : decode cJ6_bitCount_0f7a4 25 = .ok (.iload_n 0, 1) := by decide +kernel
theorem dJ6_bitCount_0f7a4_26 : decode cJ6_bitCount_0f7a4 26 = .ok (.iconst 4, 1) := by decide +kernel
theorem dJ6_bitCount_0f7a4_27 : decode cJ6_bitCount_0f7a4 27 = .ok (.iushr, 1) := by decide +kernel
theorem dJ6_bitCount_0f7a4_28 : decode cJ6_bitCount_0f7a4 28 = .ok (.iadd, 1) := by decide +kernel
theorem dJ6_bitCount_0f7a4_29 : decode cJ6_bitCount_0f7a4 29 = .ok (.ldc_w 267, 3) := by decide +kernel
theorem dJ6_bitCount_0f7a4_32 : decode cJ6_bitCount_0f7a4 32 = .ok (.iand, 1) := by decide +kernel
theorem dJ6_bitCount_0f7a4_33 : decode cJ6_bitCount_0f7a4 33 = .ok (.istore_n 0, 1) := by decide +kernel
theorem dJ6_bitCount_0f7a4_34 : decode cJ6_bitCount_0f7a4 34 = .ok (.iload_n 0, 1) := by decide +kernel
theorem dJ6_bitCount_0f7a4_35 : decode cJ6_bitCount_0f7a4 35 = .ok (.iload_n 0, 1) := by decide +kernel
theorem dJ6_bitCount_0f7a4_36 : decode cJ6_bitCount_0f7a4 36 = .ok (.bipush 8, 2) := by decide +kernel
theorem dJ6_bitCount_0f7a4_38 : decode cJ6_bitCount_0f7a4 38 = .ok (.iushr, 1) := by decide +kernel
theorem dJ6_bitCount_0f7a4_39 : decode cJ6_bitCount_0f7a4 39 = .ok (.iadd, 1) := by decide +kernel
theorem dJ6_bitCount_0f7a4_40 : decode cJ6_bitCount_0f7a4 40 = .ok (.istore_n 0, 1) := by decide +kernel
theorem dJ6_bitCount_0f7a4_41 : decode cJ6_bitCount_0f7a4 41 = .ok (.iload_n 0, 1) := by decide +kernel
theorem dJ6_bitCount_0f7a4_42 : decode cJ6_bitCount_0f7a4 42 = .ok (.iload_n 0, 1) := by decide +kernel
theorem dJ6_bitCount_0f7a4_43 : decode cJ6_bitCount_0f7a4 43 = .ok (.bipush 16, 2) := by decide +kernel
theorem dJ6_bitCount_0f7a4_45 : decode cJ6_bitCount_0f7a4 45 = .ok (.iushr, 1) := by decide +kernel
theorem dJ6_bitCount_0f7a4_46 : decode cJ6_bitCount_0f7a4 46 = .ok (.iadd, 1) := by decide +kernel
theorem dJ6_bitCount_0f7a4_47 : decode cJ6_bitCount_0f7a4 47 = .ok (.istore_n 0, 1) := by decide +kernel
theorem dJ6_bitCount_0f7a4_48 : decode cJ6_bitCount_0f7a4 48 = .ok (.iload_n 0, 1) := by decide +kernel
theorem dJ6_bitCount_0f7a4_49 : decode cJ6_bitCount_0f7a4 49 = .ok (.bipush 63, 2) := by decide +kernel
theorem dJ6_bitCount_0f7a4_51 : decode cJ6_bitCount_0f7a4 51 = .ok (.iand, 1) := by decide +kernel
theorem dJ6_bitCount_0f7a4_52 : decode cJ6_bitCount_0f7a4 52 = .ok (.ireturn, 1) := by decide +kernel
def pj_bits (a1 : Int32) (M : SX) : Option (Int32 × SX) :=
  lt_ (a1 - (((Int32.toUInt32 a1 >>> (Int32.toUInt32 1 &&& Int32.toUInt32 31)).toInt32) &&& 1431655765)) (fun x1 => lt_ ((x1 &&& 858993459) + (((Int32.toUInt32 x1 >>> (Int32.toUInt32 2 &&& Int32.toUInt32 31)).toInt32) &&& 858993459)) (fun x2 => lt_ ((x2 + ((Int32.toUInt32 x2 >>> (Int32.toUInt32 4 &&& Int32.toUInt32 31)).toInt32)) &&& 252645135) (fun x3 => lt_ (x3 + ((Int32.toUInt32 x3 >>> (Int32.toUInt32 8 &&& Int32.toUInt32 31)).toInt32)) (fun x4 => lt_ (x4 + ((Int32.toUInt32 x4 >>> (Int32.toUInt32 16 &&& Int32.toUInt32 31)).toInt32)) (fun x5 => some (x5 &&& 63, M))))))
set_option maxHeartbeats 4000000 in
set_option maxRecDepth 100000 in
theorem cj_bits {l : Launch} {G : XG} {Z : Zh} {r : Int32} {M' : SX} {M : SX} (a1 : Int32) (hf : pj_bits a1 M = some (r, M')) : Met l yJ6_bitCount_0f7a4 (.code yJ6_bitCount_0f7a4 cJ6_bitCount_0f7a4 1 (some .int) :: TBL) (rmX 0) (xPc G Z M [.int a1]) (xQi G Z r M') 0 0 (inA G Z) := by
  refine x_met (cc := cJ6_bitCount_0f7a4) (by decide) (Nat.le_of_ble_eq_true rfl) ?_
  intro p e s m below meth c ls F hr hk hl hw
  have F : Fx G Z p m c cJ6_bitCount_0f7a4 1 s [.int a1].toArray RJ6 := F
  have hl : lv_has ls 1 [(0, .int a1)] := hl
  have hx := F.1.1
  have hb := F.1.2.1
  unfold pj_bits at hf
  refine lv_iload_n hx hb dJ6_bitCount_0f7a4_0 rfl (lv_at hl 0 rfl) ?_
  refine lv_iload_n hx hb dJ6_bitCount_0f7a4_1 rfl (lv_at hl 0 rfl) ?_
  refine lv_iconst (v := 1) hx hb dJ6_bitCount_0f7a4_2 (by decide) ?_
  refine lv_iushr (v := (Int32.toUInt32 a1 >>> (Int32.toUInt32 1 &&& Int32.toUInt32 31)).toInt32) hx hb dJ6_bitCount_0f7a4_3 rfl ?_
  refine lv_ldcw (v := 1431655765) hx hb F.1.2.2.2.1 (F.1.2.2.2.2 _ tw_1) dJ6_bitCount_0f7a4_4 ?_
  refine lv_iand hx hb dJ6_bitCount_0f7a4_7 ?_
  refine lv_isub hx hb dJ6_bitCount_0f7a4_8 ?_
  obtain ⟨x1, ex1, hf⟩ := lt_elim hf
  refine x_let ex1 ?_
  refine lv_istore_n (lv' := [(0, .int x1)]) hx hb dJ6_bitCount_0f7a4_9 rfl hl (by decide) rfl (fun ls hl => ?_)
  refine lv_iload_n hx hb dJ6_bitCount_0f7a4_10 rfl (lv_at hl 0 rfl) ?_
  refine lv_ldcw (v := 858993459) hx hb F.1.2.2.2.1 (F.1.2.2.2.2 _ tw_2) dJ6_bitCount_0f7a4_11 ?_
  refine lv_iand hx hb dJ6_bitCount_0f7a4_14 ?_
  refine lv_iload_n hx hb dJ6_bitCount_0f7a4_15 rfl (lv_at hl 0 rfl) ?_
  refine lv_iconst (v := 2) hx hb dJ6_bitCount_0f7a4_16 (by decide) ?_
  refine lv_iushr (v := (Int32.toUInt32 x1 >>> (Int32.toUInt32 2 &&& Int32.toUInt32 31)).toInt32) hx hb dJ6_bitCount_0f7a4_17 rfl ?_
  refine lv_ldcw (v := 858993459) hx hb F.1.2.2.2.1 (F.1.2.2.2.2 _ tw_2) dJ6_bitCount_0f7a4_18 ?_
  refine lv_iand hx hb dJ6_bitCount_0f7a4_21 ?_
  refine lv_iadd hx hb dJ6_bitCount_0f7a4_22 ?_
  obtain ⟨x2, ex2, hf⟩ := lt_elim hf
  refine x_let ex2 ?_
  refine lv_istore_n (lv' := [(0, .int x2)]) hx hb dJ6_bitCount_0f7a4_23 rfl hl (by decide) rfl (fun ls hl => ?_)
  refine lv_iload_n hx hb dJ6_bitCount_0f7a4_24 rfl (lv_at hl 0 rfl) ?_
  refine lv_iload_n hx hb dJ6_bitCount_0f7a4_25 rfl (lv_at hl 0 rfl) ?_
  refine lv_iconst (v := 4) hx hb dJ6_bitCount_0f7a4_26 (by decide) ?_
  refine lv_iushr (v := (Int32.toUInt32 x2 >>> (Int32.toUInt32 4 &&& Int32.toUInt32 31)).toInt32) hx hb dJ6_bitCount_0f7a4_27 rfl ?_
  refine lv_iadd hx hb dJ6_bitCount_0f7a4_28 ?_
  refine lv_ldcw (v := 252645135) hx hb F.1.2.2.2.1 (F.1.2.2.2.2 _ tw_3) dJ6_bitCount_0f7a4_29 ?_
  refine lv_iand hx hb dJ6_bitCount_0f7a4_32 ?_
  obtain ⟨x3, ex3, hf⟩ := lt_elim hf
  refine x_let ex3 ?_
  refine lv_istore_n (lv' := [(0, .int x3)]) hx hb dJ6_bitCount_0f7a4_33 rfl hl (by decide) rfl (fun ls hl => ?_)
  refine lv_iload_n hx hb dJ6_bitCount_0f7a4_34 rfl (lv_at hl 0 rfl) ?_
  refine lv_iload_n hx hb dJ6_bitCount_0f7a4_35 rfl (lv_at hl 0 rfl) ?_
  refine lv_bipush (v := 8) hx hb dJ6_bitCount_0f7a4_36 (by decide) ?_
  refine lv_iushr (v := (Int32.toUInt32 x3 >>> (Int32.toUInt32 8 &&& Int32.toUInt32 31)).toInt32) hx hb dJ6_bitCount_0f7a4_38 rfl ?_
  refine lv_iadd hx hb dJ6_bitCount_0f7a4_39 ?_
  obtain ⟨x4, ex4, hf⟩ := lt_elim hf
  refine x_let ex4 ?_
  refine lv_istore_n (lv' := [(0, .int x4)]) hx hb dJ6_bitCount_0f7a4_40 rfl hl (by decide) rfl (fun ls hl => ?_)
  refine lv_iload_n hx hb dJ6_bitCount_0f7a4_41 rfl (lv_at hl 0 rfl) ?_
  refine lv_iload_n hx hb dJ6_bitCount_0f7a4_42 rfl (lv_at hl 0 rfl) ?_
  refine lv_bipush (v := 16) hx hb dJ6_bitCount_0f7a4_43 (by decide) ?_
  refine lv_iushr (v := (Int32.toUInt32 x4 >>> (Int32.toUInt32 16 &&& Int32.toUInt32 31)).toInt32) hx hb dJ6_bitCount_0f7a4_45 rfl ?_
  refine lv_iadd hx hb dJ6_bitCount_0f7a4_46 ?_
  obtain ⟨x5, ex5, hf⟩ := lt_elim hf
  refine x_let ex5 ?_
  refine lv_istore_n (lv' := [(0, .int x5)]) hx hb dJ6_bitCount_0f7a4_47 rfl hl (by decide) rfl (fun ls hl => ?_)
  refine lv_iload_n hx hb dJ6_bitCount_0f7a4_48 rfl (lv_at hl 0 rfl) ?_
  refine lv_bipush (v := 63) hx hb dJ6_bitCount_0f7a4_49 (by decide) ?_
  refine lv_iand hx hb dJ6_bitCount_0f7a4_51 ?_
  exact x_iret F hw hr hk hf dJ6_bitCount_0f7a4_52
theorem dJ7_fill_53178_0 : decode cJ7_fill_53178 0 = .ok (.iconst 0, 1) := by decide +kernel
theorem dJ7_fill_53178_1 : decode cJ7_fill_53178 1 = .ok (.istore_n 2, 1) := by decide +kernel
theorem dJ7_fill_53178_2 : decode cJ7_fill_53178 2 = .ok (.aload_n 0, 1) := by decide +kernel
theorem dJ7_fill_53178_3 : decode cJ7_fill_53178 3 = .ok (.arraylength, 1) := by decide +kernel
theorem dJ7_fill_53178_4 : decode cJ7_fill_53178 4 = .ok (.istore_n 3, 1) := by decide +kernel
theorem dJ7_fill_53178_5 : decode cJ7_fill_53178 5 = .ok (.iload_n 2, 1) := by decide +kernel
theorem dJ7_fill_53178_6 : decode cJ7_fill_53178 6 = .ok (.iload_n 3, 1) := by decide +kernel
theorem dJ7_fill_53178_7 : decode cJ7_fill_53178 7 = .ok (.if_icmp .ge 13, 3) := by decide +kernel
theorem dJ7_fill_53178_10 : decode cJ7_fill_53178 10 = .ok (.aload_n 0, 1) := by decide +kernel
theorem dJ7_fill_53178_11 : decode cJ7_fill_53178 11 = .ok (.iload_n 2, 1) := by decide +kernel
theorem dJ7_fill_53178_12 : decode cJ7_fill_53178 12 = .ok (.iload_n 1, 1) := by decide +kernel
theorem dJ7_fill_53178_13 : decode cJ7_fill_53178 13 = .ok (.iastore, 1) := by decide +kernel
theorem dJ7_fill_53178_14 : decode cJ7_fill_53178 14 = .ok (.iinc 2 1, 3) := by decide +kernel
theorem dJ7_fill_53178_17 : decode cJ7_fill_53178 17 = .ok (.goto (-12), 3) := by decide +kernel
theorem dJ7_fill_53178_20 : decode cJ7_fill_53178 20 = .ok (.return_, 1) := by decide +kernel
def pj_fill_5 (nA b : Nat) (k5 : Int32 → Int32 → Int32 → SX → Option SX) (v1 : Int32) (v2 : Int32) (v3 : Int32) (M : SX) : Option SX :=
  if v3 ≤ v2 then (some M)
  else (gd (bIn v2 nA) ( lt_ (wI M b (Int32.toNatClampNeg v2) v1) (fun M3 => lt_ (v2 + 1) (fun x4 => k5 v1 x4 v3 M3))))
set_option maxHeartbeats 4000000 in
set_option maxRecDepth 100000 in
theorem wj_fill_5 {G : XG} {Z : Zh} {p : Program} {l : Launch} {e : Env} {s : State} {m : MethodId} {args : Array Value} {below : List Frame} {meth : Method} {c : Code} (F : Fx G Z p m c cJ7_fill_53178 4 s args RJ7) (hr : meth.sig.returnType = none) (hk : meth.locks = false) {M' : SX} (nA b : Nat) (hA : b < Z.2 ∧ Z.1 b = .inr (0, nA)) (k5 : Int32 → Int32 → Int32 → SX → Option SX) (hk5 : ∀ (v1 : Int32) (v2 : Int32) (v3 : Int32) (M : SX) (H : Heap) (locs : List Loc) (ls : Array Slot), Wld G Z M s.heap H locs → lv_has ls 4 [(0, .ref (G.2.1 b)), (1, .int v1), (2, .int v2), (3, .int v3)] → k5 v1 v2 v3 M = some M' → WXv G Z p l e 0 s m args below meth c M' H locs (F0 m 5 ls [])) : ∀ (v1 : Int32) (v2 : Int32) (v3 : Int32) (M : SX) (H : Heap) (locs : List Loc) (ls : Array Slot), Wld G Z M s.heap H locs → lv_has ls 4 [(0, .ref (G.2.1 b)), (1, .int v1), (2, .int v2), (3, .int v3)] → pj_fill_5 nA b k5 v1 v2 v3 M = some M' → WXv G Z p l e 0 s m args below meth c M' H locs (F0 m 5 ls []) := by
  intro v1 v2 v3 M H locs ls hw hl hf
  have hx := F.1.1
  have hb := F.1.2.1
  unfold pj_fill_5 at hf
  refine lv_iload_n hx hb dJ7_fill_53178_5 rfl (lv_at hl 2 rfl) ?_
  refine lv_iload_n hx hb dJ7_fill_53178_6 rfl (lv_at hl 3 rfl) ?_
  refine lv_icmp_ge (tgt := 20) hx hb dJ7_fill_53178_7 (by decide) (fun c1 => ?_) (fun c1 => ?_)
  · have hf := it_t hf c1
    exact x_vret F hw hr hk hf dJ7_fill_53178_20
  · have hf := it_f hf c1
    refine lv_aload_n hx hb dJ7_fill_53178_10 rfl (lv_at hl 0 rfl) ?_
    refine lv_iload_n hx hb dJ7_fill_53178_11 rfl (lv_at hl 2 rfl) ?_
    refine lv_iload_n hx hb dJ7_fill_53178_12 rfl (lv_at hl 1 rfl) ?_
    obtain ⟨g2, hf⟩ := gd_some hf
    refine x_iast F hw hA g2 dJ7_fill_53178_13 (fun H locs hw => ?_)
    obtain ⟨M3, eM3, hf⟩ := lt_elim hf
    rw [← eM3] at hw
    obtain ⟨x4, ex4, hf⟩ := lt_elim hf
    refine lv_iinc (v := x4) (lv' := [(2, .int x4), (0, .ref (G.2.1 b)), (1, .int v1), (3, .int v3)]) hx hb dJ7_fill_53178_14 hl (k := 2) rfl (by rw [ex4]; rfl) (by decide) rfl (fun ls hl => ?_)
    refine lv_goto (tgt := 5) hx hb dJ7_fill_53178_17 (by decide) ?_
    exact hk5 v1 x4 v3 M3 _ _ ls hw (lv_sub hl [1, 2, 0, 3] rfl) hf
theorem zj_fill_5 {G : XG} {Z : Zh} {p : Program} {l : Launch} {e : Env} {s : State} {m : MethodId} {args : Array Value} {below : List Frame} {meth : Method} {c : Code} (F : Fx G Z p m c cJ7_fill_53178 4 s args RJ7) (hr : meth.sig.returnType = none) (hk : meth.locks = false) {M' : SX} (nA b : Nat) (hA : b < Z.2 ∧ Z.1 b = .inr (0, nA)) : ∀ n : Nat, ∀ (v1 : Int32) (v2 : Int32) (v3 : Int32) (M : SX) (H : Heap) (locs : List Loc) (ls : Array Slot), Wld G Z M s.heap H locs → lv_has ls 4 [(0, .ref (G.2.1 b)), (1, .int v1), (2, .int v2), (3, .int v3)] → xlp3 (pj_fill_5 nA b) n v1 v2 v3 M = some M' → WXv G Z p l e 0 s m args below meth c M' H locs (F0 m 5 ls []) := by
  intro n
  induction n with
  | zero => intro _ _ _ _ _ _ _ _ _ hf; cases hf
  | succ n ih => exact wj_fill_5 F hr hk nA b hA (xlp3 (pj_fill_5 nA b) n) ih
def pj_fill (nA b : Nat) (a2 : Int32) (M : SX) : Option SX :=
  lt_ (Int32.ofNat nA) (fun x1 => xlp3 (pj_fill_5 nA b) FU a2 0 x1 M)
set_option maxHeartbeats 4000000 in
set_option maxRecDepth 100000 in
theorem cj_fill {l : Launch} {G : XG} {Z : Zh} {M' : SX} {M : SX} (nA b : Nat) (hA : b < Z.2 ∧ Z.1 b = .inr (0, nA)) (a2 : Int32) (hf : pj_fill nA b a2 M = some M') : Met l yJ7_fill_53178 (.code yJ7_fill_53178 cJ7_fill_53178 4 none :: TBL) (rmX 0) (xPc G Z M [.ref (G.2.1 b), .int a2]) (xQv G Z M') 0 0 (inA G Z) := by
  refine x_met (cc := cJ7_fill_53178) (by decide) (Nat.le_of_ble_eq_true rfl) ?_
  intro p e s m below meth c ls F hr hk hl hw
  have F : Fx G Z p m c cJ7_fill_53178 4 s [.ref (G.2.1 b), .int a2].toArray RJ7 := F
  have hl : lv_has ls 4 [(0, .ref (G.2.1 b)), (1, .int a2)] := hl
  have hx := F.1.1
  have hb := F.1.2.1
  unfold pj_fill at hf
  refine lv_iconst (v := 0) hx hb dJ7_fill_53178_0 (by decide) ?_
  refine lv_istore_n (lv' := [(2, .int 0), (0, .ref (G.2.1 b)), (1, .int a2)]) hx hb dJ7_fill_53178_1 rfl hl (by decide) rfl (fun ls hl => ?_)
  refine lv_aload_n hx hb dJ7_fill_53178_2 rfl (lv_at hl 1 rfl) ?_
  refine x_alenI F hw hA dJ7_fill_53178_3 ?_
  obtain ⟨x1, ex1, hf⟩ := lt_elim hf
  refine x_let ex1 ?_
  refine lv_istore_n (lv' := [(3, .int x1), (2, .int 0), (0, .ref (G.2.1 b)), (1, .int a2)]) hx hb dJ7_fill_53178_4 rfl hl (by decide) rfl (fun ls hl => ?_)
  exact zj_fill_5 F hr hk nA b hA FU a2 0 x1 M _ _ ls hw (lv_sub hl [2, 3, 1, 0] rfl) hf
end
section
theorem dX5_isIn_0 : decode cX5_isIn 0 = .ok (.iload_n 0, 1) := by decide +kernel
theorem dX5_isIn_1 : decode cX5_isIn 1 = .ok (.iload_n 1, 1) := by decide +kernel
theorem dX5_isIn_2 : decode cX5_isIn 2 = .ok (.ishr, 1) := by decide +kernel
theorem dX5_isIn_3 : decode cX5_isIn 3 = .ok (.iconst 1, 1) := by decide +kernel
theorem dX5_isIn_4 : decode cX5_isIn 4 = .ok (.iand, 1) := by decide +kernel
theorem dX5_isIn_5 : decode cX5_isIn 5 = .ok (.iconst 1, 1) := by decide +kernel
theorem dX5_isIn_6 : decode cX5_isIn 6 = .ok (.if_icmp .ne 7, 3) := by decide +kernel
theorem dX5_isIn_9 : decode cX5_isIn 9 = .ok (.iconst 1, 1) := by decide +kernel
theorem dX5_isIn_10 : decode cX5_isIn 10 = .ok (.goto 4, 3) := by decide +kernel
theorem dX5_isIn_13 : decode cX5_isIn 13 = .ok (.iconst 0, 1) := by decide +kernel
theorem dX5_isIn_14 : decode cX5_isIn 14 = .ok (.ireturn, 1) := by decide +kernel
def p5_isIn (a1 : Int32) (a2 : Int32) (M : SX) : Option (Int32 × SX) :=
  if ((a1 >>> (a2 &&& 31)) &&& 1) = (1 : Int32) then (some (1, M))
  else (some (0, M))
set_option maxHeartbeats 4000000 in
set_option maxRecDepth 100000 in
theorem c5_isIn {l : Launch} {G : XG} {r : Int32} {M' : SX} {M : SX} (a1 : Int32) (a2 : Int32) (hf : p5_isIn a1 a2 M = some (r, M')) : Met l yX5_isIn (.code yX5_isIn cX5_isIn 2 (some .boolean) :: TBL) (rmX 0) (xPc G ZX M [.int a1, .int a2]) (xQi G ZX r M') 0 0 (inA G ZX) := by
  refine x_met (cc := cX5_isIn) (by decide) (Nat.le_of_ble_eq_true rfl) ?_
  intro p e s m below meth c ls F hr hk hl hw
  have F : Fx G ZX p m c cX5_isIn 2 s [.int a1, .int a2].toArray RX5 := F
  have hl : lv_has ls 2 [(0, .int a1), (1, .int a2)] := hl
  have hx := F.1.1
  have hb := F.1.2.1
  unfold p5_isIn at hf
  refine lv_iload_n hx hb dX5_isIn_0 rfl (lv_at hl 0 rfl) ?_
  refine lv_iload_n hx hb dX5_isIn_1 rfl (lv_at hl 1 rfl) ?_
  refine lv_ishr hx hb dX5_isIn_2 ?_
  refine lv_iconst (v := 1) hx hb dX5_isIn_3 (by decide) ?_
  refine lv_iand hx hb dX5_isIn_4 ?_
  refine lv_iconst (v := 1) hx hb dX5_isIn_5 (by decide) ?_
  refine lv_icmp_ne (tgt := 13) hx hb dX5_isIn_6 (by decide) (fun c1 => ?_) (fun c1 => ?_)
  · have hf := it_f hf c1
    refine lv_iconst (v := 0) hx hb dX5_isIn_13 (by decide) ?_
    exact x_zret F hw hr hk (by decide) hf dX5_isIn_14
  · have hf := it_t hf c1
    refine lv_iconst (v := 1) hx hb dX5_isIn_9 (by decide) ?_
    refine lv_goto (tgt := 14) hx hb dX5_isIn_10 (by decide) ?_
    exact x_zret F hw hr hk (by decide) hf dX5_isIn_14
theorem dX5_isOfKind_0 : decode cX5_isOfKind 0 = .ok (.iload_n 0, 1) := by decide +kernel
theorem dX5_isOfKind_1 : decode cX5_isOfKind 1 = .ok (.iload_n 1, 1) := by decide +kernel
theorem dX5_isOfKind_2 : decode cX5_isOfKind 2 = .ok (.if_icmp .eq 27, 3) := by decide +kernel
theorem dX5_isOfKind_5 : decode cX5_isOfKind 5 = .ok (.iload_n 1, 1) := by decide +kernel
theorem dX5_isOfKind_6 : decode cX5_isOfKind 6 = .ok (.ifCond .eq 23, 3) := by decide +kernel
theorem dX5_isOfKind_9 : decode cX5_isOfKind 9 = .ok (.iload_n 0, 1) := by decide +kernel
theorem dX5_isOfKind_10 : decode cX5_isOfKind 10 = .ok (.iconst 4, 1) := by decide +kernel
theorem dX5_isOfKind_11 : decode cX5_isOfKind 11 = .ok (.if_icmp .ne 8, 3) := by decide +kernel
theorem dX5_isOfKind_14 : decode cX5_isOfKind 14 = .ok (.iload_n 1, 1) := by decide +kernel
theorem dX5_isOfKind_15 : decode cX5_isOfKind 15 = .ok (.iconst 1, 1) := by decide +kernel
theorem dX5_isOfKind_16 : decode cX5_isOfKind 16 = .ok (.if_icmp .eq 13, 3) := by decide +kernel
theorem dX5_isOfKind_19 : decode cX5_isOfKind 19 = .ok (.iload_n 0, 1) := by decide +kernel
theorem dX5_isOfKind_20 : decode cX5_isOfKind 20 = .ok (.iconst 5, 1) := by decide +kernel
theorem dX5_isOfKind_21 : decode cX5_isOfKind 21 = .ok (.if_icmp .ne 12, 3) := by decide +kernel
theorem dX5_isOfKind_24 : decode cX5_isOfKind 24 = .ok (.iload_n 1, 1) := by decide +kernel
theorem dX5_isOfKind_25 : decode cX5_isOfKind 25 = .ok (.iconst 2, 1) := by decide +kernel
theorem dX5_isOfKind_26 : decode cX5_isOfKind 26 = .ok (.if_icmp .ne 7, 3) := by decide +kernel
theorem dX5_isOfKind_29 : decode cX5_isOfKind 29 = .ok (.iconst 1, 1) := by decide +kernel
theorem dX5_isOfKind_30 : decode cX5_isOfKind 30 = .ok (.goto 4, 3) := by decide +kernel
theorem dX5_isOfKind_33 : decode cX5_isOfKind 33 = .ok (.iconst 0, 1) := by decide +kernel
theorem dX5_isOfKind_34 : decode cX5_isOfKind 34 = .ok (.ireturn, 1) := by decide +kernel
def p5_isOfKind_29 (M : SX) : Option (Int32 × SX) :=
  some (1, M)
set_option maxHeartbeats 4000000 in
set_option maxRecDepth 100000 in
theorem w5_isOfKind_29 {G : XG} {p : Program} {l : Launch} {e : Env} {s : State} {m : MethodId} {args : Array Value} {below : List Frame} {meth : Method} {c : Code} (F : Fx G ZX p m c cX5_isOfKind 2 s args RX5) (hr : meth.sig.returnType = some .boolean) (hk : meth.locks = false) {r : Int32} {M' : SX} : ∀ (M : SX) (H : Heap) (locs : List Loc) (ls : Array Slot), Wld G ZX M s.heap H locs → lv_has ls 2 [] → p5_isOfKind_29 M = some (r, M') → WXi G ZX p l e 0 s m args below meth c r M' H locs (F0 m 29 ls []) := by
  intro M H locs ls hw hl hf
  have hx := F.1.1
  have hb := F.1.2.1
  unfold p5_isOfKind_29 at hf
  refine lv_iconst (v := 1) hx hb dX5_isOfKind_29 (by decide) ?_
  refine lv_goto (tgt := 34) hx hb dX5_isOfKind_30 (by decide) ?_
  exact x_zret F hw hr hk (by decide) hf dX5_isOfKind_34
def p5_isOfKind_19 (v0 : Int32) (v1 : Int32) (M : SX) : Option (Int32 × SX) :=
  if v0 = (5 : Int32) then (if v1 = (2 : Int32) then (p5_isOfKind_29 M)
  else (some (0, M)))
  else (some (0, M))
set_option maxHeartbeats 4000000 in
set_option maxRecDepth 100000 in
theorem w5_isOfKind_19 {G : XG} {p : Program} {l : Launch} {e : Env} {s : State} {m : MethodId} {args : Array Value} {below : List Frame} {meth : Method} {c : Code} (F : Fx G ZX p m c cX5_isOfKind 2 s args RX5) (hr : meth.sig.returnType = some .boolean) (hk : meth.locks = false) {r : Int32} {M' : SX} : ∀ (v0 : Int32) (v1 : Int32) (M : SX) (H : Heap) (locs : List Loc) (ls : Array Slot), Wld G ZX M s.heap H locs → lv_has ls 2 [(0, .int v0), (1, .int v1)] → p5_isOfKind_19 v0 v1 M = some (r, M') → WXi G ZX p l e 0 s m args below meth c r M' H locs (F0 m 19 ls []) := by
  intro v0 v1 M H locs ls hw hl hf
  have hx := F.1.1
  have hb := F.1.2.1
  unfold p5_isOfKind_19 at hf
  refine lv_iload_n hx hb dX5_isOfKind_19 rfl (lv_at hl 0 rfl) ?_
  refine lv_iconst (v := 5) hx hb dX5_isOfKind_20 (by decide) ?_
  refine lv_icmp_ne (tgt := 33) hx hb dX5_isOfKind_21 (by decide) (fun c1 => ?_) (fun c1 => ?_)
  · have hf := it_f hf c1
    refine lv_iconst (v := 0) hx hb dX5_isOfKind_33 (by decide) ?_
    exact x_zret F hw hr hk (by decide) hf dX5_isOfKind_34
  · have hf := it_t hf c1
    refine lv_iload_n hx hb dX5_isOfKind_24 rfl (lv_at hl 1 rfl) ?_
    refine lv_iconst (v := 2) hx hb dX5_isOfKind_25 (by decide) ?_
    refine lv_icmp_ne (tgt := 33) hx hb dX5_isOfKind_26 (by decide) (fun c2 => ?_) (fun c2 => ?_)
    · have hf := it_f hf c2
      refine lv_iconst (v := 0) hx hb dX5_isOfKind_33 (by decide) ?_
      exact x_zret F hw hr hk (by decide) hf dX5_isOfKind_34
    · have hf := it_t hf c2
      exact w5_isOfKind_29 F hr hk M _ _ ls hw (lv_sub hl [] rfl) hf
def p5_isOfKind (a1 : Int32) (a2 : Int32) (M : SX) : Option (Int32 × SX) :=
  if a1 = a2 then (p5_isOfKind_29 M)
  else (if a2 = 0 then (p5_isOfKind_29 M)
  else (if a1 = (4 : Int32) then (if a2 = (1 : Int32) then (p5_isOfKind_29 M)
  else (p5_isOfKind_19 a1 a2 M))
  else (p5_isOfKind_19 a1 a2 M)))
set_option maxHeartbeats 4000000 in
set_option maxRecDepth 100000 in
theorem c5_isOfKind {l : Launch} {G : XG} {r : Int32} {M' : SX} {M : SX} (a1 : Int32) (a2 : Int32) (hf : p5_isOfKind a1 a2 M = some (r, M')) : Met l yX5_isOfKind (.code yX5_isOfKind cX5_isOfKind 2 (some .boolean) :: TBL) (rmX 0) (xPc G ZX M [.int a1, .int a2]) (xQi G ZX r M') 0 0 (inA G ZX) := by
  refine x_met (cc := cX5_isOfKind) (by decide) (Nat.le_of_ble_eq_true rfl) ?_
  intro p e s m below meth c ls F hr hk hl hw
  have F : Fx G ZX p m c cX5_isOfKind 2 s [.int a1, .int a2].toArray RX5 := F
  have hl : lv_has ls 2 [(0, .int a1), (1, .int a2)] := hl
  have hx := F.1.1
  have hb := F.1.2.1
  unfold p5_isOfKind at hf
  refine lv_iload_n hx hb dX5_isOfKind_0 rfl (lv_at hl 0 rfl) ?_
  refine lv_iload_n hx hb dX5_isOfKind_1 rfl (lv_at hl 1 rfl) ?_
  refine lv_icmp_eq (tgt := 29) hx hb dX5_isOfKind_2 (by decide) (fun c1 => ?_) (fun c1 => ?_)
  · have hf := it_t hf c1
    exact w5_isOfKind_29 F hr hk M _ _ ls hw (lv_sub hl [] rfl) hf
  · have hf := it_f hf c1
    refine lv_iload_n hx hb dX5_isOfKind_5 rfl (lv_at hl 1 rfl) ?_
    refine lv_if_eq (tgt := 29) hx hb dX5_isOfKind_6 (by decide) (fun c2 => ?_) (fun c2 => ?_)
    · have hf := it_t hf c2
      exact w5_isOfKind_29 F hr hk M _ _ ls hw (lv_sub hl [] rfl) hf
    · have hf := it_f hf c2
      refine lv_iload_n hx hb dX5_isOfKind_9 rfl (lv_at hl 0 rfl) ?_
      refine lv_iconst (v := 4) hx hb dX5_isOfKind_10 (by decide) ?_
      refine lv_icmp_ne (tgt := 19) hx hb dX5_isOfKind_11 (by decide) (fun c3 => ?_) (fun c3 => ?_)
      · have hf := it_f hf c3
        exact w5_isOfKind_19 F hr hk a1 a2 M _ _ ls hw (lv_sub hl [0, 1] rfl) hf
      · have hf := it_t hf c3
        refine lv_iload_n hx hb dX5_isOfKind_14 rfl (lv_at hl 1 rfl) ?_
        refine lv_iconst (v := 1) hx hb dX5_isOfKind_15 (by decide) ?_
        refine lv_icmp_eq (tgt := 29) hx hb dX5_isOfKind_16 (by decide) (fun c4 => ?_) (fun c4 => ?_)
        · have hf := it_t hf c4
          exact w5_isOfKind_29 F hr hk M _ _ ls hw (lv_sub hl [] rfl) hf
        · have hf := it_f hf c4
          exact w5_isOfKind_19 F hr hk a1 a2 M _ _ ls hw (lv_sub hl [0, 1] rfl) hf
theorem dX5_power_0 : decode cX5_power 0 = .ok (.lconst 1, 1) := by decide +kernel
theorem dX5_power_1 : decode cX5_power 1 = .ok (.lstore_n 2, 1) := by decide +kernel
theorem dX5_power_2 : decode cX5_power 2 = .ok (.iconst 0, 1) := by decide +kernel
theorem dX5_power_3 : decode cX5_power 3 = .ok (.istore 4, 2) := by decide +kernel
theorem dX5_power_5 : decode cX5_power 5 = .ok (.iload 4, 2) := by decide +kernel
theorem dX5_power_7 : decode cX5_power 7 = .ok (.iload_n 1, 1) := by decide +kernel
theorem dX5_power_8 : decode cX5_power 8 = .ok (.if_icmp .ge 14, 3) := by decide +kernel
theorem dX5_power_11 : decode cX5_power 11 = .ok (.lload_n 2, 1) := by decide +kernel
theorem dX5_power_12 : decode cX5_power 12 = .ok (.iload_n 0, 1) := by decide +kernel
theorem dX5_power_13 : decode cX5_power 13 = .ok (.i2l, 1) := by decide +kernel
theorem dX5_power_14 : decode cX5_power 14 = .ok (.lmul, 1) := by decide +kernel
theorem dX5_power_15 : decode cX5_power 15 = .ok (.lstore_n 2, 1) := by decide +kernel
theorem dX5_power_16 : decode cX5_power 16 = .ok (.iinc 4 1, 3) := by decide +kernel
theorem dX5_power_19 : decode cX5_power 19 = .ok (.goto (-14), 3) := by decide +kernel
theorem dX5_power_22 : decode cX5_power 22 = .ok (.lload_n 2, 1) := by decide +kernel
theorem dX5_power_23 : decode cX5_power 23 = .ok (.lreturn, 1) := by decide +kernel
def p5_power_5 (k5 : Int32 → Int32 → Int64 → Int32 → SX → Option (Int64 × SX)) (v0 : Int32) (v1 : Int32) (v2 : Int64) (v4 : Int32) (M : SX) : Option (Int64 × SX) :=
  if v1 ≤ v4 then (some (v2, M))
  else (lt_ (v2 * (Int32.toInt64 v0)) (fun x2 => lt_ (v4 + 1) (fun x3 => k5 v0 v1 x2 x3 M)))
set_option maxHeartbeats 4000000 in
set_option maxRecDepth 100000 in
theorem w5_power_5 {G : XG} {p : Program} {l : Launch} {e : Env} {s : State} {m : MethodId} {args : Array Value} {below : List Frame} {meth : Method} {c : Code} (F : Fx G ZX p m c cX5_power 5 s args RX5) (hr : meth.sig.returnType = some .long) (hk : meth.locks = false) {r : Int64} {M' : SX} (k5 : Int32 → Int32 → Int64 → Int32 → SX → Option (Int64 × SX)) (hk5 : ∀ (v0 : Int32) (v1 : Int32) (v2 : Int64) (v4 : Int32) (M : SX) (H : Heap) (locs : List Loc) (ls : Array Slot), Wld G ZX M s.heap H locs → lv_has ls 5 [(0, .int v0), (1, .int v1), (2, .long v2), (4, .int v4)] → k5 v0 v1 v2 v4 M = some (r, M') → WXl G ZX p l e 0 s m args below meth c r M' H locs (F0 m 5 ls [])) : ∀ (v0 : Int32) (v1 : Int32) (v2 : Int64) (v4 : Int32) (M : SX) (H : Heap) (locs : List Loc) (ls : Array Slot), Wld G ZX M s.heap H locs → lv_has ls 5 [(0, .int v0), (1, .int v1), (2, .long v2), (4, .int v4)] → p5_power_5 k5 v0 v1 v2 v4 M = some (r, M') → WXl G ZX p l e 0 s m args below meth c r M' H locs (F0 m 5 ls []) := by
  intro v0 v1 v2 v4 M H locs ls hw hl hf
  have hx := F.1.1
  have hb := F.1.2.1
  unfold p5_power_5 at hf
  refine lv_iload hx hb dX5_power_5 (lv_at hl 3 rfl) ?_
  refine lv_iload_n hx hb dX5_power_7 rfl (lv_at hl 1 rfl) ?_
  refine lv_icmp_ge (tgt := 22) hx hb dX5_power_8 (by decide) (fun c1 => ?_) (fun c1 => ?_)
  · have hf := it_t hf c1
    refine lv_lload_n hx hb dX5_power_22 rfl (lv_at hl 2 rfl) ?_
    exact x_lret F hw hr hk hf dX5_power_23
  · have hf := it_f hf c1
    refine lv_lload_n hx hb dX5_power_11 rfl (lv_at hl 2 rfl) ?_
    refine lv_iload_n hx hb dX5_power_12 rfl (lv_at hl 0 rfl) ?_
    refine lv_i2l (v := Int32.toInt64 v0) hx hb dX5_power_13 rfl ?_
    refine lv_lmul hx hb dX5_power_14 ?_
    obtain ⟨x2, ex2, hf⟩ := lt_elim hf
    refine x_letL ex2 ?_
    refine lv_lstore_n (lv' := [(2, .long x2), (0, .int v0), (1, .int v1), (4, .int v4)]) hx hb dX5_power_15 rfl hl (by decide) rfl (fun ls hl => ?_)
    obtain ⟨x3, ex3, hf⟩ := lt_elim hf
    refine lv_iinc (v := x3) (lv' := [(4, .int x3), (2, .long x2), (0, .int v0), (1, .int v1)]) hx hb dX5_power_16 hl (k := 3) rfl (by rw [ex3]; rfl) (by decide) rfl (fun ls hl => ?_)
    refine lv_goto (tgt := 5) hx hb dX5_power_19 (by decide) ?_
    exact hk5 v0 v1 x2 x3 M _ _ ls hw (lv_sub hl [2, 3, 1, 0] rfl) hf
theorem z5_power_5 {G : XG} {p : Program} {l : Launch} {e : Env} {s : State} {m : MethodId} {args : Array Value} {below : List Frame} {meth : Method} {c : Code} (F : Fx G ZX p m c cX5_power 5 s args RX5) (hr : meth.sig.returnType = some .long) (hk : meth.locks = false) {r : Int64} {M' : SX} : ∀ n : Nat, ∀ (v0 : Int32) (v1 : Int32) (v2 : Int64) (v4 : Int32) (M : SX) (H : Heap) (locs : List Loc) (ls : Array Slot), Wld G ZX M s.heap H locs → lv_has ls 5 [(0, .int v0), (1, .int v1), (2, .long v2), (4, .int v4)] → xlp4 p5_power_5 n v0 v1 v2 v4 M = some (r, M') → WXl G ZX p l e 0 s m args below meth c r M' H locs (F0 m 5 ls []) := by
  intro n
  induction n with
  | zero => intro _ _ _ _ _ _ _ _ _ _ hf; cases hf
  | succ n ih => exact w5_power_5 F hr hk (xlp4 p5_power_5 n) ih
def p5_power (a1 : Int32) (a2 : Int32) (M : SX) : Option (Int64 × SX) :=
  xlp4 p5_power_5 FU a1 a2 1 0 M
set_option maxHeartbeats 4000000 in
set_option maxRecDepth 100000 in
theorem c5_power {l : Launch} {G : XG} {r : Int64} {M' : SX} {M : SX} (a1 : Int32) (a2 : Int32) (hf : p5_power a1 a2 M = some (r, M')) : Met l yX5_power (.code yX5_power cX5_power 5 (some .long) :: TBL) (rmX 0) (xPc G ZX M [.int a1, .int a2]) (xQl G ZX r M') 0 0 (inA G ZX) := by
  refine x_met (cc := cX5_power) (by decide) (Nat.le_of_ble_eq_true rfl) ?_
  intro p e s m below meth c ls F hr hk hl hw
  have F : Fx G ZX p m c cX5_power 5 s [.int a1, .int a2].toArray RX5 := F
  have hl : lv_has ls 5 [(0, .int a1), (1, .int a2)] := hl
  have hx := F.1.1
  have hb := F.1.2.1
  unfold p5_power at hf
  refine lv_lconst (v := 1) hx hb dX5_power_0 (by decide) ?_
  refine lv_lstore_n (lv' := [(2, .long 1), (0, .int a1), (1, .int a2)]) hx hb dX5_power_1 rfl hl (by decide) rfl (fun ls hl => ?_)
  refine lv_iconst (v := 0) hx hb dX5_power_2 (by decide) ?_
  refine lv_istore (lv' := [(4, .int 0), (2, .long 1), (0, .int a1), (1, .int a2)]) hx hb dX5_power_3 hl (by decide) rfl (fun ls hl => ?_)
  exact z5_power_5 F hr hk FU a1 a2 1 0 M _ _ ls hw (lv_sub hl [2, 3, 1, 0] rfl) hf
theorem dX5_commonDivisor_0 : decode cX5_commonDivisor 0 = .ok (.lload_n 0, 1) := by decide +kernel
theorem dX5_commonDivisor_1 : decode cX5_commonDivisor 1 = .ok (.lstore 4, 2) := by decide +kernel
theorem dX5_commonDivisor_3 : decode cX5_commonDivisor 3 = .ok (.lload_n 2, 1) := by decide +kernel
theorem dX5_commonDivisor_4 : decode cX5_commonDivisor 4 = .ok (.lstore 6, 2) := by decide +kernel
theorem dX5_commonDivisor_6 : decode cX5_commonDivisor 6 = .ok (.iconst 0, 1) := by decide +kernel
theorem dX5_commonDivisor_7 : decode cX5_commonDivisor 7 = .ok (.istore 8, 2) := by decide +kernel
theorem dX5_commonDivisor_9 : decode cX5_commonDivisor 9 = .ok (.iload 8, 2) := by decide +kernel
theorem dX5_commonDivisor_11 : decode cX5_commonDivisor 11 = .ok (.bipush 100, 2) := by decide +kernel
theorem dX5_commonDivisor_13 : decode cX5_commonDivisor 13 = .ok (.if_icmp .ge 31, 3) := by decide +kernel
theorem dX5_commonDivisor_16 : decode cX5_commonDivisor 16 = .ok (.lload 6, 2) := by decide +kernel
theorem dX5_commonDivisor_18 : decode cX5_commonDivisor 18 = .ok (.lconst 0, 1) := by decide +kernel
theorem dX5_commonDivisor_19 : decode cX5_commonDivisor 19 = .ok (.lcmp, 1) := by decide +kernel
theorem dX5_commonDivisor_20 : decode cX5_commonDivisor 20 = .ok (.ifCond .eq 24, 3) := by decide +kernel
theorem dX5_commonDivisor_23 : decode cX5_commonDivisor 23 = .ok (.lload 4, 2) := by decide +kernel
theorem dX5_commonDivisor_25 : decode cX5_commonDivisor 25 = .ok (.lload 6, 2) := by decide +kernel
theorem dX5_commonDivisor_27 : decode cX5_commonDivisor 27 = .ok (.lrem, 1) := by decide +kernel
theorem dX5_commonDivisor_28 : decode cX5_commonDivisor 28 = .ok (.lstore 9, 2) := by decide +kernel
theorem dX5_commonDivisor_30 : decode cX5_commonDivisor 30 = .ok (.lload 6, 2) := by decide +kernel
theorem dX5_commonDivisor_32 : decode cX5_commonDivisor 32 = .ok (.lstore 4, 2) := by decide +kernel
theorem dX5_commonDivisor_34 : decode cX5_commonDivisor 34 = .ok (.lload 9, 2) := by decide +kernel
theorem dX5_commonDivisor_36 : decode cX5_commonDivisor 36 = .ok (.lstore 6, 2) := by decide +kernel
theorem dX5_commonDivisor_38 : decode cX5_commonDivisor 38 = .ok (.iinc 8 1, 3) := by decide +kernel
theorem dX5_commonDivisor_41 : decode cX5_commonDivisor 41 = .ok (.goto (-32), 3) := by decide +kernel
theorem dX5_commonDivisor_44 : decode cX5_commonDivisor 44 = .ok (.lload 4, 2) := by decide +kernel
theorem dX5_commonDivisor_46 : decode cX5_commonDivisor 46 = .ok (.lreturn, 1) := by decide +kernel
def p5_commonDivisor_44 (v4 : Int64) (M : SX) : Option (Int64 × SX) :=
  some (v4, M)
set_option maxHeartbeats 4000000 in
set_option maxRecDepth 100000 in
theorem w5_commonDivisor_44 {G : XG} {p : Program} {l : Launch} {e : Env} {s : State} {m : MethodId} {args : Array Value} {below : List Frame} {meth : Method} {c : Code} (F : Fx G ZX p m c cX5_commonDivisor 11 s args RX5) (hr : meth.sig.returnType = some .long) (hk : meth.locks = false) {r : Int64} {M' : SX} : ∀ (v4 : Int64) (M : SX) (H : Heap) (locs : List Loc) (ls : Array Slot), Wld G ZX M s.heap H locs → lv_has ls 11 [(4, .long v4)] → p5_commonDivisor_44 v4 M = some (r, M') → WXl G ZX p l e 0 s m args below meth c r M' H locs (F0 m 44 ls []) := by
  intro v4 M H locs ls hw hl hf
  have hx := F.1.1
  have hb := F.1.2.1
  unfold p5_commonDivisor_44 at hf
  refine lv_lload hx hb dX5_commonDivisor_44 (lv_at hl 0 rfl) ?_
  exact x_lret F hw hr hk hf dX5_commonDivisor_46
def p5_commonDivisor_9 (k9 : Int64 → Int64 → Int32 → SX → Option (Int64 × SX)) (v4 : Int64) (v6 : Int64) (v8 : Int32) (M : SX) : Option (Int64 × SX) :=
  if (100 : Int32) ≤ v8 then (p5_commonDivisor_44 v4 M)
  else (if v6 = 0 then (p5_commonDivisor_44 v4 M)
  else (gd (nzL v6) ( lt_ (v4 - v4 / v6 * v6) (fun x4 => lt_ (v8 + 1) (fun x5 => k9 v6 x4 x5 M)))))
set_option maxHeartbeats 4000000 in
set_option maxRecDepth 100000 in
theorem w5_commonDivisor_9 {G : XG} {p : Program} {l : Launch} {e : Env} {s : State} {m : MethodId} {args : Array Value} {below : List Frame} {meth : Method} {c : Code} (F : Fx G ZX p m c cX5_commonDivisor 11 s args RX5) (hr : meth.sig.returnType = some .long) (hk : meth.locks = false) {r : Int64} {M' : SX} (k9 : Int64 → Int64 → Int32 → SX → Option (Int64 × SX)) (hk9 : ∀ (v4 : Int64) (v6 : Int64) (v8 : Int32) (M : SX) (H : Heap) (locs : List Loc) (ls : Array Slot), Wld G ZX M s.heap H locs → lv_has ls 11 [(4, .long v4), (6, .long v6), (8, .int v8)] → k9 v4 v6 v8 M = some (r, M') → WXl G ZX p l e 0 s m args below meth c r M' H locs (F0 m 9 ls [])) : ∀ (v4 : Int64) (v6 : Int64) (v8 : Int32) (M : SX) (H : Heap) (locs : List Loc) (ls : Array Slot), Wld G ZX M s.heap H locs → lv_has ls 11 [(4, .long v4), (6, .long v6), (8, .int v8)] → p5_commonDivisor_9 k9 v4 v6 v8 M = some (r, M') → WXl G ZX p l e 0 s m args below meth c r M' H locs (F0 m 9 ls []) := by
  intro v4 v6 v8 M H locs ls hw hl hf
  have hx := F.1.1
  have hb := F.1.2.1
  unfold p5_commonDivisor_9 at hf
  refine lv_iload hx hb dX5_commonDivisor_9 (lv_at hl 2 rfl) ?_
  refine lv_bipush (v := 100) hx hb dX5_commonDivisor_11 (by decide) ?_
  refine lv_icmp_ge (tgt := 44) hx hb dX5_commonDivisor_13 (by decide) (fun c1 => ?_) (fun c1 => ?_)
  · have hf := it_t hf c1
    exact w5_commonDivisor_44 F hr hk v4 M _ _ ls hw (lv_sub hl [0] rfl) hf
  · have hf := it_f hf c1
    refine lv_lload hx hb dX5_commonDivisor_16 (lv_at hl 1 rfl) ?_
    refine lv_lconst (v := 0) hx hb dX5_commonDivisor_18 (by decide) ?_
    refine W.lcmp hx hb dX5_commonDivisor_19 ?_
    refine lv_if_eq (tgt := 44) hx hb dX5_commonDivisor_20 (by decide) (fun c2 => ?_) (fun c2 => ?_)
    · have hf := it_t hf ((lc_eq v6 0).mp c2)
      exact w5_commonDivisor_44 F hr hk v4 M _ _ ls hw (lv_sub hl [0] rfl) hf
    · have hf := it_f hf (fun h9 => c2 ((lc_eq v6 0).mpr h9))
      refine lv_lload hx hb dX5_commonDivisor_23 (lv_at hl 0 rfl) ?_
      refine lv_lload hx hb dX5_commonDivisor_25 (lv_at hl 1 rfl) ?_
      obtain ⟨g3, hf⟩ := gd_some hf
      refine lv_lrem hx hb dX5_commonDivisor_27 (nzL_ne g3) ?_
      obtain ⟨x4, ex4, hf⟩ := lt_elim hf
      refine x_letL ex4 ?_
      refine lv_lstore (lv' := [(9, .long x4), (4, .long v4), (6, .long v6), (8, .int v8)]) hx hb dX5_commonDivisor_28 hl (by decide) rfl (fun ls hl => ?_)
      refine lv_lload hx hb dX5_commonDivisor_30 (lv_at hl 2 rfl) ?_
      refine lv_lstore (lv' := [(4, .long v6), (9, .long x4), (6, .long v6), (8, .int v8)]) hx hb dX5_commonDivisor_32 hl (by decide) rfl (fun ls hl => ?_)
      refine lv_lload hx hb dX5_commonDivisor_34 (lv_at hl 1 rfl) ?_
      refine lv_lstore (lv' := [(6, .long x4), (4, .long v6), (9, .long x4), (8, .int v8)]) hx hb dX5_commonDivisor_36 hl (by decide) rfl (fun ls hl => ?_)
      obtain ⟨x5, ex5, hf⟩ := lt_elim hf
      refine lv_iinc (v := x5) (lv' := [(8, .int x5), (6, .long x4), (4, .long v6), (9, .long x4)]) hx hb dX5_commonDivisor_38 hl (k := 3) rfl (by rw [ex5]; rfl) (by decide) rfl (fun ls hl => ?_)
      refine lv_goto (tgt := 9) hx hb dX5_commonDivisor_41 (by decide) ?_
      exact hk9 v6 x4 x5 M _ _ ls hw (lv_sub hl [2, 1, 0] rfl) hf
theorem z5_commonDivisor_9 {G : XG} {p : Program} {l : Launch} {e : Env} {s : State} {m : MethodId} {args : Array Value} {below : List Frame} {meth : Method} {c : Code} (F : Fx G ZX p m c cX5_commonDivisor 11 s args RX5) (hr : meth.sig.returnType = some .long) (hk : meth.locks = false) {r : Int64} {M' : SX} : ∀ n : Nat, ∀ (v4 : Int64) (v6 : Int64) (v8 : Int32) (M : SX) (H : Heap) (locs : List Loc) (ls : Array Slot), Wld G ZX M s.heap H locs → lv_has ls 11 [(4, .long v4), (6, .long v6), (8, .int v8)] → xlp3 p5_commonDivisor_9 n v4 v6 v8 M = some (r, M') → WXl G ZX p l e 0 s m args below meth c r M' H locs (F0 m 9 ls []) := by
  intro n
  induction n with
  | zero => intro _ _ _ _ _ _ _ _ _ hf; cases hf
  | succ n ih => exact w5_commonDivisor_9 F hr hk (xlp3 p5_commonDivisor_9 n) ih
def p5_commonDivisor (a1 : Int64) (a2 : Int64) (M : SX) : Option (Int64 × SX) :=
  xlp3 p5_commonDivisor_9 FU a1 a2 0 M
set_option maxHeartbeats 4000000 in
set_option maxRecDepth 100000 in
theorem c5_commonDivisor {l : Launch} {G : XG} {r : Int64} {M' : SX} {M : SX} (a1 : Int64) (a2 : Int64) (hf : p5_commonDivisor a1 a2 M = some (r, M')) : Met l yX5_commonDivisor (.code yX5_commonDivisor cX5_commonDivisor 11 (some .long) :: TBL) (rmX 0) (xPc G ZX M [.long a1, .long a2]) (xQl G ZX r M') 0 0 (inA G ZX) := by
  refine x_met (cc := cX5_commonDivisor) (by decide) (Nat.le_of_ble_eq_true rfl) ?_
  intro p e s m below meth c ls F hr hk hl hw
  have F : Fx G ZX p m c cX5_commonDivisor 11 s [.long a1, .long a2].toArray RX5 := F
  have hl : lv_has ls 11 [(0, .long a1), (2, .long a2)] := hl
  have hx := F.1.1
  have hb := F.1.2.1
  unfold p5_commonDivisor at hf
  refine lv_lload_n hx hb dX5_commonDivisor_0 rfl (lv_at hl 0 rfl) ?_
  refine lv_lstore (lv' := [(4, .long a1), (0, .long a1), (2, .long a2)]) hx hb dX5_commonDivisor_1 hl (by decide) rfl (fun ls hl => ?_)
  refine lv_lload_n hx hb dX5_commonDivisor_3 rfl (lv_at hl 2 rfl) ?_
  refine lv_lstore (lv' := [(6, .long a2), (4, .long a1), (0, .long a1), (2, .long a2)]) hx hb dX5_commonDivisor_4 hl (by decide) rfl (fun ls hl => ?_)
  refine lv_iconst (v := 0) hx hb dX5_commonDivisor_6 (by decide) ?_
  refine lv_istore (lv' := [(8, .int 0), (6, .long a2), (4, .long a1), (0, .long a1), (2, .long a2)]) hx hb dX5_commonDivisor_7 hl (by decide) rfl (fun ls hl => ?_)
  exact z5_commonDivisor_9 F hr hk FU a1 a2 0 M _ _ ls hw (lv_sub hl [2, 1, 0] rfl) hf
theorem dX5_dueWith_0 : decode cX5_dueWith 0 = .ok (.iload_n 0, 1) := by decide +kernel
theorem dX5_dueWith_1 : decode cX5_dueWith 1 = .ok (.tableswitch 63 1 5 #[35, 37, 43, 49, 57], 35) := by decide +kernel
theorem dX5_dueWith_36 : decode cX5_dueWith 36 = .ok (.iload_n 1, 1) := by decide +kernel
theorem dX5_dueWith_37 : decode cX5_dueWith 37 = .ok (.ireturn, 1) := by decide +kernel
theorem dX5_dueWith_38 : decode cX5_dueWith 38 = .ok (.iload_n 1, 1) := by decide +kernel
theorem dX5_dueWith_39 : decode cX5_dueWith 39 = .ok (.iconst 2, 1) := by decide +kernel
theorem dX5_dueWith_40 : decode cX5_dueWith 40 = .ok (.iload_n 2, 1) := by decide +kernel
theorem dX5_dueWith_41 : decode cX5_dueWith 41 = .ok (.imul, 1) := by decide +kernel
theorem dX5_dueWith_42 : decode cX5_dueWith 42 = .ok (.iadd, 1) := by decide +kernel
theorem dX5_dueWith_43 : decode cX5_dueWith 43 = .ok (.ireturn, 1) := by decide +kernel
theorem dX5_dueWith_44 : decode cX5_dueWith 44 = .ok (.iload_n 1, 1) := by decide +kernel
theorem dX5_dueWith_45 : decode cX5_dueWith 45 = .ok (.iload_n 2, 1) := by decide +kernel
theorem dX5_dueWith_46 : decode cX5_dueWith 46 = .ok (.iconst 2, 1) := by decide +kernel
theorem dX5_dueWith_47 : decode cX5_dueWith 47 = .ok (.idiv, 1) := by decide +kernel
theorem dX5_dueWith_48 : decode cX5_dueWith 48 = .ok (.iadd, 1) := by decide +kernel
theorem dX5_dueWith_49 : decode cX5_dueWith 49 = .ok (.ireturn, 1) := by decide +kernel
theorem dX5_dueWith_50 : decode cX5_dueWith 50 = .ok (.iconst 1, 1) := by decide +kernel
theorem dX5_dueWith_51 : decode cX5_dueWith 51 = .ok (.iload_n 1, 1) := by decide +kernel
theorem dX5_dueWith_52 : decode cX5_dueWith 52 = .ok (.iload_n 2, 1) := by decide +kernel
theorem dX5_dueWith_53 : decode cX5_dueWith 53 = .ok (.isub, 1) := by decide +kernel
theorem dX5_dueWith_54 : decode cX5_dueWith 54 = .ok (.invokestatic 335, 3) := by decide +kernel
theorem dX5_dueWith_57 : decode cX5_dueWith 57 = .ok (.ireturn, 1) := by decide +kernel
theorem dX5_dueWith_58 : decode cX5_dueWith 58 = .ok (.iload_n 1, 1) := by decide +kernel
theorem dX5_dueWith_59 : decode cX5_dueWith 59 = .ok (.iconst 3, 1) := by decide +kernel
theorem dX5_dueWith_60 : decode cX5_dueWith 60 = .ok (.iload_n 2, 1) := by decide +kernel
theorem dX5_dueWith_61 : decode cX5_dueWith 61 = .ok (.imul, 1) := by decide +kernel
theorem dX5_dueWith_62 : decode cX5_dueWith 62 = .ok (.iadd, 1) := by decide +kernel
theorem dX5_dueWith_63 : decode cX5_dueWith 63 = .ok (.ireturn, 1) := by decide +kernel
theorem dX5_dueWith_64 : decode cX5_dueWith 64 = .ok (.iload_n 1, 1) := by decide +kernel
theorem dX5_dueWith_65 : decode cX5_dueWith 65 = .ok (.iload_n 2, 1) := by decide +kernel
theorem dX5_dueWith_66 : decode cX5_dueWith 66 = .ok (.iadd, 1) := by decide +kernel
theorem dX5_dueWith_67 : decode cX5_dueWith 67 = .ok (.ireturn, 1) := by decide +kernel
def p5_dueWith (a1 : Int32) (a2 : Int32) (a3 : Int32) (M : SX) : Option (Int32 × SX) :=
  if a1 = 1 then (some (a2, M))
  else (if a1 = 2 then (some (a2 + (2 * a3), M))
  else (if a1 = 3 then (some (a2 + (a3 / 2), M))
  else (if a1 = 4 then (some (jmax 1 (a2 - a3), M))
  else (if a1 = 5 then (some (a2 + (3 * a3), M))
  else (some (a2 + a3, M))))))
set_option maxHeartbeats 4000000 in
set_option maxRecDepth 100000 in
theorem c5_dueWith {l : Launch} {G : XG} {r : Int32} {M' : SX} {M : SX} (a1 : Int32) (a2 : Int32) (a3 : Int32) (hf : p5_dueWith a1 a2 a3 M = some (r, M')) : Met l yX5_dueWith (.code yX5_dueWith cX5_dueWith 3 (some .int) :: TBL) (rmX 1) (xPc G ZX M [.int a1, .int a2, .int a3]) (xQi G ZX r M') 0 0 (inA G ZX) := by
  refine x_met (cc := cX5_dueWith) (by decide) (Nat.le_of_ble_eq_true rfl) ?_
  intro p e s m below meth c ls F hr hk hl hw
  have F : Fx G ZX p m c cX5_dueWith 3 s [.int a1, .int a2, .int a3].toArray RX5 := F
  have hl : lv_has ls 3 [(0, .int a1), (1, .int a2), (2, .int a3)] := hl
  have hx := F.1.1
  have hb := F.1.2.1
  unfold p5_dueWith at hf
  refine lv_iload_n hx hb dX5_dueWith_0 rfl (lv_at hl 0 rfl) ?_
  by_cases c1 : a1 = 1
  · have hf := it_t hf c1
    refine lv_tableIn (tgt := 36) hx hb dX5_dueWith_1 (by rw [c1]; decide) (by rw [c1]; decide) (by rw [c1]; rfl) (by decide) ?_
    refine lv_iload_n hx hb dX5_dueWith_36 rfl (lv_at hl 1 rfl) ?_
    exact x_iret F hw hr hk hf dX5_dueWith_37
  · have hf := it_f hf c1
    by_cases c2 : a1 = 2
    · have hf := it_t hf c2
      refine lv_tableIn (tgt := 38) hx hb dX5_dueWith_1 (by rw [c2]; decide) (by rw [c2]; decide) (by rw [c2]; rfl) (by decide) ?_
      refine lv_iload_n hx hb dX5_dueWith_38 rfl (lv_at hl 1 rfl) ?_
      refine lv_iconst (v := 2) hx hb dX5_dueWith_39 (by decide) ?_
      refine lv_iload_n hx hb dX5_dueWith_40 rfl (lv_at hl 2 rfl) ?_
      refine lv_imul hx hb dX5_dueWith_41 ?_
      refine lv_iadd hx hb dX5_dueWith_42 ?_
      exact x_iret F hw hr hk hf dX5_dueWith_43
    · have hf := it_f hf c2
      by_cases c3 : a1 = 3
      · have hf := it_t hf c3
        refine lv_tableIn (tgt := 44) hx hb dX5_dueWith_1 (by rw [c3]; decide) (by rw [c3]; decide) (by rw [c3]; rfl) (by decide) ?_
        refine lv_iload_n hx hb dX5_dueWith_44 rfl (lv_at hl 1 rfl) ?_
        refine lv_iload_n hx hb dX5_dueWith_45 rfl (lv_at hl 2 rfl) ?_
        refine lv_iconst (v := 2) hx hb dX5_dueWith_46 (by decide) ?_
        refine lv_idiv hx hb dX5_dueWith_47 (by decide) ?_
        refine lv_iadd hx hb dX5_dueWith_48 ?_
        exact x_iret F hw hr hk hf dX5_dueWith_49
      · have hf := it_f hf c3
        by_cases c4 : a1 = 4
        · have hf := it_t hf c4
          refine lv_tableIn (tgt := 50) hx hb dX5_dueWith_1 (by rw [c4]; decide) (by rw [c4]; decide) (by rw [c4]; rfl) (by decide) ?_
          refine lv_iconst (v := 1) hx hb dX5_dueWith_50 (by decide) ?_
          refine lv_iload_n hx hb dX5_dueWith_51 rfl (lv_at hl 1 rfl) ?_
          refine lv_iload_n hx hb dX5_dueWith_52 rfl (lv_at hl 2 rfl) ?_
          refine lv_isub hx hb dX5_dueWith_53 ?_
          refine x_max F hl.1 tw_4 tw_5 tw_6 tw_7 (Nat.le_of_ble_eq_true rfl) (Nat.le_of_ble_eq_true rfl) dX5_dueWith_54 ?_
          exact x_iret F hw hr hk hf dX5_dueWith_57
        · have hf := it_f hf c4
          by_cases c5 : a1 = 5
          · have hf := it_t hf c5
            refine lv_tableIn (tgt := 58) hx hb dX5_dueWith_1 (by rw [c5]; decide) (by rw [c5]; decide) (by rw [c5]; rfl) (by decide) ?_
            refine lv_iload_n hx hb dX5_dueWith_58 rfl (lv_at hl 1 rfl) ?_
            refine lv_iconst (v := 3) hx hb dX5_dueWith_59 (by decide) ?_
            refine lv_iload_n hx hb dX5_dueWith_60 rfl (lv_at hl 2 rfl) ?_
            refine lv_imul hx hb dX5_dueWith_61 ?_
            refine lv_iadd hx hb dX5_dueWith_62 ?_
            exact x_iret F hw hr hk hf dX5_dueWith_63
          · have hf := it_f hf c5
            have nc1 := x_ne (k := 1) (1) rfl c1
            have nc2 := x_ne (k := 2) (2) rfl c2
            have nc3 := x_ne (k := 3) (3) rfl c3
            have nc4 := x_ne (k := 4) (4) rfl c4
            have nc5 := x_ne (k := 5) (5) rfl c5
            refine lv_tableOut (tgt := 64) hx hb dX5_dueWith_1 (by omega) (by decide) ?_
            refine lv_iload_n hx hb dX5_dueWith_64 rfl (lv_at hl 1 rfl) ?_
            refine lv_iload_n hx hb dX5_dueWith_65 rfl (lv_at hl 2 rfl) ?_
            refine lv_iadd hx hb dX5_dueWith_66 ?_
            exact x_iret F hw hr hk hf dX5_dueWith_67
end
section
theorem dX0_hasRoom_0 : decode cX0_hasRoom 0 = .ok (.aload_n 0, 1) := by decide +kernel
theorem dX0_hasRoom_1 : decode cX0_hasRoom 1 = .ok (.getfield 15, 3) := by decide +kernel
theorem dX0_hasRoom_4 : decode cX0_hasRoom 4 = .ok (.iload_n 1, 1) := by decide +kernel
theorem dX0_hasRoom_5 : decode cX0_hasRoom 5 = .ok (.iadd, 1) := by decide +kernel
theorem dX0_hasRoom_6 : decode cX0_hasRoom 6 = .ok (.bipush 40, 2) := by decide +kernel
theorem dX0_hasRoom_8 : decode cX0_hasRoom 8 = .ok (.if_icmp .gt 7, 3) := by decide +kernel
theorem dX0_hasRoom_11 : decode cX0_hasRoom 11 = .ok (.iconst 1, 1) := by decide +kernel
theorem dX0_hasRoom_12 : decode cX0_hasRoom 12 = .ok (.goto 4, 3) := by decide +kernel
theorem dX0_hasRoom_15 : decode cX0_hasRoom 15 = .ok (.iconst 0, 1) := by decide +kernel
theorem dX0_hasRoom_16 : decode cX0_hasRoom 16 = .ok (.ireturn, 1) := by decide +kernel
def p0_hasRoom (b : Nat) (a1 : Int32) (M : SX) : Option (Int32 × SX) :=
  if (40 : Int32) < ((M.1 b 1) + a1) then (some (0, M))
  else (some (1, M))
set_option maxHeartbeats 4000000 in
set_option maxRecDepth 100000 in
theorem c0_hasRoom {l : Launch} {G : XG} {r : Int32} {M' : SX} {M : SX} (b : Nat) (qb : isD b) (a1 : Int32) (hf : p0_hasRoom b a1 M = some (r, M')) : Met l yX0_hasRoom (.code yX0_hasRoom cX0_hasRoom 2 (some .boolean) :: TBL) (rmX 0) (xPc G ZX M [.ref (G.2.1 b), .int a1]) (xQi G ZX r M') 0 0 (inA G ZX) := by
  refine x_met (cc := cX0_hasRoom) (by decide) (Nat.le_of_ble_eq_true rfl) ?_
  intro p e s m below meth c ls F hr hk hl hw
  have F : Fx G ZX p m c cX0_hasRoom 2 s [.ref (G.2.1 b), .int a1].toArray RX0 := F
  have hl : lv_has ls 2 [(0, .ref (G.2.1 b)), (1, .int a1)] := hl
  have hx := F.1.1
  have hb := F.1.2.1
  unfold p0_hasRoom at hf
  refine lv_aload_n hx hb dX0_hasRoom_0 rfl (lv_at hl 0 rfl) ?_
  refine g0_1 qb F hw tw_8 dX0_hasRoom_1 ?_
  refine lv_iload_n hx hb dX0_hasRoom_4 rfl (lv_at hl 1 rfl) ?_
  refine lv_iadd hx hb dX0_hasRoom_5 ?_
  refine lv_bipush (v := 40) hx hb dX0_hasRoom_6 (by decide) ?_
  refine lv_icmp_gt (tgt := 15) hx hb dX0_hasRoom_8 (by decide) (fun c1 => ?_) (fun c1 => ?_)
  · have hf := it_t hf c1
    refine lv_iconst (v := 0) hx hb dX0_hasRoom_15 (by decide) ?_
    exact x_zret F hw hr hk (by decide) hf dX0_hasRoom_16
  · have hf := it_f hf c1
    refine lv_iconst (v := 1) hx hb dX0_hasRoom_11 (by decide) ?_
    refine lv_goto (tgt := 16) hx hb dX0_hasRoom_12 (by decide) ?_
    exact x_zret F hw hr hk (by decide) hf dX0_hasRoom_16
theorem dX0_removeLast_0 : decode cX0_removeLast 0 = .ok (.aload_n 0, 1) := by decide +kernel
theorem dX0_removeLast_1 : decode cX0_removeLast 1 = .ok (.getfield 15, 3) := by decide +kernel
theorem dX0_removeLast_4 : decode cX0_removeLast 4 = .ok (.ifCond .le 13, 3) := by decide +kernel
theorem dX0_removeLast_7 : decode cX0_removeLast 7 = .ok (.aload_n 0, 1) := by decide +kernel
theorem dX0_removeLast_8 : decode cX0_removeLast 8 = .ok (.dup, 1) := by decide +kernel
theorem dX0_removeLast_9 : decode cX0_removeLast 9 = .ok (.getfield 15, 3) := by decide +kernel
theorem dX0_removeLast_12 : decode cX0_removeLast 12 = .ok (.iconst 1, 1) := by decide +kernel
theorem dX0_removeLast_13 : decode cX0_removeLast 13 = .ok (.isub, 1) := by decide +kernel
theorem dX0_removeLast_14 : decode cX0_removeLast 14 = .ok (.putfield 15, 3) := by decide +kernel
theorem dX0_removeLast_17 : decode cX0_removeLast 17 = .ok (.return_, 1) := by decide +kernel
def p0_removeLast (b : Nat) (M : SX) : Option SX :=
  if (M.1 b 1) ≤ 0 then (some M)
  else (lt_ (wI M b 1 ((M.1 b 1) - 1)) (fun M2 => some M2))
set_option maxHeartbeats 4000000 in
set_option maxRecDepth 100000 in
theorem c0_removeLast {l : Launch} {G : XG} {M' : SX} {M : SX} (b : Nat) (qb : isD b) (hf : p0_removeLast b M = some M') : Met l yX0_removeLast (.code yX0_removeLast cX0_removeLast 1 none :: TBL) (rmX 0) (xPc G ZX M [.ref (G.2.1 b)]) (xQv G ZX M') 0 0 (inA G ZX) := by
  refine x_met (cc := cX0_removeLast) (by decide) (Nat.le_of_ble_eq_true rfl) ?_
  intro p e s m below meth c ls F hr hk hl hw
  have F : Fx G ZX p m c cX0_removeLast 1 s [.ref (G.2.1 b)].toArray RX0 := F
  have hl : lv_has ls 1 [(0, .ref (G.2.1 b))] := hl
  have hx := F.1.1
  have hb := F.1.2.1
  unfold p0_removeLast at hf
  refine lv_aload_n hx hb dX0_removeLast_0 rfl (lv_at hl 0 rfl) ?_
  refine g0_1 qb F hw tw_8 dX0_removeLast_1 ?_
  refine lv_if_le (tgt := 17) hx hb dX0_removeLast_4 (by decide) (fun c1 => ?_) (fun c1 => ?_)
  · have hf := it_t hf c1
    exact x_vret F hw hr hk hf dX0_removeLast_17
  · have hf := it_f hf c1
    refine lv_aload_n hx hb dX0_removeLast_7 rfl (lv_at hl 0 rfl) ?_
    refine lv_dup hx hb dX0_removeLast_8 rfl ?_
    refine g0_1 qb F hw tw_8 dX0_removeLast_9 ?_
    refine lv_iconst (v := 1) hx hb dX0_removeLast_12 (by decide) ?_
    refine lv_isub hx hb dX0_removeLast_13 ?_
    refine s0_1 qb F hw tw_8 dX0_removeLast_14 (fun H locs hw => ?_)
    obtain ⟨M2, eM2, hf⟩ := lt_elim hf
    rw [← eM2] at hw
    exact x_vret F hw hr hk hf dX0_removeLast_17
theorem dX0_whatOf_0 : decode cX0_whatOf 0 = .ok (.aload_n 0, 1) := by decide +kernel
theorem dX0_whatOf_1 : decode cX0_whatOf 1 = .ok (.getfield 9, 3) := by decide +kernel
theorem dX0_whatOf_4 : decode cX0_whatOf 4 = .ok (.iload_n 1, 1) := by decide +kernel
theorem dX0_whatOf_5 : decode cX0_whatOf 5 = .ok (.iaload, 1) := by decide +kernel
theorem dX0_whatOf_6 : decode cX0_whatOf 6 = .ok (.iconst 3, 1) := by decide +kernel
theorem dX0_whatOf_7 : decode cX0_whatOf 7 = .ok (.iand, 1) := by decide +kernel
theorem dX0_whatOf_8 : decode cX0_whatOf 8 = .ok (.ireturn, 1) := by decide +kernel
def p0_whatOf (b : Nat) (a1 : Int32) (M : SX) : Option (Int32 × SX) :=
  gd (bIn a1 40) ( some ((M.1 (b + 1) (Int32.toNatClampNeg a1)) &&& 3, M))
set_option maxHeartbeats 4000000 in
set_option maxRecDepth 100000 in
theorem c0_whatOf {l : Launch} {G : XG} {r : Int32} {M' : SX} {M : SX} (b : Nat) (qb : isD b) (a1 : Int32) (hf : p0_whatOf b a1 M = some (r, M')) : Met l yX0_whatOf (.code yX0_whatOf cX0_whatOf 2 (some .int) :: TBL) (rmX 0) (xPc G ZX M [.ref (G.2.1 b), .int a1]) (xQi G ZX r M') 0 0 (inA G ZX) := by
  refine x_met (cc := cX0_whatOf) (by decide) (Nat.le_of_ble_eq_true rfl) ?_
  intro p e s m below meth c ls F hr hk hl hw
  have F : Fx G ZX p m c cX0_whatOf 2 s [.ref (G.2.1 b), .int a1].toArray RX0 := F
  have hl : lv_has ls 2 [(0, .ref (G.2.1 b)), (1, .int a1)] := hl
  have hx := F.1.1
  have hb := F.1.2.1
  unfold p0_whatOf at hf
  refine lv_aload_n hx hb dX0_whatOf_0 rfl (lv_at hl 0 rfl) ?_
  refine g0_0 qb F hw tw_9 dX0_whatOf_1 ?_
  refine lv_iload_n hx hb dX0_whatOf_4 rfl (lv_at hl 1 rfl) ?_
  obtain ⟨g1, hf⟩ := gd_some hf
  refine x_iald F hw (sD1 qb) g1 dX0_whatOf_5 ?_
  refine lv_iconst (v := 3) hx hb dX0_whatOf_6 (by decide) ?_
  refine lv_iand hx hb dX0_whatOf_7 ?_
  exact x_iret F hw hr hk hf dX0_whatOf_8
theorem dX0_shopOf_0 : decode cX0_shopOf 0 = .ok (.aload_n 0, 1) := by decide +kernel
theorem dX0_shopOf_1 : decode cX0_shopOf 1 = .ok (.getfield 9, 3) := by decide +kernel
theorem dX0_shopOf_4 : decode cX0_shopOf 4 = .ok (.iload_n 1, 1) := by decide +kernel
theorem dX0_shopOf_5 : decode cX0_shopOf 5 = .ok (.iaload, 1) := by decide +kernel
theorem dX0_shopOf_6 : decode cX0_shopOf 6 = .ok (.iconst 2, 1) := by decide +kernel
theorem dX0_shopOf_7 : decode cX0_shopOf 7 = .ok (.ishr, 1) := by decide +kernel
theorem dX0_shopOf_8 : decode cX0_shopOf 8 = .ok (.bipush 7, 2) := by decide +kernel
theorem dX0_shopOf_10 : decode cX0_shopOf 10 = .ok (.iand, 1) := by decide +kernel
theorem dX0_shopOf_11 : decode cX0_shopOf 11 = .ok (.ireturn, 1) := by decide +kernel
def p0_shopOf (b : Nat) (a1 : Int32) (M : SX) : Option (Int32 × SX) :=
  gd (bIn a1 40) ( some (((M.1 (b + 1) (Int32.toNatClampNeg a1)) >>> ((2 : Int32) &&& 31)) &&& 7, M))
set_option maxHeartbeats 4000000 in
set_option maxRecDepth 100000 in
theorem c0_shopOf {l : Launch} {G : XG} {r : Int32} {M' : SX} {M : SX} (b : Nat) (qb : isD b) (a1 : Int32) (hf : p0_shopOf b a1 M = some (r, M')) : Met l yX0_shopOf (.code yX0_shopOf cX0_shopOf 2 (some .int) :: TBL) (rmX 0) (xPc G ZX M [.ref (G.2.1 b), .int a1]) (xQi G ZX r M') 0 0 (inA G ZX) := by
  refine x_met (cc := cX0_shopOf) (by decide) (Nat.le_of_ble_eq_true rfl) ?_
  intro p e s m below meth c ls F hr hk hl hw
  have F : Fx G ZX p m c cX0_shopOf 2 s [.ref (G.2.1 b), .int a1].toArray RX0 := F
  have hl : lv_has ls 2 [(0, .ref (G.2.1 b)), (1, .int a1)] := hl
  have hx := F.1.1
  have hb := F.1.2.1
  unfold p0_shopOf at hf
  refine lv_aload_n hx hb dX0_shopOf_0 rfl (lv_at hl 0 rfl) ?_
  refine g0_0 qb F hw tw_9 dX0_shopOf_1 ?_
  refine lv_iload_n hx hb dX0_shopOf_4 rfl (lv_at hl 1 rfl) ?_
  obtain ⟨g1, hf⟩ := gd_some hf
  refine x_iald F hw (sD1 qb) g1 dX0_shopOf_5 ?_
  refine lv_iconst (v := 2) hx hb dX0_shopOf_6 (by decide) ?_
  refine lv_ishr hx hb dX0_shopOf_7 ?_
  refine lv_bipush (v := 7) hx hb dX0_shopOf_8 (by decide) ?_
  refine lv_iand hx hb dX0_shopOf_10 ?_
  exact x_iret F hw hr hk hf dX0_shopOf_11
theorem dX0_otherOf_0 : decode cX0_otherOf 0 = .ok (.aload_n 0, 1) := by decide +kernel
theorem dX0_otherOf_1 : decode cX0_otherOf 1 = .ok (.getfield 9, 3) := by decide +kernel
theorem dX0_otherOf_4 : decode cX0_otherOf 4 = .ok (.iload_n 1, 1) := by decide +kernel
theorem dX0_otherOf_5 : decode cX0_otherOf 5 = .ok (.iaload, 1) := by decide +kernel
theorem dX0_otherOf_6 : decode cX0_otherOf 6 = .ok (.iconst 5, 1) := by decide +kernel
theorem dX0_otherOf_7 : decode cX0_otherOf 7 = .ok (.ishr, 1) := by decide +kernel
theorem dX0_otherOf_8 : decode cX0_otherOf 8 = .ok (.bipush 7, 2) := by decide +kernel
theorem dX0_otherOf_10 : decode cX0_otherOf 10 = .ok (.iand, 1) := by decide +kernel
theorem dX0_otherOf_11 : decode cX0_otherOf 11 = .ok (.ireturn, 1) := by decide +kernel
def p0_otherOf (b : Nat) (a1 : Int32) (M : SX) : Option (Int32 × SX) :=
  gd (bIn a1 40) ( some (((M.1 (b + 1) (Int32.toNatClampNeg a1)) >>> ((5 : Int32) &&& 31)) &&& 7, M))
set_option maxHeartbeats 4000000 in
set_option maxRecDepth 100000 in
theorem c0_otherOf {l : Launch} {G : XG} {r : Int32} {M' : SX} {M : SX} (b : Nat) (qb : isD b) (a1 : Int32) (hf : p0_otherOf b a1 M = some (r, M')) : Met l yX0_otherOf (.code yX0_otherOf cX0_otherOf 2 (some .int) :: TBL) (rmX 0) (xPc G ZX M [.ref (G.2.1 b), .int a1]) (xQi G ZX r M') 0 0 (inA G ZX) := by
  refine x_met (cc := cX0_otherOf) (by decide) (Nat.le_of_ble_eq_true rfl) ?_
  intro p e s m below meth c ls F hr hk hl hw
  have F : Fx G ZX p m c cX0_otherOf 2 s [.ref (G.2.1 b), .int a1].toArray RX0 := F
  have hl : lv_has ls 2 [(0, .ref (G.2.1 b)), (1, .int a1)] := hl
  have hx := F.1.1
  have hb := F.1.2.1
  unfold p0_otherOf at hf
  refine lv_aload_n hx hb dX0_otherOf_0 rfl (lv_at hl 0 rfl) ?_
  refine g0_0 qb F hw tw_9 dX0_otherOf_1 ?_
  refine lv_iload_n hx hb dX0_otherOf_4 rfl (lv_at hl 1 rfl) ?_
  obtain ⟨g1, hf⟩ := gd_some hf
  refine x_iald F hw (sD1 qb) g1 dX0_otherOf_5 ?_
  refine lv_iconst (v := 5) hx hb dX0_otherOf_6 (by decide) ?_
  refine lv_ishr hx hb dX0_otherOf_7 ?_
  refine lv_bipush (v := 7) hx hb dX0_otherOf_8 (by decide) ?_
  refine lv_iand hx hb dX0_otherOf_10 ?_
  exact x_iret F hw hr hk hf dX0_otherOf_11
theorem dX0_numberOf_0 : decode cX0_numberOf 0 = .ok (.aload_n 0, 1) := by decide +kernel
theorem dX0_numberOf_1 : decode cX0_numberOf 1 = .ok (.getfield 9, 3) := by decide +kernel
theorem dX0_numberOf_4 : decode cX0_numberOf 4 = .ok (.iload_n 1, 1) := by decide +kernel
theorem dX0_numberOf_5 : decode cX0_numberOf 5 = .ok (.iaload, 1) := by decide +kernel
theorem dX0_numberOf_6 : decode cX0_numberOf 6 = .ok (.bipush 8, 2) := by decide +kernel
theorem dX0_numberOf_8 : decode cX0_numberOf 8 = .ok (.ishr, 1) := by decide +kernel
theorem dX0_numberOf_9 : decode cX0_numberOf 9 = .ok (.bipush 127, 2) := by decide +kernel
theorem dX0_numberOf_11 : decode cX0_numberOf 11 = .ok (.iand, 1) := by decide +kernel
theorem dX0_numberOf_12 : decode cX0_numberOf 12 = .ok (.ireturn, 1) := by decide +kernel
def p0_numberOf (b : Nat) (a1 : Int32) (M : SX) : Option (Int32 × SX) :=
  gd (bIn a1 40) ( some (((M.1 (b + 1) (Int32.toNatClampNeg a1)) >>> ((8 : Int32) &&& 31)) &&& 127, M))
set_option maxHeartbeats 4000000 in
set_option maxRecDepth 100000 in
theorem c0_numberOf {l : Launch} {G : XG} {r : Int32} {M' : SX} {M : SX} (b : Nat) (qb : isD b) (a1 : Int32) (hf : p0_numberOf b a1 M = some (r, M')) : Met l yX0_numberOf (.code yX0_numberOf cX0_numberOf 2 (some .int) :: TBL) (rmX 0) (xPc G ZX M [.ref (G.2.1 b), .int a1]) (xQi G ZX r M') 0 0 (inA G ZX) := by
  refine x_met (cc := cX0_numberOf) (by decide) (Nat.le_of_ble_eq_true rfl) ?_
  intro p e s m below meth c ls F hr hk hl hw
  have F : Fx G ZX p m c cX0_numberOf 2 s [.ref (G.2.1 b), .int a1].toArray RX0 := F
  have hl : lv_has ls 2 [(0, .ref (G.2.1 b)), (1, .int a1)] := hl
  have hx := F.1.1
  have hb := F.1.2.1
  unfold p0_numberOf at hf
  refine lv_aload_n hx hb dX0_numberOf_0 rfl (lv_at hl 0 rfl) ?_
  refine g0_0 qb F hw tw_9 dX0_numberOf_1 ?_
  refine lv_iload_n hx hb dX0_numberOf_4 rfl (lv_at hl 1 rfl) ?_
  obtain ⟨g1, hf⟩ := gd_some hf
  refine x_iald F hw (sD1 qb) g1 dX0_numberOf_5 ?_
  refine lv_bipush (v := 8) hx hb dX0_numberOf_6 (by decide) ?_
  refine lv_ishr hx hb dX0_numberOf_8 ?_
  refine lv_bipush (v := 127) hx hb dX0_numberOf_9 (by decide) ?_
  refine lv_iand hx hb dX0_numberOf_11 ?_
  exact x_iret F hw hr hk hf dX0_numberOf_12
theorem dX0_weeksOf_0 : decode cX0_weeksOf 0 = .ok (.aload_n 0, 1) := by decide +kernel
theorem dX0_weeksOf_1 : decode cX0_weeksOf 1 = .ok (.getfield 9, 3) := by decide +kernel
theorem dX0_weeksOf_4 : decode cX0_weeksOf 4 = .ok (.iload_n 1, 1) := by decide +kernel
theorem dX0_weeksOf_5 : decode cX0_weeksOf 5 = .ok (.iaload, 1) := by decide +kernel
theorem dX0_weeksOf_6 : decode cX0_weeksOf 6 = .ok (.bipush 15, 2) := by decide +kernel
theorem dX0_weeksOf_8 : decode cX0_weeksOf 8 = .ok (.ishr, 1) := by decide +kernel
theorem dX0_weeksOf_9 : decode cX0_weeksOf 9 = .ok (.bipush 127, 2) := by decide +kernel
theorem dX0_weeksOf_11 : decode cX0_weeksOf 11 = .ok (.iand, 1) := by decide +kernel
theorem dX0_weeksOf_12 : decode cX0_weeksOf 12 = .ok (.ireturn, 1) := by decide +kernel
def p0_weeksOf (b : Nat) (a1 : Int32) (M : SX) : Option (Int32 × SX) :=
  gd (bIn a1 40) ( some (((M.1 (b + 1) (Int32.toNatClampNeg a1)) >>> ((15 : Int32) &&& 31)) &&& 127, M))
set_option maxHeartbeats 4000000 in
set_option maxRecDepth 100000 in
theorem c0_weeksOf {l : Launch} {G : XG} {r : Int32} {M' : SX} {M : SX} (b : Nat) (qb : isD b) (a1 : Int32) (hf : p0_weeksOf b a1 M = some (r, M')) : Met l yX0_weeksOf (.code yX0_weeksOf cX0_weeksOf 2 (some .int) :: TBL) (rmX 0) (xPc G ZX M [.ref (G.2.1 b), .int a1]) (xQi G ZX r M') 0 0 (inA G ZX) := by
  refine x_met (cc := cX0_weeksOf) (by decide) (Nat.le_of_ble_eq_true rfl) ?_
  intro p e s m below meth c ls F hr hk hl hw
  have F : Fx G ZX p m c cX0_weeksOf 2 s [.ref (G.2.1 b), .int a1].toArray RX0 := F
  have hl : lv_has ls 2 [(0, .ref (G.2.1 b)), (1, .int a1)] := hl
  have hx := F.1.1
  have hb := F.1.2.1
  unfold p0_weeksOf at hf
  refine lv_aload_n hx hb dX0_weeksOf_0 rfl (lv_at hl 0 rfl) ?_
  refine g0_0 qb F hw tw_9 dX0_weeksOf_1 ?_
  refine lv_iload_n hx hb dX0_weeksOf_4 rfl (lv_at hl 1 rfl) ?_
  obtain ⟨g1, hf⟩ := gd_some hf
  refine x_iald F hw (sD1 qb) g1 dX0_weeksOf_5 ?_
  refine lv_bipush (v := 15) hx hb dX0_weeksOf_6 (by decide) ?_
  refine lv_ishr hx hb dX0_weeksOf_8 ?_
  refine lv_bipush (v := 127) hx hb dX0_weeksOf_9 (by decide) ?_
  refine lv_iand hx hb dX0_weeksOf_11 ?_
  exact x_iret F hw hr hk hf dX0_weeksOf_12
theorem dX0_add_0 : decode cX0_add 0 = .ok (.aload_n 0, 1) := by decide +kernel
theorem dX0_add_1 : decode cX0_add 1 = .ok (.iconst 1, 1) := by decide +kernel
theorem dX0_add_2 : decode cX0_add 2 = .ok (.invokevirtual 19, 3) := by decide +kernel
theorem dX0_add_5 : decode cX0_add 5 = .ok (.ifCond .ne 4, 3) := by decide +kernel
theorem dX0_add_8 : decode cX0_add 8 = .ok (.return_, 1) := by decide +kernel
theorem dX0_add_9 : decode cX0_add 9 = .ok (.aload_n 0, 1) := by decide +kernel
theorem dX0_add_10 : decode cX0_add 10 = .ok (.getfield 9, 3) := by decide +kernel
theorem dX0_add_13 : decode cX0_add 13 = .ok (.aload_n 0, 1) := by decide +kernel
theorem dX0_add_14 : decode cX0_add 14 = .ok (.getfield 15, 3) := by decide +kernel
theorem dX0_add_17 : decode cX0_add 17 = .ok (.iload_n 1, 1) := by decide +kernel
theorem dX0_add_18 : decode cX0_add 18 = .ok (.iload_n 2, 1) := by decide +kernel
theorem dX0_add_19 : decode cX0_add 19 = .ok (.iconst 2, 1) := by decide +kernel
theorem dX0_add_20 : decode cX0_add 20 = .ok (.ishl, 1) := by decide +kernel
theorem dX0_add_21 : decode cX0_add 21 = .ok (.ior, 1) := by decide +kernel
theorem dX0_add_22 : decode cX0_add 22 = .ok (.iload_n 3, 1) := by decide +kernel
theorem dX0_add_23 : decode cX0_add 23 = .ok (.iconst 5, 1) := by decide +kernel
theorem dX0_add_24 : decode cX0_add 24 = .ok (.ishl, 1) := by decide +kernel
theorem dX0_add_25 : decode cX0_add 25 = .ok (.ior, 1) := by decide +kernel
theorem dX0_add_26 : decode cX0_add 26 = .ok (.iload 4, 2) := by decide +kernel
theorem dX0_add_28 : decode cX0_add 28 = .ok (.bipush 8, 2) := by decide +kernel
theorem dX0_add_30 : decode cX0_add 30 = .ok (.ishl, 1) := by decide +kernel
theorem dX0_add_31 : decode cX0_add 31 = .ok (.ior, 1) := by decide +kernel
theorem dX0_add_32 : decode cX0_add 32 = .ok (.iload 5, 2) := by decide +kernel
theorem dX0_add_34 : decode cX0_add 34 = .ok (.bipush 15, 2) := by decide +kernel
theorem dX0_add_36 : decode cX0_add 36 = .ok (.ishl, 1) := by decide +kernel
theorem dX0_add_37 : decode cX0_add 37 = .ok (.ior, 1) := by decide +kernel
theorem dX0_add_38 : decode cX0_add 38 = .ok (.iastore, 1) := by decide +kernel
theorem dX0_add_39 : decode cX0_add 39 = .ok (.aload_n 0, 1) := by decide +kernel
theorem dX0_add_40 : decode cX0_add 40 = .ok (.dup, 1) := by decide +kernel
theorem dX0_add_41 : decode cX0_add 41 = .ok (.getfield 15, 3) := by decide +kernel
theorem dX0_add_44 : decode cX0_add 44 = .ok (.iconst 1, 1) := by decide +kernel
theorem dX0_add_45 : decode cX0_add 45 = .ok (.iadd, 1) := by decide +kernel
theorem dX0_add_46 : decode cX0_add 46 = .ok (.putfield 15, 3) := by decide +kernel
theorem dX0_add_49 : decode cX0_add 49 = .ok (.return_, 1) := by decide +kernel
def p0_add (b : Nat) (a1 : Int32) (a2 : Int32) (a3 : Int32) (a4 : Int32) (a5 : Int32) (M : SX) : Option SX :=
  bd (p0_hasRoom b 1 M) (fun r3 M2 => if r3 = 0 then (some M2)
  else (gd (bIn (M2.1 b 1) 40) ( lt_ (wI M2 (b + 1) (Int32.toNatClampNeg (M2.1 b 1)) ((((a1 ||| (a2 <<< ((2 : Int32) &&& 31))) ||| (a3 <<< ((5 : Int32) &&& 31))) ||| (a4 <<< ((8 : Int32) &&& 31))) ||| (a5 <<< ((15 : Int32) &&& 31)))) (fun M6 => lt_ (wI M6 b 1 ((M6.1 b 1) + 1)) (fun M7 => some M7)))))
set_option maxHeartbeats 4000000 in
set_option maxRecDepth 100000 in
theorem c0_add {l : Launch} {G : XG} {M' : SX} {M : SX} (b : Nat) (qb : isD b) (a1 : Int32) (a2 : Int32) (a3 : Int32) (a4 : Int32) (a5 : Int32) (hf : p0_add b a1 a2 a3 a4 a5 M = some M') : Met l yX0_add (.code yX0_add cX0_add 6 none :: TBL) (rmX 1) (xPc G ZX M [.ref (G.2.1 b), .int a1, .int a2, .int a3, .int a4, .int a5]) (xQv G ZX M') 0 0 (inA G ZX) := by
  refine x_met (cc := cX0_add) (by decide) (Nat.le_of_ble_eq_true rfl) ?_
  intro p e s m below meth c ls F hr hk hl hw
  have F : Fx G ZX p m c cX0_add 6 s [.ref (G.2.1 b), .int a1, .int a2, .int a3, .int a4, .int a5].toArray RX0 := F
  have hl : lv_has ls 6 [(0, .ref (G.2.1 b)), (1, .int a1), (2, .int a2), (3, .int a3), (4, .int a4), (5, .int a5)] := hl
  have hx := F.1.1
  have hb := F.1.2.1
  unfold p0_add at hf
  refine lv_aload_n hx hb dX0_add_0 rfl (lv_at hl 0 rfl) ?_
  refine lv_iconst (v := 1) hx hb dX0_add_1 (by decide) ?_
  obtain ⟨r3, M2, hc1, hf⟩ := bd_some hf
  refine x_aftI hw (x_runV (rest := []) F hw hl.1 vw_RX0_19 (sD qb) rfl (c0_hasRoom b qb 1 hc1) rfl rfl (Nat.le_of_ble_eq_true rfl) ⟨Nat.le_of_ble_eq_true rfl, Nat.le_of_ble_eq_true rfl⟩ dX0_add_2) (fun H locs hw => ?_)
  refine lv_if_ne (tgt := 9) hx hb dX0_add_5 (by decide) (fun c4 => ?_) (fun c4 => ?_)
  · have hf := it_f hf c4
    refine lv_aload_n hx hb dX0_add_9 rfl (lv_at hl 0 rfl) ?_
    refine g0_0 qb F hw tw_9 dX0_add_10 ?_
    refine lv_aload_n hx hb dX0_add_13 rfl (lv_at hl 0 rfl) ?_
    refine g0_1 qb F hw tw_8 dX0_add_14 ?_
    refine lv_iload_n hx hb dX0_add_17 rfl (lv_at hl 1 rfl) ?_
    refine lv_iload_n hx hb dX0_add_18 rfl (lv_at hl 2 rfl) ?_
    refine lv_iconst (v := 2) hx hb dX0_add_19 (by decide) ?_
    refine lv_ishl hx hb dX0_add_20 ?_
    refine lv_ior hx hb dX0_add_21 ?_
    refine lv_iload_n hx hb dX0_add_22 rfl (lv_at hl 3 rfl) ?_
    refine lv_iconst (v := 5) hx hb dX0_add_23 (by decide) ?_
    refine lv_ishl hx hb dX0_add_24 ?_
    refine lv_ior hx hb dX0_add_25 ?_
    refine lv_iload hx hb dX0_add_26 (lv_at hl 4 rfl) ?_
    refine lv_bipush (v := 8) hx hb dX0_add_28 (by decide) ?_
    refine lv_ishl hx hb dX0_add_30 ?_
    refine lv_ior hx hb dX0_add_31 ?_
    refine lv_iload hx hb dX0_add_32 (lv_at hl 5 rfl) ?_
    refine lv_bipush (v := 15) hx hb dX0_add_34 (by decide) ?_
    refine lv_ishl hx hb dX0_add_36 ?_
    refine lv_ior hx hb dX0_add_37 ?_
    obtain ⟨g5, hf⟩ := gd_some hf
    refine x_iast F hw (sD1 qb) g5 dX0_add_38 (fun H locs hw => ?_)
    obtain ⟨M6, eM6, hf⟩ := lt_elim hf
    rw [← eM6] at hw
    refine lv_aload_n hx hb dX0_add_39 rfl (lv_at hl 0 rfl) ?_
    refine lv_dup hx hb dX0_add_40 rfl ?_
    refine g0_1 qb F hw tw_8 dX0_add_41 ?_
    refine lv_iconst (v := 1) hx hb dX0_add_44 (by decide) ?_
    refine lv_iadd hx hb dX0_add_45 ?_
    refine s0_1 qb F hw tw_8 dX0_add_46 (fun H locs hw => ?_)
    obtain ⟨M7, eM7, hf⟩ := lt_elim hf
    rw [← eM7] at hw
    exact x_vret F hw hr hk hf dX0_add_49
  · have hf := it_t hf c4
    exact x_vret F hw hr hk hf dX0_add_8
theorem dX0_becomeLike_0 : decode cX0_becomeLike 0 = .ok (.aload_n 1, 1) := by decide +kernel
theorem dX0_becomeLike_1 : decode cX0_becomeLike 1 = .ok (.getfield 9, 3) := by decide +kernel
theorem dX0_becomeLike_4 : decode cX0_becomeLike 4 = .ok (.iconst 0, 1) := by decide +kernel
theorem dX0_becomeLike_5 : decode cX0_becomeLike 5 = .ok (.aload_n 0, 1) := by decide +kernel
theorem dX0_becomeLike_6 : decode cX0_becomeLike 6 = .ok (.getfield 9, 3) := by decide +kernel
theorem dX0_becomeLike_9 : decode cX0_becomeLike 9 = .ok (.iconst 0, 1) := by decide +kernel
theorem dX0_becomeLike_10 : decode cX0_becomeLike 10 = .ok (.bipush 40, 2) := by decide +kernel
theorem dX0_becomeLike_12 : decode cX0_becomeLike 12 = .ok (.invokestatic 23, 3) := by decide +kernel
theorem dX0_becomeLike_15 : decode cX0_becomeLike 15 = .ok (.aload_n 0, 1) := by decide +kernel
theorem dX0_becomeLike_16 : decode cX0_becomeLike 16 = .ok (.aload_n 1, 1) := by decide +kernel
theorem dX0_becomeLike_17 : decode cX0_becomeLike 17 = .ok (.getfield 15, 3) := by decide +kernel
theorem dX0_becomeLike_20 : decode cX0_becomeLike 20 = .ok (.putfield 15, 3) := by decide +kernel
theorem dX0_becomeLike_23 : decode cX0_becomeLike 23 = .ok (.return_, 1) := by decide +kernel
def p0_becomeLike (b : Nat) (b2 : Nat) (M : SX) : Option SX :=
  gd (cpOk 0 0 40 40 40) ( lt_ (wR M (b + 1) (va_cpy (M.1 (b2 + 1)) (M.1 (b + 1)) (Int32.toNatClampNeg 0) (Int32.toNatClampNeg 0) (Int32.toNatClampNeg 40))) (fun M2 => lt_ (wI M2 b 1 (M2.1 b2 1)) (fun M3 => some M3)))
set_option maxHeartbeats 4000000 in
set_option maxRecDepth 100000 in
theorem c0_becomeLike {l : Launch} {G : XG} {M' : SX} {M : SX} (b : Nat) (qb : isD b) (b2 : Nat) (qb2 : isD b2) (hf : p0_becomeLike b b2 M = some M') : Met l yX0_becomeLike (.code yX0_becomeLike cX0_becomeLike 2 none :: TBL) (rmX 1) (xPc G ZX M [.ref (G.2.1 b), .ref (G.2.1 b2)]) (xQv G ZX M') 0 0 (inA G ZX) := by
  refine x_met (cc := cX0_becomeLike) (by decide) (Nat.le_of_ble_eq_true rfl) ?_
  intro p e s m below meth c ls F hr hk hl hw
  have F : Fx G ZX p m c cX0_becomeLike 2 s [.ref (G.2.1 b), .ref (G.2.1 b2)].toArray RX0 := F
  have hl : lv_has ls 2 [(0, .ref (G.2.1 b)), (1, .ref (G.2.1 b2))] := hl
  have hx := F.1.1
  have hb := F.1.2.1
  unfold p0_becomeLike at hf
  refine lv_aload_n hx hb dX0_becomeLike_0 rfl (lv_at hl 1 rfl) ?_
  refine g0_0 qb2 F hw tw_9 dX0_becomeLike_1 ?_
  refine lv_iconst (v := 0) hx hb dX0_becomeLike_4 (by decide) ?_
  refine lv_aload_n hx hb dX0_becomeLike_5 rfl (lv_at hl 0 rfl) ?_
  refine g0_0 qb F hw tw_9 dX0_becomeLike_6 ?_
  refine lv_iconst (v := 0) hx hb dX0_becomeLike_9 (by decide) ?_
  refine lv_bipush (v := 40) hx hb dX0_becomeLike_10 (by decide) ?_
  obtain ⟨g1, hf⟩ := gd_some hf
  refine x_copy F hw hl.1 (sD1 qb2) (sD1 qb) g1 tw_16 tw_17 tw_18 tw_19 (Nat.le_of_ble_eq_true rfl) (Nat.le_of_ble_eq_true rfl) dX0_becomeLike_12 (fun H locs hw => ?_)
  obtain ⟨M2, eM2, hf⟩ := lt_elim hf
  rw [← eM2] at hw
  refine lv_aload_n hx hb dX0_becomeLike_15 rfl (lv_at hl 0 rfl) ?_
  refine lv_aload_n hx hb dX0_becomeLike_16 rfl (lv_at hl 1 rfl) ?_
  refine g0_1 qb2 F hw tw_8 dX0_becomeLike_17 ?_
  refine s0_1 qb F hw tw_8 dX0_becomeLike_20 (fun H locs hw => ?_)
  obtain ⟨M3, eM3, hf⟩ := lt_elim hf
  rw [← eM3] at hw
  exact x_vret F hw hr hk hf dX0_becomeLike_23
end
section
theorem dX4_isNumber_0 : decode cX4_isNumber 0 = .ok (.iload_n 1, 1) := by decide +kernel
theorem dX4_isNumber_1 : decode cX4_isNumber 1 = .ok (.ifCond .lt 16, 3) := by decide +kernel
theorem dX4_isNumber_4 : decode cX4_isNumber 4 = .ok (.iload_n 1, 1) := by decide +kernel
theorem dX4_isNumber_5 : decode cX4_isNumber 5 = .ok (.aload_n 0, 1) := by decide +kernel
theorem dX4_isNumber_6 : decode cX4_isNumber 6 = .ok (.getfield 13, 3) := by decide +kernel
theorem dX4_isNumber_9 : decode cX4_isNumber 9 = .ok (.arraylength, 1) := by decide +kernel
theorem dX4_isNumber_10 : decode cX4_isNumber 10 = .ok (.if_icmp .ge 7, 3) := by decide +kernel
theorem dX4_isNumber_13 : decode cX4_isNumber 13 = .ok (.iconst 1, 1) := by decide +kernel
theorem dX4_isNumber_14 : decode cX4_isNumber 14 = .ok (.goto 4, 3) := by decide +kernel
theorem dX4_isNumber_17 : decode cX4_isNumber 17 = .ok (.iconst 0, 1) := by decide +kernel
theorem dX4_isNumber_18 : decode cX4_isNumber 18 = .ok (.ireturn, 1) := by decide +kernel
def p4_isNumber (b : Nat) (a1 : Int32) (M : SX) : Option (Int32 × SX) :=
  if a1 < 0 then (some (0, M))
  else (if (Int32.ofNat (szS b)) ≤ a1 then (some (0, M))
  else (some (1, M)))
set_option maxHeartbeats 4000000 in
set_option maxRecDepth 100000 in
theorem c4_isNumber {l : Launch} {G : XG} {r : Int32} {M' : SX} {M : SX} (b : Nat) (qb : isS b) (a1 : Int32) (hf : p4_isNumber b a1 M = some (r, M')) : Met l yX4_isNumber (.code yX4_isNumber cX4_isNumber 2 (some .boolean) :: TBL) (rmX 0) (xPc G ZX M [.ref (G.2.1 b), .int a1]) (xQi G ZX r M') 0 0 (inA G ZX) := by
  refine x_met (cc := cX4_isNumber) (by decide) (Nat.le_of_ble_eq_true rfl) ?_
  intro p e s m below meth c ls F hr hk hl hw
  have F : Fx G ZX p m c cX4_isNumber 2 s [.ref (G.2.1 b), .int a1].toArray RX4 := F
  have hl : lv_has ls 2 [(0, .ref (G.2.1 b)), (1, .int a1)] := hl
  have hx := F.1.1
  have hb := F.1.2.1
  unfold p4_isNumber at hf
  refine lv_iload_n hx hb dX4_isNumber_0 rfl (lv_at hl 1 rfl) ?_
  refine lv_if_lt (tgt := 17) hx hb dX4_isNumber_1 (by decide) (fun c1 => ?_) (fun c1 => ?_)
  · have hf := it_t hf c1
    refine lv_iconst (v := 0) hx hb dX4_isNumber_17 (by decide) ?_
    exact x_zret F hw hr hk (by decide) hf dX4_isNumber_18
  · have hf := it_f hf c1
    refine lv_iload_n hx hb dX4_isNumber_4 rfl (lv_at hl 1 rfl) ?_
    refine lv_aload_n hx hb dX4_isNumber_5 rfl (lv_at hl 0 rfl) ?_
    refine g4_1 qb F hw tw_20 dX4_isNumber_6 ?_
    refine x_alenI F hw (sS1 qb) dX4_isNumber_9 ?_
    refine lv_icmp_ge (tgt := 17) hx hb dX4_isNumber_10 (by decide) (fun c2 => ?_) (fun c2 => ?_)
    · have hf := it_t hf c2
      refine lv_iconst (v := 0) hx hb dX4_isNumber_17 (by decide) ?_
      exact x_zret F hw hr hk (by decide) hf dX4_isNumber_18
    · have hf := it_f hf c2
      refine lv_iconst (v := 1) hx hb dX4_isNumber_13 (by decide) ?_
      refine lv_goto (tgt := 18) hx hb dX4_isNumber_14 (by decide) ?_
      exact x_zret F hw hr hk (by decide) hf dX4_isNumber_18
theorem dX4_isThere_0 : decode cX4_isThere 0 = .ok (.aload_n 0, 1) := by decide +kernel
theorem dX4_isThere_1 : decode cX4_isThere 1 = .ok (.getfield 13, 3) := by decide +kernel
theorem dX4_isThere_4 : decode cX4_isThere 4 = .ok (.iload_n 1, 1) := by decide +kernel
theorem dX4_isThere_5 : decode cX4_isThere 5 = .ok (.iaload, 1) := by decide +kernel
theorem dX4_isThere_6 : decode cX4_isThere 6 = .ok (.iconst (-1), 1) := by decide +kernel
theorem dX4_isThere_7 : decode cX4_isThere 7 = .ok (.if_icmp .eq 7, 3) := by decide +kernel
theorem dX4_isThere_10 : decode cX4_isThere 10 = .ok (.iconst 1, 1) := by decide +kernel
theorem dX4_isThere_11 : decode cX4_isThere 11 = .ok (.goto 4, 3) := by decide +kernel
theorem dX4_isThere_14 : decode cX4_isThere 14 = .ok (.iconst 0, 1) := by decide +kernel
theorem dX4_isThere_15 : decode cX4_isThere 15 = .ok (.ireturn, 1) := by decide +kernel
def p4_isThere (b : Nat) (a1 : Int32) (M : SX) : Option (Int32 × SX) :=
  gd (bIn a1 (szS b)) ( if (M.1 (b + 1) (Int32.toNatClampNeg a1)) = (-1 : Int32) then (some (0, M))
  else (some (1, M)))
set_option maxHeartbeats 4000000 in
set_option maxRecDepth 100000 in
theorem c4_isThere {l : Launch} {G : XG} {r : Int32} {M' : SX} {M : SX} (b : Nat) (qb : isS b) (a1 : Int32) (hf : p4_isThere b a1 M = some (r, M')) : Met l yX4_isThere (.code yX4_isThere cX4_isThere 2 (some .boolean) :: TBL) (rmX 0) (xPc G ZX M [.ref (G.2.1 b), .int a1]) (xQi G ZX r M') 0 0 (inA G ZX) := by
  refine x_met (cc := cX4_isThere) (by decide) (Nat.le_of_ble_eq_true rfl) ?_
  intro p e s m below meth c ls F hr hk hl hw
  have F : Fx G ZX p m c cX4_isThere 2 s [.ref (G.2.1 b), .int a1].toArray RX4 := F
  have hl : lv_has ls 2 [(0, .ref (G.2.1 b)), (1, .int a1)] := hl
  have hx := F.1.1
  have hb := F.1.2.1
  unfold p4_isThere at hf
  refine lv_aload_n hx hb dX4_isThere_0 rfl (lv_at hl 0 rfl) ?_
  refine g4_1 qb F hw tw_20 dX4_isThere_1 ?_
  refine lv_iload_n hx hb dX4_isThere_4 rfl (lv_at hl 1 rfl) ?_
  obtain ⟨g1, hf⟩ := gd_some hf
  refine x_iald F hw (sS1 qb) g1 dX4_isThere_5 ?_
  refine lv_iconst (v := (-1)) hx hb dX4_isThere_6 (by decide) ?_
  refine lv_icmp_eq (tgt := 14) hx hb dX4_isThere_7 (by decide) (fun c2 => ?_) (fun c2 => ?_)
  · have hf := it_t hf c2
    refine lv_iconst (v := 0) hx hb dX4_isThere_14 (by decide) ?_
    exact x_zret F hw hr hk (by decide) hf dX4_isThere_15
  · have hf := it_f hf c2
    refine lv_iconst (v := 1) hx hb dX4_isThere_10 (by decide) ?_
    refine lv_goto (tgt := 15) hx hb dX4_isThere_11 (by decide) ?_
    exact x_zret F hw hr hk (by decide) hf dX4_isThere_15
theorem dX4_sizeOf_0 : decode cX4_sizeOf 0 = .ok (.aload_n 0, 1) := by decide +kernel
theorem dX4_sizeOf_1 : decode cX4_sizeOf 1 = .ok (.getfield 13, 3) := by decide +kernel
theorem dX4_sizeOf_4 : decode cX4_sizeOf 4 = .ok (.iload_n 1, 1) := by decide +kernel
theorem dX4_sizeOf_5 : decode cX4_sizeOf 5 = .ok (.iaload, 1) := by decide +kernel
theorem dX4_sizeOf_6 : decode cX4_sizeOf 6 = .ok (.ireturn, 1) := by decide +kernel
def p4_sizeOf (b : Nat) (a1 : Int32) (M : SX) : Option (Int32 × SX) :=
  gd (bIn a1 (szS b)) ( some (M.1 (b + 1) (Int32.toNatClampNeg a1), M))
set_option maxHeartbeats 4000000 in
set_option maxRecDepth 100000 in
theorem c4_sizeOf {l : Launch} {G : XG} {r : Int32} {M' : SX} {M : SX} (b : Nat) (qb : isS b) (a1 : Int32) (hf : p4_sizeOf b a1 M = some (r, M')) : Met l yX4_sizeOf (.code yX4_sizeOf cX4_sizeOf 2 (some .int) :: TBL) (rmX 0) (xPc G ZX M [.ref (G.2.1 b), .int a1]) (xQi G ZX r M') 0 0 (inA G ZX) := by
  refine x_met (cc := cX4_sizeOf) (by decide) (Nat.le_of_ble_eq_true rfl) ?_
  intro p e s m below meth c ls F hr hk hl hw
  have F : Fx G ZX p m c cX4_sizeOf 2 s [.ref (G.2.1 b), .int a1].toArray RX4 := F
  have hl : lv_has ls 2 [(0, .ref (G.2.1 b)), (1, .int a1)] := hl
  have hx := F.1.1
  have hb := F.1.2.1
  unfold p4_sizeOf at hf
  refine lv_aload_n hx hb dX4_sizeOf_0 rfl (lv_at hl 0 rfl) ?_
  refine g4_1 qb F hw tw_20 dX4_sizeOf_1 ?_
  refine lv_iload_n hx hb dX4_sizeOf_4 rfl (lv_at hl 1 rfl) ?_
  obtain ⟨g1, hf⟩ := gd_some hf
  refine x_iald F hw (sS1 qb) g1 dX4_sizeOf_5 ?_
  exact x_iret F hw hr hk hf dX4_sizeOf_6
theorem dX4_hasPlaces_0 : decode cX4_hasPlaces 0 = .ok (.iload_n 2, 1) := by decide +kernel
theorem dX4_hasPlaces_1 : decode cX4_hasPlaces 1 = .ok (.ifCond .lt 19, 3) := by decide +kernel
theorem dX4_hasPlaces_4 : decode cX4_hasPlaces 4 = .ok (.iload_n 2, 1) := by decide +kernel
theorem dX4_hasPlaces_5 : decode cX4_hasPlaces 5 = .ok (.aload_n 0, 1) := by decide +kernel
theorem dX4_hasPlaces_6 : decode cX4_hasPlaces 6 = .ok (.getfield 13, 3) := by decide +kernel
theorem dX4_hasPlaces_9 : decode cX4_hasPlaces 9 = .ok (.iload_n 1, 1) := by decide +kernel
theorem dX4_hasPlaces_10 : decode cX4_hasPlaces 10 = .ok (.iaload, 1) := by decide +kernel
theorem dX4_hasPlaces_11 : decode cX4_hasPlaces 11 = .ok (.iload_n 3, 1) := by decide +kernel
theorem dX4_hasPlaces_12 : decode cX4_hasPlaces 12 = .ok (.isub, 1) := by decide +kernel
theorem dX4_hasPlaces_13 : decode cX4_hasPlaces 13 = .ok (.if_icmp .gt 7, 3) := by decide +kernel
theorem dX4_hasPlaces_16 : decode cX4_hasPlaces 16 = .ok (.iconst 1, 1) := by decide +kernel
theorem dX4_hasPlaces_17 : decode cX4_hasPlaces 17 = .ok (.goto 4, 3) := by decide +kernel
theorem dX4_hasPlaces_20 : decode cX4_hasPlaces 20 = .ok (.iconst 0, 1) := by decide +kernel
theorem dX4_hasPlaces_21 : decode cX4_hasPlaces 21 = .ok (.ireturn, 1) := by decide +kernel
def p4_hasPlaces (b : Nat) (a1 : Int32) (a2 : Int32) (a3 : Int32) (M : SX) : Option (Int32 × SX) :=
  if a2 < 0 then (some (0, M))
  else (gd (bIn a1 (szS b)) ( if ((M.1 (b + 1) (Int32.toNatClampNeg a1)) - a3) < a2 then (some (0, M))
  else (some (1, M))))
set_option maxHeartbeats 4000000 in
set_option maxRecDepth 100000 in
theorem c4_hasPlaces {l : Launch} {G : XG} {r : Int32} {M' : SX} {M : SX} (b : Nat) (qb : isS b) (a1 : Int32) (a2 : Int32) (a3 : Int32) (hf : p4_hasPlaces b a1 a2 a3 M = some (r, M')) : Met l yX4_hasPlaces (.code yX4_hasPlaces cX4_hasPlaces 4 (some .boolean) :: TBL) (rmX 0) (xPc G ZX M [.ref (G.2.1 b), .int a1, .int a2, .int a3]) (xQi G ZX r M') 0 0 (inA G ZX) := by
  refine x_met (cc := cX4_hasPlaces) (by decide) (Nat.le_of_ble_eq_true rfl) ?_
  intro p e s m below meth c ls F hr hk hl hw
  have F : Fx G ZX p m c cX4_hasPlaces 4 s [.ref (G.2.1 b), .int a1, .int a2, .int a3].toArray RX4 := F
  have hl : lv_has ls 4 [(0, .ref (G.2.1 b)), (1, .int a1), (2, .int a2), (3, .int a3)] := hl
  have hx := F.1.1
  have hb := F.1.2.1
  unfold p4_hasPlaces at hf
  refine lv_iload_n hx hb dX4_hasPlaces_0 rfl (lv_at hl 2 rfl) ?_
  refine lv_if_lt (tgt := 20) hx hb dX4_hasPlaces_1 (by decide) (fun c1 => ?_) (fun c1 => ?_)
  · have hf := it_t hf c1
    refine lv_iconst (v := 0) hx hb dX4_hasPlaces_20 (by decide) ?_
    exact x_zret F hw hr hk (by decide) hf dX4_hasPlaces_21
  · have hf := it_f hf c1
    refine lv_iload_n hx hb dX4_hasPlaces_4 rfl (lv_at hl 2 rfl) ?_
    refine lv_aload_n hx hb dX4_hasPlaces_5 rfl (lv_at hl 0 rfl) ?_
    refine g4_1 qb F hw tw_20 dX4_hasPlaces_6 ?_
    refine lv_iload_n hx hb dX4_hasPlaces_9 rfl (lv_at hl 1 rfl) ?_
    obtain ⟨g2, hf⟩ := gd_some hf
    refine x_iald F hw (sS1 qb) g2 dX4_hasPlaces_10 ?_
    refine lv_iload_n hx hb dX4_hasPlaces_11 rfl (lv_at hl 3 rfl) ?_
    refine lv_isub hx hb dX4_hasPlaces_12 ?_
    refine lv_icmp_gt (tgt := 20) hx hb dX4_hasPlaces_13 (by decide) (fun c3 => ?_) (fun c3 => ?_)
    · have hf := it_t hf c3
      refine lv_iconst (v := 0) hx hb dX4_hasPlaces_20 (by decide) ?_
      exact x_zret F hw hr hk (by decide) hf dX4_hasPlaces_21
    · have hf := it_f hf c3
      refine lv_iconst (v := 1) hx hb dX4_hasPlaces_16 (by decide) ?_
      refine lv_goto (tgt := 21) hx hb dX4_hasPlaces_17 (by decide) ?_
      exact x_zret F hw hr hk (by decide) hf dX4_hasPlaces_21
theorem dX4_remove_0 : decode cX4_remove 0 = .ok (.aload_n 0, 1) := by decide +kernel
theorem dX4_remove_1 : decode cX4_remove 1 = .ok (.getfield 13, 3) := by decide +kernel
theorem dX4_remove_4 : decode cX4_remove 4 = .ok (.iload_n 1, 1) := by decide +kernel
theorem dX4_remove_5 : decode cX4_remove 5 = .ok (.iconst (-1), 1) := by decide +kernel
theorem dX4_remove_6 : decode cX4_remove 6 = .ok (.iastore, 1) := by decide +kernel
theorem dX4_remove_7 : decode cX4_remove 7 = .ok (.return_, 1) := by decide +kernel
def p4_remove (b : Nat) (a1 : Int32) (M : SX) : Option SX :=
  gd (bIn a1 (szS b)) ( lt_ (wI M (b + 1) (Int32.toNatClampNeg a1) (-1)) (fun M2 => some M2))
set_option maxHeartbeats 4000000 in
set_option maxRecDepth 100000 in
theorem c4_remove {l : Launch} {G : XG} {M' : SX} {M : SX} (b : Nat) (qb : isS b) (a1 : Int32) (hf : p4_remove b a1 M = some M') : Met l yX4_remove (.code yX4_remove cX4_remove 2 none :: TBL) (rmX 0) (xPc G ZX M [.ref (G.2.1 b), .int a1]) (xQv G ZX M') 0 0 (inA G ZX) := by
  refine x_met (cc := cX4_remove) (by decide) (Nat.le_of_ble_eq_true rfl) ?_
  intro p e s m below meth c ls F hr hk hl hw
  have F : Fx G ZX p m c cX4_remove 2 s [.ref (G.2.1 b), .int a1].toArray RX4 := F
  have hl : lv_has ls 2 [(0, .ref (G.2.1 b)), (1, .int a1)] := hl
  have hx := F.1.1
  have hb := F.1.2.1
  unfold p4_remove at hf
  refine lv_aload_n hx hb dX4_remove_0 rfl (lv_at hl 0 rfl) ?_
  refine g4_1 qb F hw tw_20 dX4_remove_1 ?_
  refine lv_iload_n hx hb dX4_remove_4 rfl (lv_at hl 1 rfl) ?_
  refine lv_iconst (v := (-1)) hx hb dX4_remove_5 (by decide) ?_
  obtain ⟨g1, hf⟩ := gd_some hf
  refine x_iast F hw (sS1 qb) g1 dX4_remove_6 (fun H locs hw => ?_)
  obtain ⟨M2, eM2, hf⟩ := lt_elim hf
  rw [← eM2] at hw
  exact x_vret F hw hr hk hf dX4_remove_7
theorem dX4_valueAt_0 : decode cX4_valueAt 0 = .ok (.aload_n 0, 1) := by decide +kernel
theorem dX4_valueAt_1 : decode cX4_valueAt 1 = .ok (.getfield 17, 3) := by decide +kernel
theorem dX4_valueAt_4 : decode cX4_valueAt 4 = .ok (.iload_n 1, 1) := by decide +kernel
theorem dX4_valueAt_5 : decode cX4_valueAt 5 = .ok (.aload_n 0, 1) := by decide +kernel
theorem dX4_valueAt_6 : decode cX4_valueAt 6 = .ok (.getfield 7, 3) := by decide +kernel
theorem dX4_valueAt_9 : decode cX4_valueAt 9 = .ok (.imul, 1) := by decide +kernel
theorem dX4_valueAt_10 : decode cX4_valueAt 10 = .ok (.iload_n 2, 1) := by decide +kernel
theorem dX4_valueAt_11 : decode cX4_valueAt 11 = .ok (.iadd, 1) := by decide +kernel
theorem dX4_valueAt_12 : decode cX4_valueAt 12 = .ok (.iaload, 1) := by decide +kernel
theorem dX4_valueAt_13 : decode cX4_valueAt 13 = .ok (.ireturn, 1) := by decide +kernel
def p4_valueAt (b : Nat) (a1 : Int32) (a2 : Int32) (M : SX) : Option (Int32 × SX) :=
  gd (bIn ((a1 * (M.1 b 0)) + a2) 240) ( some (M.1 (b + 2) (Int32.toNatClampNeg ((a1 * (M.1 b 0)) + a2)), M))
set_option maxHeartbeats 4000000 in
set_option maxRecDepth 100000 in
theorem c4_valueAt {l : Launch} {G : XG} {r : Int32} {M' : SX} {M : SX} (b : Nat) (qb : isS b) (a1 : Int32) (a2 : Int32) (hf : p4_valueAt b a1 a2 M = some (r, M')) : Met l yX4_valueAt (.code yX4_valueAt cX4_valueAt 3 (some .int) :: TBL) (rmX 0) (xPc G ZX M [.ref (G.2.1 b), .int a1, .int a2]) (xQi G ZX r M') 0 0 (inA G ZX) := by
  refine x_met (cc := cX4_valueAt) (by decide) (Nat.le_of_ble_eq_true rfl) ?_
  intro p e s m below meth c ls F hr hk hl hw
  have F : Fx G ZX p m c cX4_valueAt 3 s [.ref (G.2.1 b), .int a1, .int a2].toArray RX4 := F
  have hl : lv_has ls 3 [(0, .ref (G.2.1 b)), (1, .int a1), (2, .int a2)] := hl
  have hx := F.1.1
  have hb := F.1.2.1
  unfold p4_valueAt at hf
  refine lv_aload_n hx hb dX4_valueAt_0 rfl (lv_at hl 0 rfl) ?_
  refine g4_2 qb F hw tw_21 dX4_valueAt_1 ?_
  refine lv_iload_n hx hb dX4_valueAt_4 rfl (lv_at hl 1 rfl) ?_
  refine lv_aload_n hx hb dX4_valueAt_5 rfl (lv_at hl 0 rfl) ?_
  refine g4_0 qb F hw tw_22 dX4_valueAt_6 ?_
  refine lv_imul hx hb dX4_valueAt_9 ?_
  refine lv_iload_n hx hb dX4_valueAt_10 rfl (lv_at hl 2 rfl) ?_
  refine lv_iadd hx hb dX4_valueAt_11 ?_
  obtain ⟨g1, hf⟩ := gd_some hf
  refine x_iald F hw (sS2 qb) g1 dX4_valueAt_12 ?_
  exact x_iret F hw hr hk hf dX4_valueAt_13
theorem dX4_setValue_0 : decode cX4_setValue 0 = .ok (.aload_n 0, 1) := by decide +kernel
theorem dX4_setValue_1 : decode cX4_setValue 1 = .ok (.getfield 17, 3) := by decide +kernel
theorem dX4_setValue_4 : decode cX4_setValue 4 = .ok (.iload_n 1, 1) := by decide +kernel
theorem dX4_setValue_5 : decode cX4_setValue 5 = .ok (.aload_n 0, 1) := by decide +kernel
theorem dX4_setValue_6 : decode cX4_setValue 6 = .ok (.getfield 7, 3) := by decide +kernel
theorem dX4_setValue_9 : decode cX4_setValue 9 = .ok (.imul, 1) := by decide +kernel
theorem dX4_setValue_10 : decode cX4_setValue 10 = .ok (.iload_n 2, 1) := by decide +kernel
theorem dX4_setValue_11 : decode cX4_setValue 11 = .ok (.iadd, 1) := by decide +kernel
theorem dX4_setValue_12 : decode cX4_setValue 12 = .ok (.iload_n 3, 1) := by decide +kernel
theorem dX4_setValue_13 : decode cX4_setValue 13 = .ok (.iastore, 1) := by decide +kernel
theorem dX4_setValue_14 : decode cX4_setValue 14 = .ok (.return_, 1) := by decide +kernel
def p4_setValue (b : Nat) (a1 : Int32) (a2 : Int32) (a3 : Int32) (M : SX) : Option SX :=
  gd (bIn ((a1 * (M.1 b 0)) + a2) 240) ( lt_ (wI M (b + 2) (Int32.toNatClampNeg ((a1 * (M.1 b 0)) + a2)) a3) (fun M2 => some M2))
set_option maxHeartbeats 4000000 in
set_option maxRecDepth 100000 in
theorem c4_setValue {l : Launch} {G : XG} {M' : SX} {M : SX} (b : Nat) (qb : isS b) (a1 : Int32) (a2 : Int32) (a3 : Int32) (hf : p4_setValue b a1 a2 a3 M = some M') : Met l yX4_setValue (.code yX4_setValue cX4_setValue 4 none :: TBL) (rmX 0) (xPc G ZX M [.ref (G.2.1 b), .int a1, .int a2, .int a3]) (xQv G ZX M') 0 0 (inA G ZX) := by
  refine x_met (cc := cX4_setValue) (by decide) (Nat.le_of_ble_eq_true rfl) ?_
  intro p e s m below meth c ls F hr hk hl hw
  have F : Fx G ZX p m c cX4_setValue 4 s [.ref (G.2.1 b), .int a1, .int a2, .int a3].toArray RX4 := F
  have hl : lv_has ls 4 [(0, .ref (G.2.1 b)), (1, .int a1), (2, .int a2), (3, .int a3)] := hl
  have hx := F.1.1
  have hb := F.1.2.1
  unfold p4_setValue at hf
  refine lv_aload_n hx hb dX4_setValue_0 rfl (lv_at hl 0 rfl) ?_
  refine g4_2 qb F hw tw_21 dX4_setValue_1 ?_
  refine lv_iload_n hx hb dX4_setValue_4 rfl (lv_at hl 1 rfl) ?_
  refine lv_aload_n hx hb dX4_setValue_5 rfl (lv_at hl 0 rfl) ?_
  refine g4_0 qb F hw tw_22 dX4_setValue_6 ?_
  refine lv_imul hx hb dX4_setValue_9 ?_
  refine lv_iload_n hx hb dX4_setValue_10 rfl (lv_at hl 2 rfl) ?_
  refine lv_iadd hx hb dX4_setValue_11 ?_
  refine lv_iload_n hx hb dX4_setValue_12 rfl (lv_at hl 3 rfl) ?_
  obtain ⟨g1, hf⟩ := gd_some hf
  refine x_iast F hw (sS2 qb) g1 dX4_setValue_13 (fun H locs hw => ?_)
  obtain ⟨M2, eM2, hf⟩ := lt_elim hf
  rw [← eM2] at hw
  exact x_vret F hw hr hk hf dX4_setValue_14
theorem dX4_begin_0 : decode cX4_begin 0 = .ok (.aload_n 0, 1) := by decide +kernel
theorem dX4_begin_1 : decode cX4_begin 1 = .ok (.getfield 13, 3) := by decide +kernel
theorem dX4_begin_4 : decode cX4_begin 4 = .ok (.iload_n 1, 1) := by decide +kernel
theorem dX4_begin_5 : decode cX4_begin 5 = .ok (.iload_n 2, 1) := by decide +kernel
theorem dX4_begin_6 : decode cX4_begin 6 = .ok (.iastore, 1) := by decide +kernel
theorem dX4_begin_7 : decode cX4_begin 7 = .ok (.iconst 0, 1) := by decide +kernel
theorem dX4_begin_8 : decode cX4_begin 8 = .ok (.istore 4, 2) := by decide +kernel
theorem dX4_begin_10 : decode cX4_begin 10 = .ok (.iload 4, 2) := by decide +kernel
theorem dX4_begin_12 : decode cX4_begin 12 = .ok (.iload_n 2, 1) := by decide +kernel
theorem dX4_begin_13 : decode cX4_begin 13 = .ok (.if_icmp .ge 17, 3) := by decide +kernel
theorem dX4_begin_16 : decode cX4_begin 16 = .ok (.aload_n 0, 1) := by decide +kernel
theorem dX4_begin_17 : decode cX4_begin 17 = .ok (.iload_n 1, 1) := by decide +kernel
theorem dX4_begin_18 : decode cX4_begin 18 = .ok (.iload 4, 2) := by decide +kernel
theorem dX4_begin_20 : decode cX4_begin 20 = .ok (.iload_n 3, 1) := by decide +kernel
theorem dX4_begin_21 : decode cX4_begin 21 = .ok (.invokevirtual 26, 3) := by decide +kernel
theorem dX4_begin_24 : decode cX4_begin 24 = .ok (.iinc 4 1, 3) := by decide +kernel
theorem dX4_begin_27 : decode cX4_begin 27 = .ok (.goto (-17), 3) := by decide +kernel
theorem dX4_begin_30 : decode cX4_begin 30 = .ok (.return_, 1) := by decide +kernel
def p4_begin_10 (b : Nat) (k10 : Int32 → Int32 → Int32 → Int32 → SX → Option SX) (v1 : Int32) (v2 : Int32) (v3 : Int32) (v4 : Int32) (M : SX) : Option SX :=
  if v2 ≤ v4 then (some M)
  else (bv (p4_setValue b v1 v4 v3 M) (fun M3 => lt_ (v4 + 1) (fun x4 => k10 v1 v2 v3 x4 M3)))
set_option maxHeartbeats 4000000 in
set_option maxRecDepth 100000 in
theorem w4_begin_10 {G : XG} {p : Program} {l : Launch} {e : Env} {s : State} {m : MethodId} {args : Array Value} {below : List Frame} {meth : Method} {c : Code} (F : Fx G ZX p m c cX4_begin 5 s args RX4) (hr : meth.sig.returnType = none) (hk : meth.locks = false) {M' : SX} (b : Nat) (qb : isS b) (k10 : Int32 → Int32 → Int32 → Int32 → SX → Option SX) (hk10 : ∀ (v1 : Int32) (v2 : Int32) (v3 : Int32) (v4 : Int32) (M : SX) (H : Heap) (locs : List Loc) (ls : Array Slot), Wld G ZX M s.heap H locs → lv_has ls 5 [(0, .ref (G.2.1 b)), (1, .int v1), (2, .int v2), (3, .int v3), (4, .int v4)] → k10 v1 v2 v3 v4 M = some M' → WXv G ZX p l e 1 s m args below meth c M' H locs (F0 m 10 ls [])) : ∀ (v1 : Int32) (v2 : Int32) (v3 : Int32) (v4 : Int32) (M : SX) (H : Heap) (locs : List Loc) (ls : Array Slot), Wld G ZX M s.heap H locs → lv_has ls 5 [(0, .ref (G.2.1 b)), (1, .int v1), (2, .int v2), (3, .int v3), (4, .int v4)] → p4_begin_10 b k10 v1 v2 v3 v4 M = some M' → WXv G ZX p l e 1 s m args below meth c M' H locs (F0 m 10 ls []) := by
  intro v1 v2 v3 v4 M H locs ls hw hl hf
  have hx := F.1.1
  have hb := F.1.2.1
  unfold p4_begin_10 at hf
  refine lv_iload hx hb dX4_begin_10 (lv_at hl 4 rfl) ?_
  refine lv_iload_n hx hb dX4_begin_12 rfl (lv_at hl 2 rfl) ?_
  refine lv_icmp_ge (tgt := 30) hx hb dX4_begin_13 (by decide) (fun c1 => ?_) (fun c1 => ?_)
  · have hf := it_t hf c1
    exact x_vret F hw hr hk hf dX4_begin_30
  · have hf := it_f hf c1
    refine lv_aload_n hx hb dX4_begin_16 rfl (lv_at hl 0 rfl) ?_
    refine lv_iload_n hx hb dX4_begin_17 rfl (lv_at hl 1 rfl) ?_
    refine lv_iload hx hb dX4_begin_18 (lv_at hl 4 rfl) ?_
    refine lv_iload_n hx hb dX4_begin_20 rfl (lv_at hl 3 rfl) ?_
    obtain ⟨M3, hc2, hf⟩ := bv_some hf
    refine x_aftV hw (x_runV (rest := []) F hw hl.1 vw_RX4_26 (sS qb) rfl (c4_setValue b qb v1 v4 v3 hc2) rfl rfl (Nat.le_of_ble_eq_true rfl) ⟨Nat.le_of_ble_eq_true rfl, Nat.le_of_ble_eq_true rfl⟩ dX4_begin_21) (fun H locs hw => ?_)
    obtain ⟨x4, ex4, hf⟩ := lt_elim hf
    refine lv_iinc (v := x4) (lv' := [(4, .int x4), (0, .ref (G.2.1 b)), (1, .int v1), (2, .int v2), (3, .int v3)]) hx hb dX4_begin_24 hl (k := 4) rfl (by rw [ex4]; rfl) (by decide) rfl (fun ls hl => ?_)
    refine lv_goto (tgt := 10) hx hb dX4_begin_27 (by decide) ?_
    exact hk10 v1 v2 v3 x4 M3 _ _ ls hw (lv_sub hl [1, 2, 3, 4, 0] rfl) hf
theorem z4_begin_10 {G : XG} {p : Program} {l : Launch} {e : Env} {s : State} {m : MethodId} {args : Array Value} {below : List Frame} {meth : Method} {c : Code} (F : Fx G ZX p m c cX4_begin 5 s args RX4) (hr : meth.sig.returnType = none) (hk : meth.locks = false) {M' : SX} (b : Nat) (qb : isS b) : ∀ n : Nat, ∀ (v1 : Int32) (v2 : Int32) (v3 : Int32) (v4 : Int32) (M : SX) (H : Heap) (locs : List Loc) (ls : Array Slot), Wld G ZX M s.heap H locs → lv_has ls 5 [(0, .ref (G.2.1 b)), (1, .int v1), (2, .int v2), (3, .int v3), (4, .int v4)] → xlp4 (p4_begin_10 b) n v1 v2 v3 v4 M = some M' → WXv G ZX p l e 1 s m args below meth c M' H locs (F0 m 10 ls []) := by
  intro n
  induction n with
  | zero => intro _ _ _ _ _ _ _ _ _ _ hf; cases hf
  | succ n ih => exact w4_begin_10 F hr hk b qb (xlp4 (p4_begin_10 b) n) ih
def p4_begin (b : Nat) (a1 : Int32) (a2 : Int32) (a3 : Int32) (M : SX) : Option SX :=
  gd (bIn a1 (szS b)) ( lt_ (wI M (b + 1) (Int32.toNatClampNeg a1) a2) (fun M2 => xlp4 (p4_begin_10 b) FU a1 a2 a3 0 M2))
set_option maxHeartbeats 4000000 in
set_option maxRecDepth 100000 in
theorem c4_begin {l : Launch} {G : XG} {M' : SX} {M : SX} (b : Nat) (qb : isS b) (a1 : Int32) (a2 : Int32) (a3 : Int32) (hf : p4_begin b a1 a2 a3 M = some M') : Met l yX4_begin (.code yX4_begin cX4_begin 5 none :: TBL) (rmX 1) (xPc G ZX M [.ref (G.2.1 b), .int a1, .int a2, .int a3]) (xQv G ZX M') 0 0 (inA G ZX) := by
  refine x_met (cc := cX4_begin) (by decide) (Nat.le_of_ble_eq_true rfl) ?_
  intro p e s m below meth c ls F hr hk hl hw
  have F : Fx G ZX p m c cX4_begin 5 s [.ref (G.2.1 b), .int a1, .int a2, .int a3].toArray RX4 := F
  have hl : lv_has ls 5 [(0, .ref (G.2.1 b)), (1, .int a1), (2, .int a2), (3, .int a3)] := hl
  have hx := F.1.1
  have hb := F.1.2.1
  unfold p4_begin at hf
  refine lv_aload_n hx hb dX4_begin_0 rfl (lv_at hl 0 rfl) ?_
  refine g4_1 qb F hw tw_20 dX4_begin_1 ?_
  refine lv_iload_n hx hb dX4_begin_4 rfl (lv_at hl 1 rfl) ?_
  refine lv_iload_n hx hb dX4_begin_5 rfl (lv_at hl 2 rfl) ?_
  obtain ⟨g1, hf⟩ := gd_some hf
  refine x_iast F hw (sS1 qb) g1 dX4_begin_6 (fun H locs hw => ?_)
  obtain ⟨M2, eM2, hf⟩ := lt_elim hf
  rw [← eM2] at hw
  refine lv_iconst (v := 0) hx hb dX4_begin_7 (by decide) ?_
  refine lv_istore (lv' := [(4, .int 0), (0, .ref (G.2.1 b)), (1, .int a1), (2, .int a2), (3, .int a3)]) hx hb dX4_begin_8 hl (by decide) rfl (fun ls hl => ?_)
  exact z4_begin_10 F hr hk b qb FU a1 a2 a3 0 M2 _ _ ls hw (lv_sub hl [1, 2, 3, 4, 0] rfl) hf
theorem dX4_move_0 : decode cX4_move 0 = .ok (.aload_n 0, 1) := by decide +kernel
theorem dX4_move_1 : decode cX4_move 1 = .ok (.getfield 17, 3) := by decide +kernel
theorem dX4_move_4 : decode cX4_move 4 = .ok (.iload_n 1, 1) := by decide +kernel
theorem dX4_move_5 : decode cX4_move 5 = .ok (.aload_n 0, 1) := by decide +kernel
theorem dX4_move_6 : decode cX4_move 6 = .ok (.getfield 7, 3) := by decide +kernel
theorem dX4_move_9 : decode cX4_move 9 = .ok (.imul, 1) := by decide +kernel
theorem dX4_move_10 : decode cX4_move 10 = .ok (.iload_n 2, 1) := by decide +kernel
theorem dX4_move_11 : decode cX4_move 11 = .ok (.iadd, 1) := by decide +kernel
theorem dX4_move_12 : decode cX4_move 12 = .ok (.aload_n 0, 1) := by decide +kernel
theorem dX4_move_13 : decode cX4_move 13 = .ok (.getfield 17, 3) := by decide +kernel
theorem dX4_move_16 : decode cX4_move 16 = .ok (.iload_n 3, 1) := by decide +kernel
theorem dX4_move_17 : decode cX4_move 17 = .ok (.aload_n 0, 1) := by decide +kernel
theorem dX4_move_18 : decode cX4_move 18 = .ok (.getfield 7, 3) := by decide +kernel
theorem dX4_move_21 : decode cX4_move 21 = .ok (.imul, 1) := by decide +kernel
theorem dX4_move_22 : decode cX4_move 22 = .ok (.iload 4, 2) := by decide +kernel
theorem dX4_move_24 : decode cX4_move 24 = .ok (.iadd, 1) := by decide +kernel
theorem dX4_move_25 : decode cX4_move 25 = .ok (.iload 5, 2) := by decide +kernel
theorem dX4_move_27 : decode cX4_move 27 = .ok (.invokestatic 30, 3) := by decide +kernel
theorem dX4_move_30 : decode cX4_move 30 = .ok (.return_, 1) := by decide +kernel
def p4_move (b : Nat) (a1 : Int32) (a2 : Int32) (a3 : Int32) (a4 : Int32) (a5 : Int32) (M : SX) : Option SX :=
  gd (cpOk ((a1 * (M.1 b 0)) + a2) ((a3 * (M.1 b 0)) + a4) a5 240 240) ( lt_ (wR M (b + 2) (va_cpy (M.1 (b + 2)) (M.1 (b + 2)) (Int32.toNatClampNeg ((a1 * (M.1 b 0)) + a2)) (Int32.toNatClampNeg ((a3 * (M.1 b 0)) + a4)) (Int32.toNatClampNeg a5))) (fun M2 => some M2))
set_option maxHeartbeats 4000000 in
set_option maxRecDepth 100000 in
theorem c4_move {l : Launch} {G : XG} {M' : SX} {M : SX} (b : Nat) (qb : isS b) (a1 : Int32) (a2 : Int32) (a3 : Int32) (a4 : Int32) (a5 : Int32) (hf : p4_move b a1 a2 a3 a4 a5 M = some M') : Met l yX4_move (.code yX4_move cX4_move 6 none :: TBL) (rmX 1) (xPc G ZX M [.ref (G.2.1 b), .int a1, .int a2, .int a3, .int a4, .int a5]) (xQv G ZX M') 0 0 (inA G ZX) := by
  refine x_met (cc := cX4_move) (by decide) (Nat.le_of_ble_eq_true rfl) ?_
  intro p e s m below meth c ls F hr hk hl hw
  have F : Fx G ZX p m c cX4_move 6 s [.ref (G.2.1 b), .int a1, .int a2, .int a3, .int a4, .int a5].toArray RX4 := F
  have hl : lv_has ls 6 [(0, .ref (G.2.1 b)), (1, .int a1), (2, .int a2), (3, .int a3), (4, .int a4), (5, .int a5)] := hl
  have hx := F.1.1
  have hb := F.1.2.1
  unfold p4_move at hf
  refine lv_aload_n hx hb dX4_move_0 rfl (lv_at hl 0 rfl) ?_
  refine g4_2 qb F hw tw_21 dX4_move_1 ?_
  refine lv_iload_n hx hb dX4_move_4 rfl (lv_at hl 1 rfl) ?_
  refine lv_aload_n hx hb dX4_move_5 rfl (lv_at hl 0 rfl) ?_
  refine g4_0 qb F hw tw_22 dX4_move_6 ?_
  refine lv_imul hx hb dX4_move_9 ?_
  refine lv_iload_n hx hb dX4_move_10 rfl (lv_at hl 2 rfl) ?_
  refine lv_iadd hx hb dX4_move_11 ?_
  refine lv_aload_n hx hb dX4_move_12 rfl (lv_at hl 0 rfl) ?_
  refine g4_2 qb F hw tw_21 dX4_move_13 ?_
  refine lv_iload_n hx hb dX4_move_16 rfl (lv_at hl 3 rfl) ?_
  refine lv_aload_n hx hb dX4_move_17 rfl (lv_at hl 0 rfl) ?_
  refine g4_0 qb F hw tw_22 dX4_move_18 ?_
  refine lv_imul hx hb dX4_move_21 ?_
  refine lv_iload hx hb dX4_move_22 (lv_at hl 4 rfl) ?_
  refine lv_iadd hx hb dX4_move_24 ?_
  refine lv_iload hx hb dX4_move_25 (lv_at hl 5 rfl) ?_
  obtain ⟨g1, hf⟩ := gd_some hf
  refine x_copy F hw hl.1 (sS2 qb) (sS2 qb) g1 tw_29 tw_17 tw_18 tw_19 (Nat.le_of_ble_eq_true rfl) (Nat.le_of_ble_eq_true rfl) dX4_move_27 (fun H locs hw => ?_)
  obtain ⟨M2, eM2, hf⟩ := lt_elim hf
  rw [← eM2] at hw
  exact x_vret F hw hr hk hf dX4_move_30
theorem dX4_sumOf_0 : decode cX4_sumOf 0 = .ok (.lconst 0, 1) := by decide +kernel
theorem dX4_sumOf_1 : decode cX4_sumOf 1 = .ok (.lstore_n 2, 1) := by decide +kernel
theorem dX4_sumOf_2 : decode cX4_sumOf 2 = .ok (.iconst 0, 1) := by decide +kernel
theorem dX4_sumOf_3 : decode cX4_sumOf 3 = .ok (.istore 4, 2) := by decide +kernel
theorem dX4_sumOf_5 : decode cX4_sumOf 5 = .ok (.iload 4, 2) := by decide +kernel
theorem dX4_sumOf_7 : decode cX4_sumOf 7 = .ok (.aload_n 0, 1) := by decide +kernel
theorem dX4_sumOf_8 : decode cX4_sumOf 8 = .ok (.getfield 13, 3) := by decide +kernel
theorem dX4_sumOf_11 : decode cX4_sumOf 11 = .ok (.iload_n 1, 1) := by decide +kernel
theorem dX4_sumOf_12 : decode cX4_sumOf 12 = .ok (.iaload, 1) := by decide +kernel
theorem dX4_sumOf_13 : decode cX4_sumOf 13 = .ok (.if_icmp .ge 20, 3) := by decide +kernel
theorem dX4_sumOf_16 : decode cX4_sumOf 16 = .ok (.lload_n 2, 1) := by decide +kernel
theorem dX4_sumOf_17 : decode cX4_sumOf 17 = .ok (.aload_n 0, 1) := by decide +kernel
theorem dX4_sumOf_18 : decode cX4_sumOf 18 = .ok (.iload_n 1, 1) := by decide +kernel
theorem dX4_sumOf_19 : decode cX4_sumOf 19 = .ok (.iload 4, 2) := by decide +kernel
theorem dX4_sumOf_21 : decode cX4_sumOf 21 = .ok (.invokevirtual 36, 3) := by decide +kernel
theorem dX4_sumOf_24 : decode cX4_sumOf 24 = .ok (.i2l, 1) := by decide +kernel
theorem dX4_sumOf_25 : decode cX4_sumOf 25 = .ok (.ladd, 1) := by decide +kernel
theorem dX4_sumOf_26 : decode cX4_sumOf 26 = .ok (.lstore_n 2, 1) := by decide +kernel
theorem dX4_sumOf_27 : decode cX4_sumOf 27 = .ok (.iinc 4 1, 3) := by decide +kernel
theorem dX4_sumOf_30 : decode cX4_sumOf 30 = .ok (.goto (-25), 3) := by decide +kernel
theorem dX4_sumOf_33 : decode cX4_sumOf 33 = .ok (.lload_n 2, 1) := by decide +kernel
theorem dX4_sumOf_34 : decode cX4_sumOf 34 = .ok (.lreturn, 1) := by decide +kernel
def p4_sumOf_5 (b : Nat) (k5 : Int32 → Int64 → Int32 → SX → Option (Int64 × SX)) (v1 : Int32) (v2 : Int64) (v4 : Int32) (M : SX) : Option (Int64 × SX) :=
  gd (bIn v1 (szS b)) ( if (M.1 (b + 1) (Int32.toNatClampNeg v1)) ≤ v4 then (some (v2, M))
  else (bd (p4_valueAt b v1 v4 M) (fun r5 M4 => lt_ (v2 + (Int32.toInt64 r5)) (fun x6 => lt_ (v4 + 1) (fun x7 => k5 v1 x6 x7 M4)))))
set_option maxHeartbeats 4000000 in
set_option maxRecDepth 100000 in
theorem w4_sumOf_5 {G : XG} {p : Program} {l : Launch} {e : Env} {s : State} {m : MethodId} {args : Array Value} {below : List Frame} {meth : Method} {c : Code} (F : Fx G ZX p m c cX4_sumOf 5 s args RX4) (hr : meth.sig.returnType = some .long) (hk : meth.locks = false) {r : Int64} {M' : SX} (b : Nat) (qb : isS b) (k5 : Int32 → Int64 → Int32 → SX → Option (Int64 × SX)) (hk5 : ∀ (v1 : Int32) (v2 : Int64) (v4 : Int32) (M : SX) (H : Heap) (locs : List Loc) (ls : Array Slot), Wld G ZX M s.heap H locs → lv_has ls 5 [(0, .ref (G.2.1 b)), (1, .int v1), (2, .long v2), (4, .int v4)] → k5 v1 v2 v4 M = some (r, M') → WXl G ZX p l e 1 s m args below meth c r M' H locs (F0 m 5 ls [])) : ∀ (v1 : Int32) (v2 : Int64) (v4 : Int32) (M : SX) (H : Heap) (locs : List Loc) (ls : Array Slot), Wld G ZX M s.heap H locs → lv_has ls 5 [(0, .ref (G.2.1 b)), (1, .int v1), (2, .long v2), (4, .int v4)] → p4_sumOf_5 b k5 v1 v2 v4 M = some (r, M') → WXl G ZX p l e 1 s m args below meth c r M' H locs (F0 m 5 ls []) := by
  intro v1 v2 v4 M H locs ls hw hl hf
  have hx := F.1.1
  have hb := F.1.2.1
  unfold p4_sumOf_5 at hf
  refine lv_iload hx hb dX4_sumOf_5 (lv_at hl 3 rfl) ?_
  refine lv_aload_n hx hb dX4_sumOf_7 rfl (lv_at hl 0 rfl) ?_
  refine g4_1 qb F hw tw_20 dX4_sumOf_8 ?_
  refine lv_iload_n hx hb dX4_sumOf_11 rfl (lv_at hl 1 rfl) ?_
  obtain ⟨g1, hf⟩ := gd_some hf
  refine x_iald F hw (sS1 qb) g1 dX4_sumOf_12 ?_
  refine lv_icmp_ge (tgt := 33) hx hb dX4_sumOf_13 (by decide) (fun c2 => ?_) (fun c2 => ?_)
  · have hf := it_t hf c2
    refine lv_lload_n hx hb dX4_sumOf_33 rfl (lv_at hl 2 rfl) ?_
    exact x_lret F hw hr hk hf dX4_sumOf_34
  · have hf := it_f hf c2
    refine lv_lload_n hx hb dX4_sumOf_16 rfl (lv_at hl 2 rfl) ?_
    refine lv_aload_n hx hb dX4_sumOf_17 rfl (lv_at hl 0 rfl) ?_
    refine lv_iload_n hx hb dX4_sumOf_18 rfl (lv_at hl 1 rfl) ?_
    refine lv_iload hx hb dX4_sumOf_19 (lv_at hl 3 rfl) ?_
    obtain ⟨r5, M4, hc3, hf⟩ := bd_some hf
    refine x_aftI hw (x_runV (rest := [.long v2]) F hw hl.1 vw_RX4_36 (sS qb) rfl (c4_valueAt b qb v1 v4 hc3) rfl rfl (Nat.le_of_ble_eq_true rfl) ⟨Nat.le_of_ble_eq_true rfl, Nat.le_of_ble_eq_true rfl⟩ dX4_sumOf_21) (fun H locs hw => ?_)
    refine lv_i2l (v := Int32.toInt64 r5) hx hb dX4_sumOf_24 rfl ?_
    refine lv_ladd hx hb dX4_sumOf_25 ?_
    obtain ⟨x6, ex6, hf⟩ := lt_elim hf
    refine x_letL ex6 ?_
    refine lv_lstore_n (lv' := [(2, .long x6), (0, .ref (G.2.1 b)), (1, .int v1), (4, .int v4)]) hx hb dX4_sumOf_26 rfl hl (by decide) rfl (fun ls hl => ?_)
    obtain ⟨x7, ex7, hf⟩ := lt_elim hf
    refine lv_iinc (v := x7) (lv' := [(4, .int x7), (2, .long x6), (0, .ref (G.2.1 b)), (1, .int v1)]) hx hb dX4_sumOf_27 hl (k := 3) rfl (by rw [ex7]; rfl) (by decide) rfl (fun ls hl => ?_)
    refine lv_goto (tgt := 5) hx hb dX4_sumOf_30 (by decide) ?_
    exact hk5 v1 x6 x7 M4 _ _ ls hw (lv_sub hl [2, 3, 1, 0] rfl) hf
theorem z4_sumOf_5 {G : XG} {p : Program} {l : Launch} {e : Env} {s : State} {m : MethodId} {args : Array Value} {below : List Frame} {meth : Method} {c : Code} (F : Fx G ZX p m c cX4_sumOf 5 s args RX4) (hr : meth.sig.returnType = some .long) (hk : meth.locks = false) {r : Int64} {M' : SX} (b : Nat) (qb : isS b) : ∀ n : Nat, ∀ (v1 : Int32) (v2 : Int64) (v4 : Int32) (M : SX) (H : Heap) (locs : List Loc) (ls : Array Slot), Wld G ZX M s.heap H locs → lv_has ls 5 [(0, .ref (G.2.1 b)), (1, .int v1), (2, .long v2), (4, .int v4)] → xlp3 (p4_sumOf_5 b) n v1 v2 v4 M = some (r, M') → WXl G ZX p l e 1 s m args below meth c r M' H locs (F0 m 5 ls []) := by
  intro n
  induction n with
  | zero => intro _ _ _ _ _ _ _ _ _ hf; cases hf
  | succ n ih => exact w4_sumOf_5 F hr hk b qb (xlp3 (p4_sumOf_5 b) n) ih
def p4_sumOf (b : Nat) (a1 : Int32) (M : SX) : Option (Int64 × SX) :=
  xlp3 (p4_sumOf_5 b) FU a1 0 0 M
set_option maxHeartbeats 4000000 in
set_option maxRecDepth 100000 in
theorem c4_sumOf {l : Launch} {G : XG} {r : Int64} {M' : SX} {M : SX} (b : Nat) (qb : isS b) (a1 : Int32) (hf : p4_sumOf b a1 M = some (r, M')) : Met l yX4_sumOf (.code yX4_sumOf cX4_sumOf 5 (some .long) :: TBL) (rmX 1) (xPc G ZX M [.ref (G.2.1 b), .int a1]) (xQl G ZX r M') 0 0 (inA G ZX) := by
  refine x_met (cc := cX4_sumOf) (by decide) (Nat.le_of_ble_eq_true rfl) ?_
  intro p e s m below meth c ls F hr hk hl hw
  have F : Fx G ZX p m c cX4_sumOf 5 s [.ref (G.2.1 b), .int a1].toArray RX4 := F
  have hl : lv_has ls 5 [(0, .ref (G.2.1 b)), (1, .int a1)] := hl
  have hx := F.1.1
  have hb := F.1.2.1
  unfold p4_sumOf at hf
  refine lv_lconst (v := 0) hx hb dX4_sumOf_0 (by decide) ?_
  refine lv_lstore_n (lv' := [(2, .long 0), (0, .ref (G.2.1 b)), (1, .int a1)]) hx hb dX4_sumOf_1 rfl hl (by decide) rfl (fun ls hl => ?_)
  refine lv_iconst (v := 0) hx hb dX4_sumOf_2 (by decide) ?_
  refine lv_istore (lv' := [(4, .int 0), (2, .long 0), (0, .ref (G.2.1 b)), (1, .int a1)]) hx hb dX4_sumOf_3 hl (by decide) rfl (fun ls hl => ?_)
  exact z4_sumOf_5 F hr hk b qb FU a1 0 0 M _ _ ls hw (lv_sub hl [2, 3, 1, 0] rfl) hf
theorem dX4_allBelow_0 : decode cX4_allBelow 0 = .ok (.iconst 0, 1) := by decide +kernel
theorem dX4_allBelow_1 : decode cX4_allBelow 1 = .ok (.istore_n 3, 1) := by decide +kernel
theorem dX4_allBelow_2 : decode cX4_allBelow 2 = .ok (.iload_n 3, 1) := by decide +kernel
theorem dX4_allBelow_3 : decode cX4_allBelow 3 = .ok (.aload_n 0, 1) := by decide +kernel
theorem dX4_allBelow_4 : decode cX4_allBelow 4 = .ok (.getfield 13, 3) := by decide +kernel
theorem dX4_allBelow_7 : decode cX4_allBelow 7 = .ok (.iload_n 1, 1) := by decide +kernel
theorem dX4_allBelow_8 : decode cX4_allBelow 8 = .ok (.iaload, 1) := by decide +kernel
theorem dX4_allBelow_9 : decode cX4_allBelow 9 = .ok (.if_icmp .ge 30, 3) := by decide +kernel
theorem dX4_allBelow_12 : decode cX4_allBelow 12 = .ok (.aload_n 0, 1) := by decide +kernel
theorem dX4_allBelow_13 : decode cX4_allBelow 13 = .ok (.iload_n 1, 1) := by decide +kernel
theorem dX4_allBelow_14 : decode cX4_allBelow 14 = .ok (.iload_n 3, 1) := by decide +kernel
theorem dX4_allBelow_15 : decode cX4_allBelow 15 = .ok (.invokevirtual 36, 3) := by decide +kernel
theorem dX4_allBelow_18 : decode cX4_allBelow 18 = .ok (.istore 4, 2) := by decide +kernel
theorem dX4_allBelow_20 : decode cX4_allBelow 20 = .ok (.iload 4, 2) := by decide +kernel
theorem dX4_allBelow_22 : decode cX4_allBelow 22 = .ok (.ifCond .lt 9, 3) := by decide +kernel
theorem dX4_allBelow_25 : decode cX4_allBelow 25 = .ok (.iload 4, 2) := by decide +kernel
theorem dX4_allBelow_27 : decode cX4_allBelow 27 = .ok (.iload_n 2, 1) := by decide +kernel
theorem dX4_allBelow_28 : decode cX4_allBelow 28 = .ok (.if_icmp .lt 5, 3) := by decide +kernel
theorem dX4_allBelow_31 : decode cX4_allBelow 31 = .ok (.iconst 0, 1) := by decide +kernel
theorem dX4_allBelow_32 : decode cX4_allBelow 32 = .ok (.ireturn, 1) := by decide +kernel
theorem dX4_allBelow_33 : decode cX4_allBelow 33 = .ok (.iinc 3 1, 3) := by decide +kernel
theorem dX4_allBelow_36 : decode cX4_allBelow 36 = .ok (.goto (-34), 3) := by decide +kernel
theorem dX4_allBelow_39 : decode cX4_allBelow 39 = .ok (.iconst 1, 1) := by decide +kernel
theorem dX4_allBelow_40 : decode cX4_allBelow 40 = .ok (.ireturn, 1) := by decide +kernel
def p4_allBelow_2 (b : Nat) (k2 : Int32 → Int32 → Int32 → SX → Option (Int32 × SX)) (v1 : Int32) (v2 : Int32) (v3 : Int32) (M : SX) : Option (Int32 × SX) :=
  gd (bIn v1 (szS b)) ( if (M.1 (b + 1) (Int32.toNatClampNeg v1)) ≤ v3 then (some (1, M))
  else (bd (p4_valueAt b v1 v3 M) (fun r5 M4 => if r5 < 0 then (some (0, M4))
  else (if r5 < v2 then (lt_ (v3 + 1) (fun x8 => k2 v1 v2 x8 M4))
  else (some (0, M4))))))
set_option maxHeartbeats 4000000 in
set_option maxRecDepth 100000 in
theorem w4_allBelow_2 {G : XG} {p : Program} {l : Launch} {e : Env} {s : State} {m : MethodId} {args : Array Value} {below : List Frame} {meth : Method} {c : Code} (F : Fx G ZX p m c cX4_allBelow 5 s args RX4) (hr : meth.sig.returnType = some .boolean) (hk : meth.locks = false) {r : Int32} {M' : SX} (b : Nat) (qb : isS b) (k2 : Int32 → Int32 → Int32 → SX → Option (Int32 × SX)) (hk2 : ∀ (v1 : Int32) (v2 : Int32) (v3 : Int32) (M : SX) (H : Heap) (locs : List Loc) (ls : Array Slot), Wld G ZX M s.heap H locs → lv_has ls 5 [(0, .ref (G.2.1 b)), (1, .int v1), (2, .int v2), (3, .int v3)] → k2 v1 v2 v3 M = some (r, M') → WXi G ZX p l e 1 s m args below meth c r M' H locs (F0 m 2 ls [])) : ∀ (v1 : Int32) (v2 : Int32) (v3 : Int32) (M : SX) (H : Heap) (locs : List Loc) (ls : Array Slot), Wld G ZX M s.heap H locs → lv_has ls 5 [(0, .ref (G.2.1 b)), (1, .int v1), (2, .int v2), (3, .int v3)] → p4_allBelow_2 b k2 v1 v2 v3 M = some (r, M') → WXi G ZX p l e 1 s m args below meth c r M' H locs (F0 m 2 ls []) := by
  intro v1 v2 v3 M H locs ls hw hl hf
  have hx := F.1.1
  have hb := F.1.2.1
  unfold p4_allBelow_2 at hf
  refine lv_iload_n hx hb dX4_allBelow_2 rfl (lv_at hl 3 rfl) ?_
  refine lv_aload_n hx hb dX4_allBelow_3 rfl (lv_at hl 0 rfl) ?_
  refine g4_1 qb F hw tw_20 dX4_allBelow_4 ?_
  refine lv_iload_n hx hb dX4_allBelow_7 rfl (lv_at hl 1 rfl) ?_
  obtain ⟨g1, hf⟩ := gd_some hf
  refine x_iald F hw (sS1 qb) g1 dX4_allBelow_8 ?_
  refine lv_icmp_ge (tgt := 39) hx hb dX4_allBelow_9 (by decide) (fun c2 => ?_) (fun c2 => ?_)
  · have hf := it_t hf c2
    refine lv_iconst (v := 1) hx hb dX4_allBelow_39 (by decide) ?_
    exact x_zret F hw hr hk (by decide) hf dX4_allBelow_40
  · have hf := it_f hf c2
    refine lv_aload_n hx hb dX4_allBelow_12 rfl (lv_at hl 0 rfl) ?_
    refine lv_iload_n hx hb dX4_allBelow_13 rfl (lv_at hl 1 rfl) ?_
    refine lv_iload_n hx hb dX4_allBelow_14 rfl (lv_at hl 3 rfl) ?_
    obtain ⟨r5, M4, hc3, hf⟩ := bd_some hf
    refine x_aftI hw (x_runV (rest := []) F hw hl.1 vw_RX4_36 (sS qb) rfl (c4_valueAt b qb v1 v3 hc3) rfl rfl (Nat.le_of_ble_eq_true rfl) ⟨Nat.le_of_ble_eq_true rfl, Nat.le_of_ble_eq_true rfl⟩ dX4_allBelow_15) (fun H locs hw => ?_)
    refine lv_istore (lv' := [(4, .int r5), (0, .ref (G.2.1 b)), (1, .int v1), (2, .int v2), (3, .int v3)]) hx hb dX4_allBelow_18 hl (by decide) rfl (fun ls hl => ?_)
    refine lv_iload hx hb dX4_allBelow_20 (lv_at hl 0 rfl) ?_
    refine lv_if_lt (tgt := 31) hx hb dX4_allBelow_22 (by decide) (fun c6 => ?_) (fun c6 => ?_)
    · have hf := it_t hf c6
      refine lv_iconst (v := 0) hx hb dX4_allBelow_31 (by decide) ?_
      exact x_zret F hw hr hk (by decide) hf dX4_allBelow_32
    · have hf := it_f hf c6
      refine lv_iload hx hb dX4_allBelow_25 (lv_at hl 0 rfl) ?_
      refine lv_iload_n hx hb dX4_allBelow_27 rfl (lv_at hl 3 rfl) ?_
      refine lv_icmp_lt (tgt := 33) hx hb dX4_allBelow_28 (by decide) (fun c7 => ?_) (fun c7 => ?_)
      · have hf := it_t hf c7
        obtain ⟨x8, ex8, hf⟩ := lt_elim hf
        refine lv_iinc (v := x8) (lv' := [(3, .int x8), (4, .int r5), (0, .ref (G.2.1 b)), (1, .int v1), (2, .int v2)]) hx hb dX4_allBelow_33 hl (k := 4) rfl (by rw [ex8]; rfl) (by decide) rfl (fun ls hl => ?_)
        refine lv_goto (tgt := 2) hx hb dX4_allBelow_36 (by decide) ?_
        exact hk2 v1 v2 x8 M4 _ _ ls hw (lv_sub hl [2, 3, 4, 0] rfl) hf
      · have hf := it_f hf c7
        refine lv_iconst (v := 0) hx hb dX4_allBelow_31 (by decide) ?_
        exact x_zret F hw hr hk (by decide) hf dX4_allBelow_32
theorem z4_allBelow_2 {G : XG} {p : Program} {l : Launch} {e : Env} {s : State} {m : MethodId} {args : Array Value} {below : List Frame} {meth : Method} {c : Code} (F : Fx G ZX p m c cX4_allBelow 5 s args RX4) (hr : meth.sig.returnType = some .boolean) (hk : meth.locks = false) {r : Int32} {M' : SX} (b : Nat) (qb : isS b) : ∀ n : Nat, ∀ (v1 : Int32) (v2 : Int32) (v3 : Int32) (M : SX) (H : Heap) (locs : List Loc) (ls : Array Slot), Wld G ZX M s.heap H locs → lv_has ls 5 [(0, .ref (G.2.1 b)), (1, .int v1), (2, .int v2), (3, .int v3)] → xlp3 (p4_allBelow_2 b) n v1 v2 v3 M = some (r, M') → WXi G ZX p l e 1 s m args below meth c r M' H locs (F0 m 2 ls []) := by
  intro n
  induction n with
  | zero => intro _ _ _ _ _ _ _ _ _ hf; cases hf
  | succ n ih => exact w4_allBelow_2 F hr hk b qb (xlp3 (p4_allBelow_2 b) n) ih
def p4_allBelow (b : Nat) (a1 : Int32) (a2 : Int32) (M : SX) : Option (Int32 × SX) :=
  xlp3 (p4_allBelow_2 b) FU a1 a2 0 M
set_option maxHeartbeats 4000000 in
set_option maxRecDepth 100000 in
theorem c4_allBelow {l : Launch} {G : XG} {r : Int32} {M' : SX} {M : SX} (b : Nat) (qb : isS b) (a1 : Int32) (a2 : Int32) (hf : p4_allBelow b a1 a2 M = some (r, M')) : Met l yX4_allBelow (.code yX4_allBelow cX4_allBelow 5 (some .boolean) :: TBL) (rmX 1) (xPc G ZX M [.ref (G.2.1 b), .int a1, .int a2]) (xQi G ZX r M') 0 0 (inA G ZX) := by
  refine x_met (cc := cX4_allBelow) (by decide) (Nat.le_of_ble_eq_true rfl) ?_
  intro p e s m below meth c ls F hr hk hl hw
  have F : Fx G ZX p m c cX4_allBelow 5 s [.ref (G.2.1 b), .int a1, .int a2].toArray RX4 := F
  have hl : lv_has ls 5 [(0, .ref (G.2.1 b)), (1, .int a1), (2, .int a2)] := hl
  have hx := F.1.1
  have hb := F.1.2.1
  unfold p4_allBelow at hf
  refine lv_iconst (v := 0) hx hb dX4_allBelow_0 (by decide) ?_
  refine lv_istore_n (lv' := [(3, .int 0), (0, .ref (G.2.1 b)), (1, .int a1), (2, .int a2)]) hx hb dX4_allBelow_1 rfl hl (by decide) rfl (fun ls hl => ?_)
  exact z4_allBelow_2 F hr hk b qb FU a1 a2 0 M _ _ ls hw (lv_sub hl [1, 2, 3, 0] rfl) hf
theorem dX4_howMany_0 : decode cX4_howMany 0 = .ok (.iconst 0, 1) := by decide +kernel
theorem dX4_howMany_1 : decode cX4_howMany 1 = .ok (.istore_n 1, 1) := by decide +kernel
theorem dX4_howMany_2 : decode cX4_howMany 2 = .ok (.iconst 0, 1) := by decide +kernel
theorem dX4_howMany_3 : decode cX4_howMany 3 = .ok (.istore_n 2, 1) := by decide +kernel
theorem dX4_howMany_4 : decode cX4_howMany 4 = .ok (.iload_n 2, 1) := by decide +kernel
theorem dX4_howMany_5 : decode cX4_howMany 5 = .ok (.aload_n 0, 1) := by decide +kernel
theorem dX4_howMany_6 : decode cX4_howMany 6 = .ok (.getfield 13, 3) := by decide +kernel
theorem dX4_howMany_9 : decode cX4_howMany 9 = .ok (.arraylength, 1) := by decide +kernel
theorem dX4_howMany_10 : decode cX4_howMany 10 = .ok (.if_icmp .ge 20, 3) := by decide +kernel
theorem dX4_howMany_13 : decode cX4_howMany 13 = .ok (.aload_n 0, 1) := by decide +kernel
theorem dX4_howMany_14 : decode cX4_howMany 14 = .ok (.iload_n 2, 1) := by decide +kernel
theorem dX4_howMany_15 : decode cX4_howMany 15 = .ok (.invokevirtual 40, 3) := by decide +kernel
theorem dX4_howMany_18 : decode cX4_howMany 18 = .ok (.ifCond .eq 6, 3) := by decide +kernel
theorem dX4_howMany_21 : decode cX4_howMany 21 = .ok (.iinc 1 1, 3) := by decide +kernel
theorem dX4_howMany_24 : decode cX4_howMany 24 = .ok (.iinc 2 1, 3) := by decide +kernel
theorem dX4_howMany_27 : decode cX4_howMany 27 = .ok (.goto (-23), 3) := by decide +kernel
theorem dX4_howMany_30 : decode cX4_howMany 30 = .ok (.iload_n 1, 1) := by decide +kernel
theorem dX4_howMany_31 : decode cX4_howMany 31 = .ok (.ireturn, 1) := by decide +kernel
def p4_howMany_24 (b : Nat) (k4 : Int32 → Int32 → SX → Option (Int32 × SX)) (v1 : Int32) (v2 : Int32) (M : SX) : Option (Int32 × SX) :=
  lt_ (v2 + 1) (fun x1 => k4 v1 x1 M)
set_option maxHeartbeats 4000000 in
set_option maxRecDepth 100000 in
theorem w4_howMany_24 {G : XG} {p : Program} {l : Launch} {e : Env} {s : State} {m : MethodId} {args : Array Value} {below : List Frame} {meth : Method} {c : Code} (F : Fx G ZX p m c cX4_howMany 3 s args RX4) (hr : meth.sig.returnType = some .int) (hk : meth.locks = false) {r : Int32} {M' : SX} (b : Nat) (qb : isS b) (k4 : Int32 → Int32 → SX → Option (Int32 × SX)) (hk4 : ∀ (v1 : Int32) (v2 : Int32) (M : SX) (H : Heap) (locs : List Loc) (ls : Array Slot), Wld G ZX M s.heap H locs → lv_has ls 3 [(0, .ref (G.2.1 b)), (1, .int v1), (2, .int v2)] → k4 v1 v2 M = some (r, M') → WXi G ZX p l e 1 s m args below meth c r M' H locs (F0 m 4 ls [])) : ∀ (v1 : Int32) (v2 : Int32) (M : SX) (H : Heap) (locs : List Loc) (ls : Array Slot), Wld G ZX M s.heap H locs → lv_has ls 3 [(0, .ref (G.2.1 b)), (1, .int v1), (2, .int v2)] → p4_howMany_24 b k4 v1 v2 M = some (r, M') → WXi G ZX p l e 1 s m args below meth c r M' H locs (F0 m 24 ls []) := by
  intro v1 v2 M H locs ls hw hl hf
  have hx := F.1.1
  have hb := F.1.2.1
  unfold p4_howMany_24 at hf
  obtain ⟨x1, ex1, hf⟩ := lt_elim hf
  refine lv_iinc (v := x1) (lv' := [(2, .int x1), (0, .ref (G.2.1 b)), (1, .int v1)]) hx hb dX4_howMany_24 hl (k := 2) rfl (by rw [ex1]; rfl) (by decide) rfl (fun ls hl => ?_)
  refine lv_goto (tgt := 4) hx hb dX4_howMany_27 (by decide) ?_
  exact hk4 v1 x1 M _ _ ls hw (lv_sub hl [1, 2, 0] rfl) hf
def p4_howMany_4 (b : Nat) (k4 : Int32 → Int32 → SX → Option (Int32 × SX)) (v1 : Int32) (v2 : Int32) (M : SX) : Option (Int32 × SX) :=
  if (Int32.ofNat (szS b)) ≤ v2 then (some (v1, M))
  else (bd (p4_isThere b v2 M) (fun r4 M3 => if r4 = 0 then (p4_howMany_24 b k4 v1 v2 M3)
  else (lt_ (v1 + 1) (fun x6 => p4_howMany_24 b k4 x6 v2 M3))))
set_option maxHeartbeats 4000000 in
set_option maxRecDepth 100000 in
theorem w4_howMany_4 {G : XG} {p : Program} {l : Launch} {e : Env} {s : State} {m : MethodId} {args : Array Value} {below : List Frame} {meth : Method} {c : Code} (F : Fx G ZX p m c cX4_howMany 3 s args RX4) (hr : meth.sig.returnType = some .int) (hk : meth.locks = false) {r : Int32} {M' : SX} (b : Nat) (qb : isS b) (k4 : Int32 → Int32 → SX → Option (Int32 × SX)) (hk4 : ∀ (v1 : Int32) (v2 : Int32) (M : SX) (H : Heap) (locs : List Loc) (ls : Array Slot), Wld G ZX M s.heap H locs → lv_has ls 3 [(0, .ref (G.2.1 b)), (1, .int v1), (2, .int v2)] → k4 v1 v2 M = some (r, M') → WXi G ZX p l e 1 s m args below meth c r M' H locs (F0 m 4 ls [])) : ∀ (v1 : Int32) (v2 : Int32) (M : SX) (H : Heap) (locs : List Loc) (ls : Array Slot), Wld G ZX M s.heap H locs → lv_has ls 3 [(0, .ref (G.2.1 b)), (1, .int v1), (2, .int v2)] → p4_howMany_4 b k4 v1 v2 M = some (r, M') → WXi G ZX p l e 1 s m args below meth c r M' H locs (F0 m 4 ls []) := by
  intro v1 v2 M H locs ls hw hl hf
  have hx := F.1.1
  have hb := F.1.2.1
  unfold p4_howMany_4 at hf
  refine lv_iload_n hx hb dX4_howMany_4 rfl (lv_at hl 2 rfl) ?_
  refine lv_aload_n hx hb dX4_howMany_5 rfl (lv_at hl 0 rfl) ?_
  refine g4_1 qb F hw tw_20 dX4_howMany_6 ?_
  refine x_alenI F hw (sS1 qb) dX4_howMany_9 ?_
  refine lv_icmp_ge (tgt := 30) hx hb dX4_howMany_10 (by decide) (fun c1 => ?_) (fun c1 => ?_)
  · have hf := it_t hf c1
    refine lv_iload_n hx hb dX4_howMany_30 rfl (lv_at hl 1 rfl) ?_
    exact x_iret F hw hr hk hf dX4_howMany_31
  · have hf := it_f hf c1
    refine lv_aload_n hx hb dX4_howMany_13 rfl (lv_at hl 0 rfl) ?_
    refine lv_iload_n hx hb dX4_howMany_14 rfl (lv_at hl 2 rfl) ?_
    obtain ⟨r4, M3, hc2, hf⟩ := bd_some hf
    refine x_aftI hw (x_runV (rest := []) F hw hl.1 vw_RX4_40 (sS qb) rfl (c4_isThere b qb v2 hc2) rfl rfl (Nat.le_of_ble_eq_true rfl) ⟨Nat.le_of_ble_eq_true rfl, Nat.le_of_ble_eq_true rfl⟩ dX4_howMany_15) (fun H locs hw => ?_)
    refine lv_if_eq (tgt := 24) hx hb dX4_howMany_18 (by decide) (fun c5 => ?_) (fun c5 => ?_)
    · have hf := it_t hf c5
      exact w4_howMany_24 F hr hk b qb k4 hk4 v1 v2 M3 _ _ ls hw (lv_sub hl [0, 1, 2] rfl) hf
    · have hf := it_f hf c5
      obtain ⟨x6, ex6, hf⟩ := lt_elim hf
      refine lv_iinc (v := x6) (lv' := [(1, .int x6), (0, .ref (G.2.1 b)), (2, .int v2)]) hx hb dX4_howMany_21 hl (k := 1) rfl (by rw [ex6]; rfl) (by decide) rfl (fun ls hl => ?_)
      exact w4_howMany_24 F hr hk b qb k4 hk4 x6 v2 M3 _ _ ls hw (lv_sub hl [1, 0, 2] rfl) hf
theorem z4_howMany_4 {G : XG} {p : Program} {l : Launch} {e : Env} {s : State} {m : MethodId} {args : Array Value} {below : List Frame} {meth : Method} {c : Code} (F : Fx G ZX p m c cX4_howMany 3 s args RX4) (hr : meth.sig.returnType = some .int) (hk : meth.locks = false) {r : Int32} {M' : SX} (b : Nat) (qb : isS b) : ∀ n : Nat, ∀ (v1 : Int32) (v2 : Int32) (M : SX) (H : Heap) (locs : List Loc) (ls : Array Slot), Wld G ZX M s.heap H locs → lv_has ls 3 [(0, .ref (G.2.1 b)), (1, .int v1), (2, .int v2)] → xlp2 (p4_howMany_4 b) n v1 v2 M = some (r, M') → WXi G ZX p l e 1 s m args below meth c r M' H locs (F0 m 4 ls []) := by
  intro n
  induction n with
  | zero => intro _ _ _ _ _ _ _ _ hf; cases hf
  | succ n ih => exact w4_howMany_4 F hr hk b qb (xlp2 (p4_howMany_4 b) n) ih
def p4_howMany (b : Nat) (M : SX) : Option (Int32 × SX) :=
  xlp2 (p4_howMany_4 b) FU 0 0 M
set_option maxHeartbeats 4000000 in
set_option maxRecDepth 100000 in
theorem c4_howMany {l : Launch} {G : XG} {r : Int32} {M' : SX} {M : SX} (b : Nat) (qb : isS b) (hf : p4_howMany b M = some (r, M')) : Met l yX4_howMany (.code yX4_howMany cX4_howMany 3 (some .int) :: TBL) (rmX 1) (xPc G ZX M [.ref (G.2.1 b)]) (xQi G ZX r M') 0 0 (inA G ZX) := by
  refine x_met (cc := cX4_howMany) (by decide) (Nat.le_of_ble_eq_true rfl) ?_
  intro p e s m below meth c ls F hr hk hl hw
  have F : Fx G ZX p m c cX4_howMany 3 s [.ref (G.2.1 b)].toArray RX4 := F
  have hl : lv_has ls 3 [(0, .ref (G.2.1 b))] := hl
  have hx := F.1.1
  have hb := F.1.2.1
  unfold p4_howMany at hf
  refine lv_iconst (v := 0) hx hb dX4_howMany_0 (by decide) ?_
  refine lv_istore_n (lv' := [(1, .int 0), (0, .ref (G.2.1 b))]) hx hb dX4_howMany_1 rfl hl (by decide) rfl (fun ls hl => ?_)
  refine lv_iconst (v := 0) hx hb dX4_howMany_2 (by decide) ?_
  refine lv_istore_n (lv' := [(2, .int 0), (1, .int 0), (0, .ref (G.2.1 b))]) hx hb dX4_howMany_3 rfl hl (by decide) rfl (fun ls hl => ?_)
  exact z4_howMany_4 F hr hk b qb FU 0 0 M _ _ ls hw (lv_sub hl [2, 1, 0] rfl) hf
theorem dX4_digestOnto_0 : decode cX4_digestOnto 0 = .ok (.lload_n 1, 1) := by decide +kernel
theorem dX4_digestOnto_1 : decode cX4_digestOnto 1 = .ok (.lstore_n 3, 1) := by decide +kernel
theorem dX4_digestOnto_2 : decode cX4_digestOnto 2 = .ok (.iconst 0, 1) := by decide +kernel
theorem dX4_digestOnto_3 : decode cX4_digestOnto 3 = .ok (.istore 5, 2) := by decide +kernel
theorem dX4_digestOnto_5 : decode cX4_digestOnto 5 = .ok (.iload 5, 2) := by decide +kernel
theorem dX4_digestOnto_7 : decode cX4_digestOnto 7 = .ok (.aload_n 0, 1) := by decide +kernel
theorem dX4_digestOnto_8 : decode cX4_digestOnto 8 = .ok (.getfield 13, 3) := by decide +kernel
theorem dX4_digestOnto_11 : decode cX4_digestOnto 11 = .ok (.arraylength, 1) := by decide +kernel
theorem dX4_digestOnto_12 : decode cX4_digestOnto 12 = .ok (.if_icmp .ge 61, 3) := by decide +kernel
theorem dX4_digestOnto_15 : decode cX4_digestOnto 15 = .ok (.ldc2_w 44, 3) := by decide +kernel
theorem dX4_digestOnto_18 : decode cX4_digestOnto 18 = .ok (.lload_n 3, 1) := by decide +kernel
theorem dX4_digestOnto_19 : decode cX4_digestOnto 19 = .ok (.lmul, 1) := by decide +kernel
theorem dX4_digestOnto_20 : decode cX4_digestOnto 20 = .ok (.aload_n 0, 1) := by decide +kernel
theorem dX4_digestOnto_21 : decode cX4_digestOnto 21 = .ok (.getfield 13, 3) := by decide +kernel
theorem dX4_digestOnto_24 : decode cX4_digestOnto 24 = .ok (.iload 5, 2) := by decide +kernel
theorem dX4_digestOnto_26 : decode cX4_digestOnto 26 = .ok (.iaload, 1) := by decide +kernel
theorem dX4_digestOnto_27 : decode cX4_digestOnto 27 = .ok (.i2l, 1) := by decide +kernel
theorem dX4_digestOnto_28 : decode cX4_digestOnto 28 = .ok (.ladd, 1) := by decide +kernel
theorem dX4_digestOnto_29 : decode cX4_digestOnto 29 = .ok (.lstore_n 3, 1) := by decide +kernel
theorem dX4_digestOnto_30 : decode cX4_digestOnto 30 = .ok (.iconst 0, 1) := by decide +kernel
theorem dX4_digestOnto_31 : decode cX4_digestOnto 31 = .ok (.istore 6, 2) := by decide +kernel
theorem dX4_digestOnto_33 : decode cX4_digestOnto 33 = .ok (.iload 6, 2) := by decide +kernel
theorem dX4_digestOnto_35 : decode cX4_digestOnto 35 = .ok (.aload_n 0, 1) := by decide +kernel
theorem dX4_digestOnto_36 : decode cX4_digestOnto 36 = .ok (.getfield 13, 3) := by decide +kernel
theorem dX4_digestOnto_39 : decode cX4_digestOnto 39 = .ok (.iload 5, 2) := by decide +kernel
theorem dX4_digestOnto_41 : decode cX4_digestOnto 41 = .ok (.iaload, 1) := by decide +kernel
theorem dX4_digestOnto_42 : decode cX4_digestOnto 42 = .ok (.if_icmp .ge 25, 3) := by decide +kernel
theorem dX4_digestOnto_45 : decode cX4_digestOnto 45 = .ok (.ldc2_w 44, 3) := by decide +kernel
theorem dX4_digestOnto_48 : decode cX4_digestOnto 48 = .ok (.lload_n 3, 1) := by decide +kernel
theorem dX4_digestOnto_49 : decode cX4_digestOnto 49 = .ok (.lmul, 1) := by decide +kernel
theorem dX4_digestOnto_50 : decode cX4_digestOnto 50 = .ok (.aload_n 0, 1) := by decide +kernel
theorem dX4_digestOnto_51 : decode cX4_digestOnto 51 = .ok (.iload 5, 2) := by decide +kernel
theorem dX4_digestOnto_53 : decode cX4_digestOnto 53 = .ok (.iload 6, 2) := by decide +kernel
theorem dX4_digestOnto_55 : decode cX4_digestOnto 55 = .ok (.invokevirtual 36, 3) := by decide +kernel
theorem dX4_digestOnto_58 : decode cX4_digestOnto 58 = .ok (.i2l, 1) := by decide +kernel
theorem dX4_digestOnto_59 : decode cX4_digestOnto 59 = .ok (.ladd, 1) := by decide +kernel
theorem dX4_digestOnto_60 : decode cX4_digestOnto 60 = .ok (.lstore_n 3, 1) := by decide +kernel
theorem dX4_digestOnto_61 : decode cX4_digestOnto 61 = .ok (.iinc 6 1, 3) := by decide +kernel
theorem dX4_digestOnto_64 : decode cX4_digestOnto 64 = .ok (.goto (-31), 3) := by decide +kernel
theorem dX4_digestOnto_67 : decode cX4_digestOnto 67 = .ok (.iinc 5 1, 3) := by decide +kernel
theorem dX4_digestOnto_70 : decode cX4_digestOnto 70 = .ok (.goto (-65), 3) := by decide +kernel
theorem dX4_digestOnto_73 : decode cX4_digestOnto 73 = .ok (.lload_n 3, 1) := by decide +kernel
theorem dX4_digestOnto_74 : decode cX4_digestOnto 74 = .ok (.lreturn, 1) := by decide +kernel
def p4_digestOnto_33 (b : Nat) (k5 : Int64 → Int32 → SX → Option (Int64 × SX)) (k33 : Int64 → Int32 → Int32 → SX → Option (Int64 × SX)) (v3 : Int64) (v5 : Int32) (v6 : Int32) (M : SX) : Option (Int64 × SX) :=
  gd (bIn v5 (szS b)) ( if (M.1 (b + 1) (Int32.toNatClampNeg v5)) ≤ v6 then (lt_ (v5 + 1) (fun x3 => k5 v3 x3 M))
  else (bd (p4_valueAt b v5 v6 M) (fun r6 M5 => lt_ ((31 * v3) + (Int32.toInt64 r6)) (fun x7 => lt_ (v6 + 1) (fun x8 => k33 x7 v5 x8 M5)))))
set_option maxHeartbeats 4000000 in
set_option maxRecDepth 100000 in
theorem w4_digestOnto_33 {G : XG} {p : Program} {l : Launch} {e : Env} {s : State} {m : MethodId} {args : Array Value} {below : List Frame} {meth : Method} {c : Code} (F : Fx G ZX p m c cX4_digestOnto 7 s args RX4) (hr : meth.sig.returnType = some .long) (hk : meth.locks = false) {r : Int64} {M' : SX} (b : Nat) (qb : isS b) (k5 : Int64 → Int32 → SX → Option (Int64 × SX)) (hk5 : ∀ (v3 : Int64) (v5 : Int32) (M : SX) (H : Heap) (locs : List Loc) (ls : Array Slot), Wld G ZX M s.heap H locs → lv_has ls 7 [(0, .ref (G.2.1 b)), (3, .long v3), (5, .int v5)] → k5 v3 v5 M = some (r, M') → WXl G ZX p l e 1 s m args below meth c r M' H locs (F0 m 5 ls [])) (k33 : Int64 → Int32 → Int32 → SX → Option (Int64 × SX)) (hk33 : ∀ (v3 : Int64) (v5 : Int32) (v6 : Int32) (M : SX) (H : Heap) (locs : List Loc) (ls : Array Slot), Wld G ZX M s.heap H locs → lv_has ls 7 [(0, .ref (G.2.1 b)), (3, .long v3), (5, .int v5), (6, .int v6)] → k33 v3 v5 v6 M = some (r, M') → WXl G ZX p l e 1 s m args below meth c r M' H locs (F0 m 33 ls [])) : ∀ (v3 : Int64) (v5 : Int32) (v6 : Int32) (M : SX) (H : Heap) (locs : List Loc) (ls : Array Slot), Wld G ZX M s.heap H locs → lv_has ls 7 [(0, .ref (G.2.1 b)), (3, .long v3), (5, .int v5), (6, .int v6)] → p4_digestOnto_33 b k5 k33 v3 v5 v6 M = some (r, M') → WXl G ZX p l e 1 s m args below meth c r M' H locs (F0 m 33 ls []) := by
  intro v3 v5 v6 M H locs ls hw hl hf
  have hx := F.1.1
  have hb := F.1.2.1
  unfold p4_digestOnto_33 at hf
  refine lv_iload hx hb dX4_digestOnto_33 (lv_at hl 3 rfl) ?_
  refine lv_aload_n hx hb dX4_digestOnto_35 rfl (lv_at hl 0 rfl) ?_
  refine g4_1 qb F hw tw_20 dX4_digestOnto_36 ?_
  refine lv_iload hx hb dX4_digestOnto_39 (lv_at hl 2 rfl) ?_
  obtain ⟨g1, hf⟩ := gd_some hf
  refine x_iald F hw (sS1 qb) g1 dX4_digestOnto_41 ?_
  refine lv_icmp_ge (tgt := 67) hx hb dX4_digestOnto_42 (by decide) (fun c2 => ?_) (fun c2 => ?_)
  · have hf := it_t hf c2
    obtain ⟨x3, ex3, hf⟩ := lt_elim hf
    refine lv_iinc (v := x3) (lv' := [(5, .int x3), (0, .ref (G.2.1 b)), (3, .long v3), (6, .int v6)]) hx hb dX4_digestOnto_67 hl (k := 2) rfl (by rw [ex3]; rfl) (by decide) rfl (fun ls hl => ?_)
    refine lv_goto (tgt := 5) hx hb dX4_digestOnto_70 (by decide) ?_
    exact hk5 v3 x3 M _ _ ls hw (lv_sub hl [1, 2, 0] rfl) hf
  · have hf := it_f hf c2
    refine lv_ldc2 (v := 31) hx hb F.1.2.2.2.1 (F.1.2.2.2.2 _ tw_40) dX4_digestOnto_45 ?_
    refine lv_lload_n hx hb dX4_digestOnto_48 rfl (lv_at hl 1 rfl) ?_
    refine lv_lmul hx hb dX4_digestOnto_49 ?_
    refine lv_aload_n hx hb dX4_digestOnto_50 rfl (lv_at hl 0 rfl) ?_
    refine lv_iload hx hb dX4_digestOnto_51 (lv_at hl 2 rfl) ?_
    refine lv_iload hx hb dX4_digestOnto_53 (lv_at hl 3 rfl) ?_
    obtain ⟨r6, M5, hc4, hf⟩ := bd_some hf
    refine x_aftI hw (x_runV (rest := [.long (31 * v3)]) F hw hl.1 vw_RX4_36 (sS qb) rfl (c4_valueAt b qb v5 v6 hc4) rfl rfl (Nat.le_of_ble_eq_true rfl) ⟨Nat.le_of_ble_eq_true rfl, Nat.le_of_ble_eq_true rfl⟩ dX4_digestOnto_55) (fun H locs hw => ?_)
    refine lv_i2l (v := Int32.toInt64 r6) hx hb dX4_digestOnto_58 rfl ?_
    refine lv_ladd hx hb dX4_digestOnto_59 ?_
    obtain ⟨x7, ex7, hf⟩ := lt_elim hf
    refine x_letL ex7 ?_
    refine lv_lstore_n (lv' := [(3, .long x7), (0, .ref (G.2.1 b)), (5, .int v5), (6, .int v6)]) hx hb dX4_digestOnto_60 rfl hl (by decide) rfl (fun ls hl => ?_)
    obtain ⟨x8, ex8, hf⟩ := lt_elim hf
    refine lv_iinc (v := x8) (lv' := [(6, .int x8), (3, .long x7), (0, .ref (G.2.1 b)), (5, .int v5)]) hx hb dX4_digestOnto_61 hl (k := 3) rfl (by rw [ex8]; rfl) (by decide) rfl (fun ls hl => ?_)
    refine lv_goto (tgt := 33) hx hb dX4_digestOnto_64 (by decide) ?_
    exact hk33 x7 v5 x8 M5 _ _ ls hw (lv_sub hl [2, 1, 3, 0] rfl) hf
theorem z4_digestOnto_33 {G : XG} {p : Program} {l : Launch} {e : Env} {s : State} {m : MethodId} {args : Array Value} {below : List Frame} {meth : Method} {c : Code} (F : Fx G ZX p m c cX4_digestOnto 7 s args RX4) (hr : meth.sig.returnType = some .long) (hk : meth.locks = false) {r : Int64} {M' : SX} (b : Nat) (qb : isS b) (k5 : Int64 → Int32 → SX → Option (Int64 × SX)) (hk5 : ∀ (v3 : Int64) (v5 : Int32) (M : SX) (H : Heap) (locs : List Loc) (ls : Array Slot), Wld G ZX M s.heap H locs → lv_has ls 7 [(0, .ref (G.2.1 b)), (3, .long v3), (5, .int v5)] → k5 v3 v5 M = some (r, M') → WXl G ZX p l e 1 s m args below meth c r M' H locs (F0 m 5 ls [])) : ∀ n : Nat, ∀ (v3 : Int64) (v5 : Int32) (v6 : Int32) (M : SX) (H : Heap) (locs : List Loc) (ls : Array Slot), Wld G ZX M s.heap H locs → lv_has ls 7 [(0, .ref (G.2.1 b)), (3, .long v3), (5, .int v5), (6, .int v6)] → xlp3 (p4_digestOnto_33 b k5) n v3 v5 v6 M = some (r, M') → WXl G ZX p l e 1 s m args below meth c r M' H locs (F0 m 33 ls []) := by
  intro n
  induction n with
  | zero => intro _ _ _ _ _ _ _ _ _ hf; cases hf
  | succ n ih => exact w4_digestOnto_33 F hr hk b qb k5 hk5 (xlp3 (p4_digestOnto_33 b k5) n) ih
def p4_digestOnto_5 (b : Nat) (k5 : Int64 → Int32 → SX → Option (Int64 × SX)) (v3 : Int64) (v5 : Int32) (M : SX) : Option (Int64 × SX) :=
  if (Int32.ofNat (szS b)) ≤ v5 then (some (v3, M))
  else (gd (bIn v5 (szS b)) ( lt_ ((31 * v3) + (Int32.toInt64 (M.1 (b + 1) (Int32.toNatClampNeg v5)))) (fun x3 => xlp3 (p4_digestOnto_33 b k5) FU x3 v5 0 M)))
set_option maxHeartbeats 4000000 in
set_option maxRecDepth 100000 in
theorem w4_digestOnto_5 {G : XG} {p : Program} {l : Launch} {e : Env} {s : State} {m : MethodId} {args : Array Value} {below : List Frame} {meth : Method} {c : Code} (F : Fx G ZX p m c cX4_digestOnto 7 s args RX4) (hr : meth.sig.returnType = some .long) (hk : meth.locks = false) {r : Int64} {M' : SX} (b : Nat) (qb : isS b) (k5 : Int64 → Int32 → SX → Option (Int64 × SX)) (hk5 : ∀ (v3 : Int64) (v5 : Int32) (M : SX) (H : Heap) (locs : List Loc) (ls : Array Slot), Wld G ZX M s.heap H locs → lv_has ls 7 [(0, .ref (G.2.1 b)), (3, .long v3), (5, .int v5)] → k5 v3 v5 M = some (r, M') → WXl G ZX p l e 1 s m args below meth c r M' H locs (F0 m 5 ls [])) : ∀ (v3 : Int64) (v5 : Int32) (M : SX) (H : Heap) (locs : List Loc) (ls : Array Slot), Wld G ZX M s.heap H locs → lv_has ls 7 [(0, .ref (G.2.1 b)), (3, .long v3), (5, .int v5)] → p4_digestOnto_5 b k5 v3 v5 M = some (r, M') → WXl G ZX p l e 1 s m args below meth c r M' H locs (F0 m 5 ls []) := by
  intro v3 v5 M H locs ls hw hl hf
  have hx := F.1.1
  have hb := F.1.2.1
  unfold p4_digestOnto_5 at hf
  refine lv_iload hx hb dX4_digestOnto_5 (lv_at hl 2 rfl) ?_
  refine lv_aload_n hx hb dX4_digestOnto_7 rfl (lv_at hl 0 rfl) ?_
  refine g4_1 qb F hw tw_20 dX4_digestOnto_8 ?_
  refine x_alenI F hw (sS1 qb) dX4_digestOnto_11 ?_
  refine lv_icmp_ge (tgt := 73) hx hb dX4_digestOnto_12 (by decide) (fun c1 => ?_) (fun c1 => ?_)
  · have hf := it_t hf c1
    refine lv_lload_n hx hb dX4_digestOnto_73 rfl (lv_at hl 1 rfl) ?_
    exact x_lret F hw hr hk hf dX4_digestOnto_74
  · have hf := it_f hf c1
    refine lv_ldc2 (v := 31) hx hb F.1.2.2.2.1 (F.1.2.2.2.2 _ tw_40) dX4_digestOnto_15 ?_
    refine lv_lload_n hx hb dX4_digestOnto_18 rfl (lv_at hl 1 rfl) ?_
    refine lv_lmul hx hb dX4_digestOnto_19 ?_
    refine lv_aload_n hx hb dX4_digestOnto_20 rfl (lv_at hl 0 rfl) ?_
    refine g4_1 qb F hw tw_20 dX4_digestOnto_21 ?_
    refine lv_iload hx hb dX4_digestOnto_24 (lv_at hl 2 rfl) ?_
    obtain ⟨g2, hf⟩ := gd_some hf
    refine x_iald F hw (sS1 qb) g2 dX4_digestOnto_26 ?_
    refine lv_i2l (v := Int32.toInt64 (M.1 (b + 1) (Int32.toNatClampNeg v5))) hx hb dX4_digestOnto_27 rfl ?_
    refine lv_ladd hx hb dX4_digestOnto_28 ?_
    obtain ⟨x3, ex3, hf⟩ := lt_elim hf
    refine x_letL ex3 ?_
    refine lv_lstore_n (lv' := [(3, .long x3), (0, .ref (G.2.1 b)), (5, .int v5)]) hx hb dX4_digestOnto_29 rfl hl (by decide) rfl (fun ls hl => ?_)
    refine lv_iconst (v := 0) hx hb dX4_digestOnto_30 (by decide) ?_
    refine lv_istore (lv' := [(6, .int 0), (3, .long x3), (0, .ref (G.2.1 b)), (5, .int v5)]) hx hb dX4_digestOnto_31 hl (by decide) rfl (fun ls hl => ?_)
    exact z4_digestOnto_33 F hr hk b qb k5 hk5 FU x3 v5 0 M _ _ ls hw (lv_sub hl [2, 1, 3, 0] rfl) hf
theorem z4_digestOnto_5 {G : XG} {p : Program} {l : Launch} {e : Env} {s : State} {m : MethodId} {args : Array Value} {below : List Frame} {meth : Method} {c : Code} (F : Fx G ZX p m c cX4_digestOnto 7 s args RX4) (hr : meth.sig.returnType = some .long) (hk : meth.locks = false) {r : Int64} {M' : SX} (b : Nat) (qb : isS b) : ∀ n : Nat, ∀ (v3 : Int64) (v5 : Int32) (M : SX) (H : Heap) (locs : List Loc) (ls : Array Slot), Wld G ZX M s.heap H locs → lv_has ls 7 [(0, .ref (G.2.1 b)), (3, .long v3), (5, .int v5)] → xlp2 (p4_digestOnto_5 b) n v3 v5 M = some (r, M') → WXl G ZX p l e 1 s m args below meth c r M' H locs (F0 m 5 ls []) := by
  intro n
  induction n with
  | zero => intro _ _ _ _ _ _ _ _ hf; cases hf
  | succ n ih => exact w4_digestOnto_5 F hr hk b qb (xlp2 (p4_digestOnto_5 b) n) ih
def p4_digestOnto (b : Nat) (a1 : Int64) (M : SX) : Option (Int64 × SX) :=
  xlp2 (p4_digestOnto_5 b) FU a1 0 M
set_option maxHeartbeats 4000000 in
set_option maxRecDepth 100000 in
theorem c4_digestOnto {l : Launch} {G : XG} {r : Int64} {M' : SX} {M : SX} (b : Nat) (qb : isS b) (a1 : Int64) (hf : p4_digestOnto b a1 M = some (r, M')) : Met l yX4_digestOnto (.code yX4_digestOnto cX4_digestOnto 7 (some .long) :: TBL) (rmX 1) (xPc G ZX M [.ref (G.2.1 b), .long a1]) (xQl G ZX r M') 0 0 (inA G ZX) := by
  refine x_met (cc := cX4_digestOnto) (by decide) (Nat.le_of_ble_eq_true rfl) ?_
  intro p e s m below meth c ls F hr hk hl hw
  have F : Fx G ZX p m c cX4_digestOnto 7 s [.ref (G.2.1 b), .long a1].toArray RX4 := F
  have hl : lv_has ls 7 [(0, .ref (G.2.1 b)), (1, .long a1)] := hl
  have hx := F.1.1
  have hb := F.1.2.1
  unfold p4_digestOnto at hf
  refine lv_lload_n hx hb dX4_digestOnto_0 rfl (lv_at hl 1 rfl) ?_
  refine lv_lstore_n (lv' := [(3, .long a1), (0, .ref (G.2.1 b)), (1, .long a1)]) hx hb dX4_digestOnto_1 rfl hl (by decide) rfl (fun ls hl => ?_)
  refine lv_iconst (v := 0) hx hb dX4_digestOnto_2 (by decide) ?_
  refine lv_istore (lv' := [(5, .int 0), (3, .long a1), (0, .ref (G.2.1 b)), (1, .long a1)]) hx hb dX4_digestOnto_3 hl (by decide) rfl (fun ls hl => ?_)
  exact z4_digestOnto_5 F hr hk b qb FU a1 0 M _ _ ls hw (lv_sub hl [2, 1, 0] rfl) hf
end
section
theorem dX1_clear_0 : decode cX1_clear 0 = .ok (.aload_n 0, 1) := by decide +kernel
theorem dX1_clear_1 : decode cX1_clear 1 = .ok (.iconst 0, 1) := by decide +kernel
theorem dX1_clear_2 : decode cX1_clear 2 = .ok (.putfield 9, 3) := by decide +kernel
theorem dX1_clear_5 : decode cX1_clear 5 = .ok (.aload_n 0, 1) := by decide +kernel
theorem dX1_clear_6 : decode cX1_clear 6 = .ok (.getfield 37, 3) := by decide +kernel
theorem dX1_clear_9 : decode cX1_clear 9 = .ok (.iconst 0, 1) := by decide +kernel
theorem dX1_clear_10 : decode cX1_clear 10 = .ok (.putfield 41, 3) := by decide +kernel
theorem dX1_clear_13 : decode cX1_clear 13 = .ok (.return_, 1) := by decide +kernel
def p1_clear (b : Nat) (M : SX) : Option SX :=
  lt_ (wI M b 0 0) (fun M1 => lt_ (wI M1 (b + 7) 1 0) (fun M2 => some M2))
set_option maxHeartbeats 4000000 in
set_option maxRecDepth 100000 in
theorem c1_clear {l : Launch} {G : XG} {M' : SX} {M : SX} (b : Nat) (qb : isL b) (hf : p1_clear b M = some M') : Met l yX1_clear (.code yX1_clear cX1_clear 1 none :: TBL) (rmX 0) (xPc G ZX M [.ref (G.2.1 b)]) (xQv G ZX M') 0 0 (inA G ZX) := by
  refine x_met (cc := cX1_clear) (by decide) (Nat.le_of_ble_eq_true rfl) ?_
  intro p e s m below meth c ls F hr hk hl hw
  have F : Fx G ZX p m c cX1_clear 1 s [.ref (G.2.1 b)].toArray RX1 := F
  have hl : lv_has ls 1 [(0, .ref (G.2.1 b))] := hl
  have hx := F.1.1
  have hb := F.1.2.1
  unfold p1_clear at hf
  refine lv_aload_n hx hb dX1_clear_0 rfl (lv_at hl 0 rfl) ?_
  refine lv_iconst (v := 0) hx hb dX1_clear_1 (by decide) ?_
  refine s1_0 qb F hw tw_41 dX1_clear_2 (fun H locs hw => ?_)
  obtain ⟨M1, eM1, hf⟩ := lt_elim hf
  rw [← eM1] at hw
  refine lv_aload_n hx hb dX1_clear_5 rfl (lv_at hl 0 rfl) ?_
  refine g1_7 qb F hw tw_42 dX1_clear_6 ?_
  refine lv_iconst (v := 0) hx hb dX1_clear_9 (by decide) ?_
  refine s0_1 (isD_of qb) F hw tw_43 dX1_clear_10 (fun H locs hw => ?_)
  obtain ⟨M2, eM2, hf⟩ := lt_elim hf
  rw [← eM2] at hw
  exact x_vret F hw hr hk hf dX1_clear_13
theorem dX1_setTicket_0 : decode cX1_setTicket 0 = .ok (.aload_n 0, 1) := by decide +kernel
theorem dX1_setTicket_1 : decode cX1_setTicket 1 = .ok (.getfield 25, 3) := by decide +kernel
theorem dX1_setTicket_4 : decode cX1_setTicket 4 = .ok (.iload_n 1, 1) := by decide +kernel
theorem dX1_setTicket_5 : decode cX1_setTicket 5 = .ok (.iload_n 2, 1) := by decide +kernel
theorem dX1_setTicket_6 : decode cX1_setTicket 6 = .ok (.iastore, 1) := by decide +kernel
theorem dX1_setTicket_7 : decode cX1_setTicket 7 = .ok (.aload_n 0, 1) := by decide +kernel
theorem dX1_setTicket_8 : decode cX1_setTicket 8 = .ok (.getfield 28, 3) := by decide +kernel
theorem dX1_setTicket_11 : decode cX1_setTicket 11 = .ok (.iload_n 1, 1) := by decide +kernel
theorem dX1_setTicket_12 : decode cX1_setTicket 12 = .ok (.iload_n 3, 1) := by decide +kernel
theorem dX1_setTicket_13 : decode cX1_setTicket 13 = .ok (.iastore, 1) := by decide +kernel
theorem dX1_setTicket_14 : decode cX1_setTicket 14 = .ok (.aload_n 0, 1) := by decide +kernel
theorem dX1_setTicket_15 : decode cX1_setTicket 15 = .ok (.getfield 31, 3) := by decide +kernel
theorem dX1_setTicket_18 : decode cX1_setTicket 18 = .ok (.iload_n 1, 1) := by decide +kernel
theorem dX1_setTicket_19 : decode cX1_setTicket 19 = .ok (.iload 4, 2) := by decide +kernel
theorem dX1_setTicket_21 : decode cX1_setTicket 21 = .ok (.iastore, 1) := by decide +kernel
theorem dX1_setTicket_22 : decode cX1_setTicket 22 = .ok (.return_, 1) := by decide +kernel
def p1_setTicket (b : Nat) (a1 : Int32) (a2 : Int32) (a3 : Int32) (a4 : Int32) (M : SX) : Option SX :=
  gd (bIn a1 6) ( lt_ (wI M (b + 4) (Int32.toNatClampNeg a1) a2) (fun M2 => lt_ (wI M2 (b + 5) (Int32.toNatClampNeg a1) a3) (fun M3 => lt_ (wI M3 (b + 6) (Int32.toNatClampNeg a1) a4) (fun M4 => some M4))))
set_option maxHeartbeats 4000000 in
set_option maxRecDepth 100000 in
theorem c1_setTicket {l : Launch} {G : XG} {M' : SX} {M : SX} (b : Nat) (qb : isL b) (a1 : Int32) (a2 : Int32) (a3 : Int32) (a4 : Int32) (hf : p1_setTicket b a1 a2 a3 a4 M = some M') : Met l yX1_setTicket (.code yX1_setTicket cX1_setTicket 5 none :: TBL) (rmX 0) (xPc G ZX M [.ref (G.2.1 b), .int a1, .int a2, .int a3, .int a4]) (xQv G ZX M') 0 0 (inA G ZX) := by
  refine x_met (cc := cX1_setTicket) (by decide) (Nat.le_of_ble_eq_true rfl) ?_
  intro p e s m below meth c ls F hr hk hl hw
  have F : Fx G ZX p m c cX1_setTicket 5 s [.ref (G.2.1 b), .int a1, .int a2, .int a3, .int a4].toArray RX1 := F
  have hl : lv_has ls 5 [(0, .ref (G.2.1 b)), (1, .int a1), (2, .int a2), (3, .int a3), (4, .int a4)] := hl
  have hx := F.1.1
  have hb := F.1.2.1
  unfold p1_setTicket at hf
  refine lv_aload_n hx hb dX1_setTicket_0 rfl (lv_at hl 0 rfl) ?_
  refine g1_4 qb F hw tw_44 dX1_setTicket_1 ?_
  refine lv_iload_n hx hb dX1_setTicket_4 rfl (lv_at hl 1 rfl) ?_
  refine lv_iload_n hx hb dX1_setTicket_5 rfl (lv_at hl 2 rfl) ?_
  obtain ⟨g1, hf⟩ := gd_some hf
  refine x_iast F hw (sL4 qb) g1 dX1_setTicket_6 (fun H locs hw => ?_)
  obtain ⟨M2, eM2, hf⟩ := lt_elim hf
  rw [← eM2] at hw
  refine lv_aload_n hx hb dX1_setTicket_7 rfl (lv_at hl 0 rfl) ?_
  refine g1_5 qb F hw tw_45 dX1_setTicket_8 ?_
  refine lv_iload_n hx hb dX1_setTicket_11 rfl (lv_at hl 1 rfl) ?_
  refine lv_iload_n hx hb dX1_setTicket_12 rfl (lv_at hl 3 rfl) ?_
  refine x_iast F hw (sL5 qb) g1 dX1_setTicket_13 (fun H locs hw => ?_)
  obtain ⟨M3, eM3, hf⟩ := lt_elim hf
  rw [← eM3] at hw
  refine lv_aload_n hx hb dX1_setTicket_14 rfl (lv_at hl 0 rfl) ?_
  refine g1_6 qb F hw tw_46 dX1_setTicket_15 ?_
  refine lv_iload_n hx hb dX1_setTicket_18 rfl (lv_at hl 1 rfl) ?_
  refine lv_iload hx hb dX1_setTicket_19 (lv_at hl 4 rfl) ?_
  refine x_iast F hw (sL6 qb) g1 dX1_setTicket_21 (fun H locs hw => ?_)
  obtain ⟨M4, eM4, hf⟩ := lt_elim hf
  rw [← eM4] at hw
  exact x_vret F hw hr hk hf dX1_setTicket_22
theorem dX1_isShop_0 : decode cX1_isShop 0 = .ok (.iload_n 1, 1) := by decide +kernel
theorem dX1_isShop_1 : decode cX1_isShop 1 = .ok (.ifCond .lt 15, 3) := by decide +kernel
theorem dX1_isShop_4 : decode cX1_isShop 4 = .ok (.iload_n 1, 1) := by decide +kernel
theorem dX1_isShop_5 : decode cX1_isShop 5 = .ok (.aload_n 0, 1) := by decide +kernel
theorem dX1_isShop_6 : decode cX1_isShop 6 = .ok (.getfield 9, 3) := by decide +kernel
theorem dX1_isShop_9 : decode cX1_isShop 9 = .ok (.if_icmp .ge 7, 3) := by decide +kernel
theorem dX1_isShop_12 : decode cX1_isShop 12 = .ok (.iconst 1, 1) := by decide +kernel
theorem dX1_isShop_13 : decode cX1_isShop 13 = .ok (.goto 4, 3) := by decide +kernel
theorem dX1_isShop_16 : decode cX1_isShop 16 = .ok (.iconst 0, 1) := by decide +kernel
theorem dX1_isShop_17 : decode cX1_isShop 17 = .ok (.ireturn, 1) := by decide +kernel
def p1_isShop (b : Nat) (a1 : Int32) (M : SX) : Option (Int32 × SX) :=
  if a1 < 0 then (some (0, M))
  else (if (M.1 b 0) ≤ a1 then (some (0, M))
  else (some (1, M)))
set_option maxHeartbeats 4000000 in
set_option maxRecDepth 100000 in
theorem c1_isShop {l : Launch} {G : XG} {r : Int32} {M' : SX} {M : SX} (b : Nat) (qb : isL b) (a1 : Int32) (hf : p1_isShop b a1 M = some (r, M')) : Met l yX1_isShop (.code yX1_isShop cX1_isShop 2 (some .boolean) :: TBL) (rmX 0) (xPc G ZX M [.ref (G.2.1 b), .int a1]) (xQi G ZX r M') 0 0 (inA G ZX) := by
  refine x_met (cc := cX1_isShop) (by decide) (Nat.le_of_ble_eq_true rfl) ?_
  intro p e s m below meth c ls F hr hk hl hw
  have F : Fx G ZX p m c cX1_isShop 2 s [.ref (G.2.1 b), .int a1].toArray RX1 := F
  have hl : lv_has ls 2 [(0, .ref (G.2.1 b)), (1, .int a1)] := hl
  have hx := F.1.1
  have hb := F.1.2.1
  unfold p1_isShop at hf
  refine lv_iload_n hx hb dX1_isShop_0 rfl (lv_at hl 1 rfl) ?_
  refine lv_if_lt (tgt := 16) hx hb dX1_isShop_1 (by decide) (fun c1 => ?_) (fun c1 => ?_)
  · have hf := it_t hf c1
    refine lv_iconst (v := 0) hx hb dX1_isShop_16 (by decide) ?_
    exact x_zret F hw hr hk (by decide) hf dX1_isShop_17
  · have hf := it_f hf c1
    refine lv_iload_n hx hb dX1_isShop_4 rfl (lv_at hl 1 rfl) ?_
    refine lv_aload_n hx hb dX1_isShop_5 rfl (lv_at hl 0 rfl) ?_
    refine g1_0 qb F hw tw_41 dX1_isShop_6 ?_
    refine lv_icmp_ge (tgt := 16) hx hb dX1_isShop_9 (by decide) (fun c2 => ?_) (fun c2 => ?_)
    · have hf := it_t hf c2
      refine lv_iconst (v := 0) hx hb dX1_isShop_16 (by decide) ?_
      exact x_zret F hw hr hk (by decide) hf dX1_isShop_17
    · have hf := it_f hf c2
      refine lv_iconst (v := 1) hx hb dX1_isShop_12 (by decide) ?_
      refine lv_goto (tgt := 17) hx hb dX1_isShop_13 (by decide) ?_
      exact x_zret F hw hr hk (by decide) hf dX1_isShop_17
theorem dX1_isPawned_0 : decode cX1_isPawned 0 = .ok (.aload_n 0, 1) := by decide +kernel
theorem dX1_isPawned_1 : decode cX1_isPawned 1 = .ok (.getfield 25, 3) := by decide +kernel
theorem dX1_isPawned_4 : decode cX1_isPawned 4 = .ok (.iload_n 1, 1) := by decide +kernel
theorem dX1_isPawned_5 : decode cX1_isPawned 5 = .ok (.iaload, 1) := by decide +kernel
theorem dX1_isPawned_6 : decode cX1_isPawned 6 = .ok (.bipush (-9), 2) := by decide +kernel
theorem dX1_isPawned_8 : decode cX1_isPawned 8 = .ok (.if_icmp .eq 7, 3) := by decide +kernel
theorem dX1_isPawned_11 : decode cX1_isPawned 11 = .ok (.iconst 1, 1) := by decide +kernel
theorem dX1_isPawned_12 : decode cX1_isPawned 12 = .ok (.goto 4, 3) := by decide +kernel
theorem dX1_isPawned_15 : decode cX1_isPawned 15 = .ok (.iconst 0, 1) := by decide +kernel
theorem dX1_isPawned_16 : decode cX1_isPawned 16 = .ok (.ireturn, 1) := by decide +kernel
def p1_isPawned (b : Nat) (a1 : Int32) (M : SX) : Option (Int32 × SX) :=
  gd (bIn a1 6) ( if (M.1 (b + 4) (Int32.toNatClampNeg a1)) = (-9 : Int32) then (some (0, M))
  else (some (1, M)))
set_option maxHeartbeats 4000000 in
set_option maxRecDepth 100000 in
theorem c1_isPawned {l : Launch} {G : XG} {r : Int32} {M' : SX} {M : SX} (b : Nat) (qb : isL b) (a1 : Int32) (hf : p1_isPawned b a1 M = some (r, M')) : Met l yX1_isPawned (.code yX1_isPawned cX1_isPawned 2 (some .boolean) :: TBL) (rmX 0) (xPc G ZX M [.ref (G.2.1 b), .int a1]) (xQi G ZX r M') 0 0 (inA G ZX) := by
  refine x_met (cc := cX1_isPawned) (by decide) (Nat.le_of_ble_eq_true rfl) ?_
  intro p e s m below meth c ls F hr hk hl hw
  have F : Fx G ZX p m c cX1_isPawned 2 s [.ref (G.2.1 b), .int a1].toArray RX1 := F
  have hl : lv_has ls 2 [(0, .ref (G.2.1 b)), (1, .int a1)] := hl
  have hx := F.1.1
  have hb := F.1.2.1
  unfold p1_isPawned at hf
  refine lv_aload_n hx hb dX1_isPawned_0 rfl (lv_at hl 0 rfl) ?_
  refine g1_4 qb F hw tw_44 dX1_isPawned_1 ?_
  refine lv_iload_n hx hb dX1_isPawned_4 rfl (lv_at hl 1 rfl) ?_
  obtain ⟨g1, hf⟩ := gd_some hf
  refine x_iald F hw (sL4 qb) g1 dX1_isPawned_5 ?_
  refine lv_bipush (v := (-9)) hx hb dX1_isPawned_6 (by decide) ?_
  refine lv_icmp_eq (tgt := 15) hx hb dX1_isPawned_8 (by decide) (fun c2 => ?_) (fun c2 => ?_)
  · have hf := it_t hf c2
    refine lv_iconst (v := 0) hx hb dX1_isPawned_15 (by decide) ?_
    exact x_zret F hw hr hk (by decide) hf dX1_isPawned_16
  · have hf := it_f hf c2
    refine lv_iconst (v := 1) hx hb dX1_isPawned_11 (by decide) ?_
    refine lv_goto (tgt := 16) hx hb dX1_isPawned_12 (by decide) ?_
    exact x_zret F hw hr hk (by decide) hf dX1_isPawned_16
theorem dX1_heldBy_0 : decode cX1_heldBy 0 = .ok (.iconst 0, 1) := by decide +kernel
theorem dX1_heldBy_1 : decode cX1_heldBy 1 = .ok (.istore_n 2, 1) := by decide +kernel
theorem dX1_heldBy_2 : decode cX1_heldBy 2 = .ok (.iconst 0, 1) := by decide +kernel
theorem dX1_heldBy_3 : decode cX1_heldBy 3 = .ok (.istore_n 3, 1) := by decide +kernel
theorem dX1_heldBy_4 : decode cX1_heldBy 4 = .ok (.iload_n 3, 1) := by decide +kernel
theorem dX1_heldBy_5 : decode cX1_heldBy 5 = .ok (.aload_n 0, 1) := by decide +kernel
theorem dX1_heldBy_6 : decode cX1_heldBy 6 = .ok (.getfield 9, 3) := by decide +kernel
theorem dX1_heldBy_9 : decode cX1_heldBy 9 = .ok (.if_icmp .ge 25, 3) := by decide +kernel
theorem dX1_heldBy_12 : decode cX1_heldBy 12 = .ok (.aload_n 0, 1) := by decide +kernel
theorem dX1_heldBy_13 : decode cX1_heldBy 13 = .ok (.getfield 25, 3) := by decide +kernel
theorem dX1_heldBy_16 : decode cX1_heldBy 16 = .ok (.iload_n 3, 1) := by decide +kernel
theorem dX1_heldBy_17 : decode cX1_heldBy 17 = .ok (.iaload, 1) := by decide +kernel
theorem dX1_heldBy_18 : decode cX1_heldBy 18 = .ok (.iload_n 1, 1) := by decide +kernel
theorem dX1_heldBy_19 : decode cX1_heldBy 19 = .ok (.if_icmp .ne 9, 3) := by decide +kernel
theorem dX1_heldBy_22 : decode cX1_heldBy 22 = .ok (.iload_n 2, 1) := by decide +kernel
theorem dX1_heldBy_23 : decode cX1_heldBy 23 = .ok (.iconst 1, 1) := by decide +kernel
theorem dX1_heldBy_24 : decode cX1_heldBy 24 = .ok (.iload_n 3, 1) := by decide +kernel
theorem dX1_heldBy_25 : decode cX1_heldBy 25 = .ok (.ishl, 1) := by decide +kernel
theorem dX1_heldBy_26 : decode cX1_heldBy 26 = .ok (.ior, 1) := by decide +kernel
theorem dX1_heldBy_27 : decode cX1_heldBy 27 = .ok (.istore_n 2, 1) := by decide +kernel
theorem dX1_heldBy_28 : decode cX1_heldBy 28 = .ok (.iinc 3 1, 3) := by decide +kernel
theorem dX1_heldBy_31 : decode cX1_heldBy 31 = .ok (.goto (-27), 3) := by decide +kernel
theorem dX1_heldBy_34 : decode cX1_heldBy 34 = .ok (.iload_n 2, 1) := by decide +kernel
theorem dX1_heldBy_35 : decode cX1_heldBy 35 = .ok (.ireturn, 1) := by decide +kernel
def p1_heldBy_28 (b : Nat) (k4 : Int32 → Int32 → Int32 → SX → Option (Int32 × SX)) (v1 : Int32) (v2 : Int32) (v3 : Int32) (M : SX) : Option (Int32 × SX) :=
  lt_ (v3 + 1) (fun x1 => k4 v1 v2 x1 M)
set_option maxHeartbeats 4000000 in
set_option maxRecDepth 100000 in
theorem w1_heldBy_28 {G : XG} {p : Program} {l : Launch} {e : Env} {s : State} {m : MethodId} {args : Array Value} {below : List Frame} {meth : Method} {c : Code} (F : Fx G ZX p m c cX1_heldBy 4 s args RX1) (hr : meth.sig.returnType = some .int) (hk : meth.locks = false) {r : Int32} {M' : SX} (b : Nat) (qb : isL b) (k4 : Int32 → Int32 → Int32 → SX → Option (Int32 × SX)) (hk4 : ∀ (v1 : Int32) (v2 : Int32) (v3 : Int32) (M : SX) (H : Heap) (locs : List Loc) (ls : Array Slot), Wld G ZX M s.heap H locs → lv_has ls 4 [(0, .ref (G.2.1 b)), (1, .int v1), (2, .int v2), (3, .int v3)] → k4 v1 v2 v3 M = some (r, M') → WXi G ZX p l e 0 s m args below meth c r M' H locs (F0 m 4 ls [])) : ∀ (v1 : Int32) (v2 : Int32) (v3 : Int32) (M : SX) (H : Heap) (locs : List Loc) (ls : Array Slot), Wld G ZX M s.heap H locs → lv_has ls 4 [(0, .ref (G.2.1 b)), (1, .int v1), (2, .int v2), (3, .int v3)] → p1_heldBy_28 b k4 v1 v2 v3 M = some (r, M') → WXi G ZX p l e 0 s m args below meth c r M' H locs (F0 m 28 ls []) := by
  intro v1 v2 v3 M H locs ls hw hl hf
  have hx := F.1.1
  have hb := F.1.2.1
  unfold p1_heldBy_28 at hf
  obtain ⟨x1, ex1, hf⟩ := lt_elim hf
  refine lv_iinc (v := x1) (lv' := [(3, .int x1), (0, .ref (G.2.1 b)), (1, .int v1), (2, .int v2)]) hx hb dX1_heldBy_28 hl (k := 3) rfl (by rw [ex1]; rfl) (by decide) rfl (fun ls hl => ?_)
  refine lv_goto (tgt := 4) hx hb dX1_heldBy_31 (by decide) ?_
  exact hk4 v1 v2 x1 M _ _ ls hw (lv_sub hl [1, 2, 3, 0] rfl) hf
def p1_heldBy_4 (b : Nat) (k4 : Int32 → Int32 → Int32 → SX → Option (Int32 × SX)) (v1 : Int32) (v2 : Int32) (v3 : Int32) (M : SX) : Option (Int32 × SX) :=
  if (M.1 b 0) ≤ v3 then (some (v2, M))
  else (gd (bIn v3 6) ( if (M.1 (b + 4) (Int32.toNatClampNeg v3)) = v1 then (lt_ (v2 ||| ((1 : Int32) <<< (v3 &&& 31))) (fun x4 => p1_heldBy_28 b k4 v1 x4 v3 M))
  else (p1_heldBy_28 b k4 v1 v2 v3 M)))
set_option maxHeartbeats 4000000 in
set_option maxRecDepth 100000 in
theorem w1_heldBy_4 {G : XG} {p : Program} {l : Launch} {e : Env} {s : State} {m : MethodId} {args : Array Value} {below : List Frame} {meth : Method} {c : Code} (F : Fx G ZX p m c cX1_heldBy 4 s args RX1) (hr : meth.sig.returnType = some .int) (hk : meth.locks = false) {r : Int32} {M' : SX} (b : Nat) (qb : isL b) (k4 : Int32 → Int32 → Int32 → SX → Option (Int32 × SX)) (hk4 : ∀ (v1 : Int32) (v2 : Int32) (v3 : Int32) (M : SX) (H : Heap) (locs : List Loc) (ls : Array Slot), Wld G ZX M s.heap H locs → lv_has ls 4 [(0, .ref (G.2.1 b)), (1, .int v1), (2, .int v2), (3, .int v3)] → k4 v1 v2 v3 M = some (r, M') → WXi G ZX p l e 0 s m args below meth c r M' H locs (F0 m 4 ls [])) : ∀ (v1 : Int32) (v2 : Int32) (v3 : Int32) (M : SX) (H : Heap) (locs : List Loc) (ls : Array Slot), Wld G ZX M s.heap H locs → lv_has ls 4 [(0, .ref (G.2.1 b)), (1, .int v1), (2, .int v2), (3, .int v3)] → p1_heldBy_4 b k4 v1 v2 v3 M = some (r, M') → WXi G ZX p l e 0 s m args below meth c r M' H locs (F0 m 4 ls []) := by
  intro v1 v2 v3 M H locs ls hw hl hf
  have hx := F.1.1
  have hb := F.1.2.1
  unfold p1_heldBy_4 at hf
  refine lv_iload_n hx hb dX1_heldBy_4 rfl (lv_at hl 3 rfl) ?_
  refine lv_aload_n hx hb dX1_heldBy_5 rfl (lv_at hl 0 rfl) ?_
  refine g1_0 qb F hw tw_41 dX1_heldBy_6 ?_
  refine lv_icmp_ge (tgt := 34) hx hb dX1_heldBy_9 (by decide) (fun c1 => ?_) (fun c1 => ?_)
  · have hf := it_t hf c1
    refine lv_iload_n hx hb dX1_heldBy_34 rfl (lv_at hl 2 rfl) ?_
    exact x_iret F hw hr hk hf dX1_heldBy_35
  · have hf := it_f hf c1
    refine lv_aload_n hx hb dX1_heldBy_12 rfl (lv_at hl 0 rfl) ?_
    refine g1_4 qb F hw tw_44 dX1_heldBy_13 ?_
    refine lv_iload_n hx hb dX1_heldBy_16 rfl (lv_at hl 3 rfl) ?_
    obtain ⟨g2, hf⟩ := gd_some hf
    refine x_iald F hw (sL4 qb) g2 dX1_heldBy_17 ?_
    refine lv_iload_n hx hb dX1_heldBy_18 rfl (lv_at hl 1 rfl) ?_
    refine lv_icmp_ne (tgt := 28) hx hb dX1_heldBy_19 (by decide) (fun c3 => ?_) (fun c3 => ?_)
    · have hf := it_f hf c3
      exact w1_heldBy_28 F hr hk b qb k4 hk4 v1 v2 v3 M _ _ ls hw (lv_sub hl [0, 1, 2, 3] rfl) hf
    · have hf := it_t hf c3
      refine lv_iload_n hx hb dX1_heldBy_22 rfl (lv_at hl 2 rfl) ?_
      refine lv_iconst (v := 1) hx hb dX1_heldBy_23 (by decide) ?_
      refine lv_iload_n hx hb dX1_heldBy_24 rfl (lv_at hl 3 rfl) ?_
      refine lv_ishl hx hb dX1_heldBy_25 ?_
      refine lv_ior hx hb dX1_heldBy_26 ?_
      obtain ⟨x4, ex4, hf⟩ := lt_elim hf
      refine x_let ex4 ?_
      refine lv_istore_n (lv' := [(2, .int x4), (0, .ref (G.2.1 b)), (1, .int v1), (3, .int v3)]) hx hb dX1_heldBy_27 rfl hl (by decide) rfl (fun ls hl => ?_)
      exact w1_heldBy_28 F hr hk b qb k4 hk4 v1 x4 v3 M _ _ ls hw (lv_sub hl [1, 2, 0, 3] rfl) hf
theorem z1_heldBy_4 {G : XG} {p : Program} {l : Launch} {e : Env} {s : State} {m : MethodId} {args : Array Value} {below : List Frame} {meth : Method} {c : Code} (F : Fx G ZX p m c cX1_heldBy 4 s args RX1) (hr : meth.sig.returnType = some .int) (hk : meth.locks = false) {r : Int32} {M' : SX} (b : Nat) (qb : isL b) : ∀ n : Nat, ∀ (v1 : Int32) (v2 : Int32) (v3 : Int32) (M : SX) (H : Heap) (locs : List Loc) (ls : Array Slot), Wld G ZX M s.heap H locs → lv_has ls 4 [(0, .ref (G.2.1 b)), (1, .int v1), (2, .int v2), (3, .int v3)] → xlp3 (p1_heldBy_4 b) n v1 v2 v3 M = some (r, M') → WXi G ZX p l e 0 s m args below meth c r M' H locs (F0 m 4 ls []) := by
  intro n
  induction n with
  | zero => intro _ _ _ _ _ _ _ _ _ hf; cases hf
  | succ n ih => exact w1_heldBy_4 F hr hk b qb (xlp3 (p1_heldBy_4 b) n) ih
def p1_heldBy (b : Nat) (a1 : Int32) (M : SX) : Option (Int32 × SX) :=
  xlp3 (p1_heldBy_4 b) FU a1 0 0 M
set_option maxHeartbeats 4000000 in
set_option maxRecDepth 100000 in
theorem c1_heldBy {l : Launch} {G : XG} {r : Int32} {M' : SX} {M : SX} (b : Nat) (qb : isL b) (a1 : Int32) (hf : p1_heldBy b a1 M = some (r, M')) : Met l yX1_heldBy (.code yX1_heldBy cX1_heldBy 4 (some .int) :: TBL) (rmX 0) (xPc G ZX M [.ref (G.2.1 b), .int a1]) (xQi G ZX r M') 0 0 (inA G ZX) := by
  refine x_met (cc := cX1_heldBy) (by decide) (Nat.le_of_ble_eq_true rfl) ?_
  intro p e s m below meth c ls F hr hk hl hw
  have F : Fx G ZX p m c cX1_heldBy 4 s [.ref (G.2.1 b), .int a1].toArray RX1 := F
  have hl : lv_has ls 4 [(0, .ref (G.2.1 b)), (1, .int a1)] := hl
  have hx := F.1.1
  have hb := F.1.2.1
  unfold p1_heldBy at hf
  refine lv_iconst (v := 0) hx hb dX1_heldBy_0 (by decide) ?_
  refine lv_istore_n (lv' := [(2, .int 0), (0, .ref (G.2.1 b)), (1, .int a1)]) hx hb dX1_heldBy_1 rfl hl (by decide) rfl (fun ls hl => ?_)
  refine lv_iconst (v := 0) hx hb dX1_heldBy_2 (by decide) ?_
  refine lv_istore_n (lv' := [(3, .int 0), (2, .int 0), (0, .ref (G.2.1 b)), (1, .int a1)]) hx hb dX1_heldBy_3 rfl hl (by decide) rfl (fun ls hl => ?_)
  exact z1_heldBy_4 F hr hk b qb FU a1 0 0 M _ _ ls hw (lv_sub hl [2, 3, 1, 0] rfl) hf
theorem dX1_loansTo_0 : decode cX1_loansTo 0 = .ok (.iconst 0, 1) := by decide +kernel
theorem dX1_loansTo_1 : decode cX1_loansTo 1 = .ok (.istore_n 2, 1) := by decide +kernel
theorem dX1_loansTo_2 : decode cX1_loansTo 2 = .ok (.iconst 0, 1) := by decide +kernel
theorem dX1_loansTo_3 : decode cX1_loansTo 3 = .ok (.istore_n 3, 1) := by decide +kernel
theorem dX1_loansTo_4 : decode cX1_loansTo 4 = .ok (.iload_n 3, 1) := by decide +kernel
theorem dX1_loansTo_5 : decode cX1_loansTo 5 = .ok (.aload_n 0, 1) := by decide +kernel
theorem dX1_loansTo_6 : decode cX1_loansTo 6 = .ok (.getfield 9, 3) := by decide +kernel
theorem dX1_loansTo_9 : decode cX1_loansTo 9 = .ok (.if_icmp .ge 28, 3) := by decide +kernel
theorem dX1_loansTo_12 : decode cX1_loansTo 12 = .ok (.aload_n 0, 1) := by decide +kernel
theorem dX1_loansTo_13 : decode cX1_loansTo 13 = .ok (.getfield 25, 3) := by decide +kernel
theorem dX1_loansTo_16 : decode cX1_loansTo 16 = .ok (.iload_n 3, 1) := by decide +kernel
theorem dX1_loansTo_17 : decode cX1_loansTo 17 = .ok (.iaload, 1) := by decide +kernel
theorem dX1_loansTo_18 : decode cX1_loansTo 18 = .ok (.iload_n 1, 1) := by decide +kernel
theorem dX1_loansTo_19 : decode cX1_loansTo 19 = .ok (.if_icmp .ne 12, 3) := by decide +kernel
theorem dX1_loansTo_22 : decode cX1_loansTo 22 = .ok (.iload_n 2, 1) := by decide +kernel
theorem dX1_loansTo_23 : decode cX1_loansTo 23 = .ok (.aload_n 0, 1) := by decide +kernel
theorem dX1_loansTo_24 : decode cX1_loansTo 24 = .ok (.getfield 28, 3) := by decide +kernel
theorem dX1_loansTo_27 : decode cX1_loansTo 27 = .ok (.iload_n 3, 1) := by decide +kernel
theorem dX1_loansTo_28 : decode cX1_loansTo 28 = .ok (.iaload, 1) := by decide +kernel
theorem dX1_loansTo_29 : decode cX1_loansTo 29 = .ok (.iadd, 1) := by decide +kernel
theorem dX1_loansTo_30 : decode cX1_loansTo 30 = .ok (.istore_n 2, 1) := by decide +kernel
theorem dX1_loansTo_31 : decode cX1_loansTo 31 = .ok (.iinc 3 1, 3) := by decide +kernel
theorem dX1_loansTo_34 : decode cX1_loansTo 34 = .ok (.goto (-30), 3) := by decide +kernel
theorem dX1_loansTo_37 : decode cX1_loansTo 37 = .ok (.iload_n 2, 1) := by decide +kernel
theorem dX1_loansTo_38 : decode cX1_loansTo 38 = .ok (.ireturn, 1) := by decide +kernel
def p1_loansTo_31 (b : Nat) (k4 : Int32 → Int32 → Int32 → SX → Option (Int32 × SX)) (v1 : Int32) (v2 : Int32) (v3 : Int32) (M : SX) : Option (Int32 × SX) :=
  lt_ (v3 + 1) (fun x1 => k4 v1 v2 x1 M)
set_option maxHeartbeats 4000000 in
set_option maxRecDepth 100000 in
theorem w1_loansTo_31 {G : XG} {p : Program} {l : Launch} {e : Env} {s : State} {m : MethodId} {args : Array Value} {below : List Frame} {meth : Method} {c : Code} (F : Fx G ZX p m c cX1_loansTo 4 s args RX1) (hr : meth.sig.returnType = some .int) (hk : meth.locks = false) {r : Int32} {M' : SX} (b : Nat) (qb : isL b) (k4 : Int32 → Int32 → Int32 → SX → Option (Int32 × SX)) (hk4 : ∀ (v1 : Int32) (v2 : Int32) (v3 : Int32) (M : SX) (H : Heap) (locs : List Loc) (ls : Array Slot), Wld G ZX M s.heap H locs → lv_has ls 4 [(0, .ref (G.2.1 b)), (1, .int v1), (2, .int v2), (3, .int v3)] → k4 v1 v2 v3 M = some (r, M') → WXi G ZX p l e 0 s m args below meth c r M' H locs (F0 m 4 ls [])) : ∀ (v1 : Int32) (v2 : Int32) (v3 : Int32) (M : SX) (H : Heap) (locs : List Loc) (ls : Array Slot), Wld G ZX M s.heap H locs → lv_has ls 4 [(0, .ref (G.2.1 b)), (1, .int v1), (2, .int v2), (3, .int v3)] → p1_loansTo_31 b k4 v1 v2 v3 M = some (r, M') → WXi G ZX p l e 0 s m args below meth c r M' H locs (F0 m 31 ls []) := by
  intro v1 v2 v3 M H locs ls hw hl hf
  have hx := F.1.1
  have hb := F.1.2.1
  unfold p1_loansTo_31 at hf
  obtain ⟨x1, ex1, hf⟩ := lt_elim hf
  refine lv_iinc (v := x1) (lv' := [(3, .int x1), (0, .ref (G.2.1 b)), (1, .int v1), (2, .int v2)]) hx hb dX1_loansTo_31 hl (k := 3) rfl (by rw [ex1]; rfl) (by decide) rfl (fun ls hl => ?_)
  refine lv_goto (tgt := 4) hx hb dX1_loansTo_34 (by decide) ?_
  exact hk4 v1 v2 x1 M _ _ ls hw (lv_sub hl [1, 2, 3, 0] rfl) hf
def p1_loansTo_4 (b : Nat) (k4 : Int32 → Int32 → Int32 → SX → Option (Int32 × SX)) (v1 : Int32) (v2 : Int32) (v3 : Int32) (M : SX) : Option (Int32 × SX) :=
  if (M.1 b 0) ≤ v3 then (some (v2, M))
  else (gd (bIn v3 6) ( if (M.1 (b + 4) (Int32.toNatClampNeg v3)) = v1 then (lt_ (v2 + (M.1 (b + 5) (Int32.toNatClampNeg v3))) (fun x4 => p1_loansTo_31 b k4 v1 x4 v3 M))
  else (p1_loansTo_31 b k4 v1 v2 v3 M)))
set_option maxHeartbeats 4000000 in
set_option maxRecDepth 100000 in
theorem w1_loansTo_4 {G : XG} {p : Program} {l : Launch} {e : Env} {s : State} {m : MethodId} {args : Array Value} {below : List Frame} {meth : Method} {c : Code} (F : Fx G ZX p m c cX1_loansTo 4 s args RX1) (hr : meth.sig.returnType = some .int) (hk : meth.locks = false) {r : Int32} {M' : SX} (b : Nat) (qb : isL b) (k4 : Int32 → Int32 → Int32 → SX → Option (Int32 × SX)) (hk4 : ∀ (v1 : Int32) (v2 : Int32) (v3 : Int32) (M : SX) (H : Heap) (locs : List Loc) (ls : Array Slot), Wld G ZX M s.heap H locs → lv_has ls 4 [(0, .ref (G.2.1 b)), (1, .int v1), (2, .int v2), (3, .int v3)] → k4 v1 v2 v3 M = some (r, M') → WXi G ZX p l e 0 s m args below meth c r M' H locs (F0 m 4 ls [])) : ∀ (v1 : Int32) (v2 : Int32) (v3 : Int32) (M : SX) (H : Heap) (locs : List Loc) (ls : Array Slot), Wld G ZX M s.heap H locs → lv_has ls 4 [(0, .ref (G.2.1 b)), (1, .int v1), (2, .int v2), (3, .int v3)] → p1_loansTo_4 b k4 v1 v2 v3 M = some (r, M') → WXi G ZX p l e 0 s m args below meth c r M' H locs (F0 m 4 ls []) := by
  intro v1 v2 v3 M H locs ls hw hl hf
  have hx := F.1.1
  have hb := F.1.2.1
  unfold p1_loansTo_4 at hf
  refine lv_iload_n hx hb dX1_loansTo_4 rfl (lv_at hl 3 rfl) ?_
  refine lv_aload_n hx hb dX1_loansTo_5 rfl (lv_at hl 0 rfl) ?_
  refine g1_0 qb F hw tw_41 dX1_loansTo_6 ?_
  refine lv_icmp_ge (tgt := 37) hx hb dX1_loansTo_9 (by decide) (fun c1 => ?_) (fun c1 => ?_)
  · have hf := it_t hf c1
    refine lv_iload_n hx hb dX1_loansTo_37 rfl (lv_at hl 2 rfl) ?_
    exact x_iret F hw hr hk hf dX1_loansTo_38
  · have hf := it_f hf c1
    refine lv_aload_n hx hb dX1_loansTo_12 rfl (lv_at hl 0 rfl) ?_
    refine g1_4 qb F hw tw_44 dX1_loansTo_13 ?_
    refine lv_iload_n hx hb dX1_loansTo_16 rfl (lv_at hl 3 rfl) ?_
    obtain ⟨g2, hf⟩ := gd_some hf
    refine x_iald F hw (sL4 qb) g2 dX1_loansTo_17 ?_
    refine lv_iload_n hx hb dX1_loansTo_18 rfl (lv_at hl 1 rfl) ?_
    refine lv_icmp_ne (tgt := 31) hx hb dX1_loansTo_19 (by decide) (fun c3 => ?_) (fun c3 => ?_)
    · have hf := it_f hf c3
      exact w1_loansTo_31 F hr hk b qb k4 hk4 v1 v2 v3 M _ _ ls hw (lv_sub hl [0, 1, 2, 3] rfl) hf
    · have hf := it_t hf c3
      refine lv_iload_n hx hb dX1_loansTo_22 rfl (lv_at hl 2 rfl) ?_
      refine lv_aload_n hx hb dX1_loansTo_23 rfl (lv_at hl 0 rfl) ?_
      refine g1_5 qb F hw tw_45 dX1_loansTo_24 ?_
      refine lv_iload_n hx hb dX1_loansTo_27 rfl (lv_at hl 3 rfl) ?_
      refine x_iald F hw (sL5 qb) g2 dX1_loansTo_28 ?_
      refine lv_iadd hx hb dX1_loansTo_29 ?_
      obtain ⟨x4, ex4, hf⟩ := lt_elim hf
      refine x_let ex4 ?_
      refine lv_istore_n (lv' := [(2, .int x4), (0, .ref (G.2.1 b)), (1, .int v1), (3, .int v3)]) hx hb dX1_loansTo_30 rfl hl (by decide) rfl (fun ls hl => ?_)
      exact w1_loansTo_31 F hr hk b qb k4 hk4 v1 x4 v3 M _ _ ls hw (lv_sub hl [1, 2, 0, 3] rfl) hf
theorem z1_loansTo_4 {G : XG} {p : Program} {l : Launch} {e : Env} {s : State} {m : MethodId} {args : Array Value} {below : List Frame} {meth : Method} {c : Code} (F : Fx G ZX p m c cX1_loansTo 4 s args RX1) (hr : meth.sig.returnType = some .int) (hk : meth.locks = false) {r : Int32} {M' : SX} (b : Nat) (qb : isL b) : ∀ n : Nat, ∀ (v1 : Int32) (v2 : Int32) (v3 : Int32) (M : SX) (H : Heap) (locs : List Loc) (ls : Array Slot), Wld G ZX M s.heap H locs → lv_has ls 4 [(0, .ref (G.2.1 b)), (1, .int v1), (2, .int v2), (3, .int v3)] → xlp3 (p1_loansTo_4 b) n v1 v2 v3 M = some (r, M') → WXi G ZX p l e 0 s m args below meth c r M' H locs (F0 m 4 ls []) := by
  intro n
  induction n with
  | zero => intro _ _ _ _ _ _ _ _ _ hf; cases hf
  | succ n ih => exact w1_loansTo_4 F hr hk b qb (xlp3 (p1_loansTo_4 b) n) ih
def p1_loansTo (b : Nat) (a1 : Int32) (M : SX) : Option (Int32 × SX) :=
  xlp3 (p1_loansTo_4 b) FU a1 0 0 M
set_option maxHeartbeats 4000000 in
set_option maxRecDepth 100000 in
theorem c1_loansTo {l : Launch} {G : XG} {r : Int32} {M' : SX} {M : SX} (b : Nat) (qb : isL b) (a1 : Int32) (hf : p1_loansTo b a1 M = some (r, M')) : Met l yX1_loansTo (.code yX1_loansTo cX1_loansTo 4 (some .int) :: TBL) (rmX 0) (xPc G ZX M [.ref (G.2.1 b), .int a1]) (xQi G ZX r M') 0 0 (inA G ZX) := by
  refine x_met (cc := cX1_loansTo) (by decide) (Nat.le_of_ble_eq_true rfl) ?_
  intro p e s m below meth c ls F hr hk hl hw
  have F : Fx G ZX p m c cX1_loansTo 4 s [.ref (G.2.1 b), .int a1].toArray RX1 := F
  have hl : lv_has ls 4 [(0, .ref (G.2.1 b)), (1, .int a1)] := hl
  have hx := F.1.1
  have hb := F.1.2.1
  unfold p1_loansTo at hf
  refine lv_iconst (v := 0) hx hb dX1_loansTo_0 (by decide) ?_
  refine lv_istore_n (lv' := [(2, .int 0), (0, .ref (G.2.1 b)), (1, .int a1)]) hx hb dX1_loansTo_1 rfl hl (by decide) rfl (fun ls hl => ?_)
  refine lv_iconst (v := 0) hx hb dX1_loansTo_2 (by decide) ?_
  refine lv_istore_n (lv' := [(3, .int 0), (2, .int 0), (0, .ref (G.2.1 b)), (1, .int a1)]) hx hb dX1_loansTo_3 rfl hl (by decide) rfl (fun ls hl => ?_)
  exact z1_loansTo_4 F hr hk b qb FU a1 0 0 M _ _ ls hw (lv_sub hl [2, 3, 1, 0] rfl) hf
theorem dX1_cashInAll_0 : decode cX1_cashInAll 0 = .ok (.iconst 0, 1) := by decide +kernel
theorem dX1_cashInAll_1 : decode cX1_cashInAll 1 = .ok (.istore_n 1, 1) := by decide +kernel
theorem dX1_cashInAll_2 : decode cX1_cashInAll 2 = .ok (.iconst 0, 1) := by decide +kernel
theorem dX1_cashInAll_3 : decode cX1_cashInAll 3 = .ok (.istore_n 2, 1) := by decide +kernel
theorem dX1_cashInAll_4 : decode cX1_cashInAll 4 = .ok (.iload_n 2, 1) := by decide +kernel
theorem dX1_cashInAll_5 : decode cX1_cashInAll 5 = .ok (.aload_n 0, 1) := by decide +kernel
theorem dX1_cashInAll_6 : decode cX1_cashInAll 6 = .ok (.getfield 9, 3) := by decide +kernel
theorem dX1_cashInAll_9 : decode cX1_cashInAll 9 = .ok (.if_icmp .ge 18, 3) := by decide +kernel
theorem dX1_cashInAll_12 : decode cX1_cashInAll 12 = .ok (.iload_n 1, 1) := by decide +kernel
theorem dX1_cashInAll_13 : decode cX1_cashInAll 13 = .ok (.aload_n 0, 1) := by decide +kernel
theorem dX1_cashInAll_14 : decode cX1_cashInAll 14 = .ok (.getfield 19, 3) := by decide +kernel
theorem dX1_cashInAll_17 : decode cX1_cashInAll 17 = .ok (.iload_n 2, 1) := by decide +kernel
theorem dX1_cashInAll_18 : decode cX1_cashInAll 18 = .ok (.iaload, 1) := by decide +kernel
theorem dX1_cashInAll_19 : decode cX1_cashInAll 19 = .ok (.iadd, 1) := by decide +kernel
theorem dX1_cashInAll_20 : decode cX1_cashInAll 20 = .ok (.istore_n 1, 1) := by decide +kernel
theorem dX1_cashInAll_21 : decode cX1_cashInAll 21 = .ok (.iinc 2 1, 3) := by decide +kernel
theorem dX1_cashInAll_24 : decode cX1_cashInAll 24 = .ok (.goto (-20), 3) := by decide +kernel
theorem dX1_cashInAll_27 : decode cX1_cashInAll 27 = .ok (.iload_n 1, 1) := by decide +kernel
theorem dX1_cashInAll_28 : decode cX1_cashInAll 28 = .ok (.ireturn, 1) := by decide +kernel
def p1_cashInAll_4 (b : Nat) (k4 : Int32 → Int32 → SX → Option (Int32 × SX)) (v1 : Int32) (v2 : Int32) (M : SX) : Option (Int32 × SX) :=
  if (M.1 b 0) ≤ v2 then (some (v1, M))
  else (gd (bIn v2 6) ( lt_ (v1 + (M.1 (b + 2) (Int32.toNatClampNeg v2))) (fun x3 => lt_ (v2 + 1) (fun x4 => k4 x3 x4 M))))
set_option maxHeartbeats 4000000 in
set_option maxRecDepth 100000 in
theorem w1_cashInAll_4 {G : XG} {p : Program} {l : Launch} {e : Env} {s : State} {m : MethodId} {args : Array Value} {below : List Frame} {meth : Method} {c : Code} (F : Fx G ZX p m c cX1_cashInAll 3 s args RX1) (hr : meth.sig.returnType = some .int) (hk : meth.locks = false) {r : Int32} {M' : SX} (b : Nat) (qb : isL b) (k4 : Int32 → Int32 → SX → Option (Int32 × SX)) (hk4 : ∀ (v1 : Int32) (v2 : Int32) (M : SX) (H : Heap) (locs : List Loc) (ls : Array Slot), Wld G ZX M s.heap H locs → lv_has ls 3 [(0, .ref (G.2.1 b)), (1, .int v1), (2, .int v2)] → k4 v1 v2 M = some (r, M') → WXi G ZX p l e 0 s m args below meth c r M' H locs (F0 m 4 ls [])) : ∀ (v1 : Int32) (v2 : Int32) (M : SX) (H : Heap) (locs : List Loc) (ls : Array Slot), Wld G ZX M s.heap H locs → lv_has ls 3 [(0, .ref (G.2.1 b)), (1, .int v1), (2, .int v2)] → p1_cashInAll_4 b k4 v1 v2 M = some (r, M') → WXi G ZX p l e 0 s m args below meth c r M' H locs (F0 m 4 ls []) := by
  intro v1 v2 M H locs ls hw hl hf
  have hx := F.1.1
  have hb := F.1.2.1
  unfold p1_cashInAll_4 at hf
  refine lv_iload_n hx hb dX1_cashInAll_4 rfl (lv_at hl 2 rfl) ?_
  refine lv_aload_n hx hb dX1_cashInAll_5 rfl (lv_at hl 0 rfl) ?_
  refine g1_0 qb F hw tw_41 dX1_cashInAll_6 ?_
  refine lv_icmp_ge (tgt := 27) hx hb dX1_cashInAll_9 (by decide) (fun c1 => ?_) (fun c1 => ?_)
  · have hf := it_t hf c1
    refine lv_iload_n hx hb dX1_cashInAll_27 rfl (lv_at hl 1 rfl) ?_
    exact x_iret F hw hr hk hf dX1_cashInAll_28
  · have hf := it_f hf c1
    refine lv_iload_n hx hb dX1_cashInAll_12 rfl (lv_at hl 1 rfl) ?_
    refine lv_aload_n hx hb dX1_cashInAll_13 rfl (lv_at hl 0 rfl) ?_
    refine g1_2 qb F hw tw_47 dX1_cashInAll_14 ?_
    refine lv_iload_n hx hb dX1_cashInAll_17 rfl (lv_at hl 2 rfl) ?_
    obtain ⟨g2, hf⟩ := gd_some hf
    refine x_iald F hw (sL2 qb) g2 dX1_cashInAll_18 ?_
    refine lv_iadd hx hb dX1_cashInAll_19 ?_
    obtain ⟨x3, ex3, hf⟩ := lt_elim hf
    refine x_let ex3 ?_
    refine lv_istore_n (lv' := [(1, .int x3), (0, .ref (G.2.1 b)), (2, .int v2)]) hx hb dX1_cashInAll_20 rfl hl (by decide) rfl (fun ls hl => ?_)
    obtain ⟨x4, ex4, hf⟩ := lt_elim hf
    refine lv_iinc (v := x4) (lv' := [(2, .int x4), (1, .int x3), (0, .ref (G.2.1 b))]) hx hb dX1_cashInAll_21 hl (k := 2) rfl (by rw [ex4]; rfl) (by decide) rfl (fun ls hl => ?_)
    refine lv_goto (tgt := 4) hx hb dX1_cashInAll_24 (by decide) ?_
    exact hk4 x3 x4 M _ _ ls hw (lv_sub hl [2, 1, 0] rfl) hf
theorem z1_cashInAll_4 {G : XG} {p : Program} {l : Launch} {e : Env} {s : State} {m : MethodId} {args : Array Value} {below : List Frame} {meth : Method} {c : Code} (F : Fx G ZX p m c cX1_cashInAll 3 s args RX1) (hr : meth.sig.returnType = some .int) (hk : meth.locks = false) {r : Int32} {M' : SX} (b : Nat) (qb : isL b) : ∀ n : Nat, ∀ (v1 : Int32) (v2 : Int32) (M : SX) (H : Heap) (locs : List Loc) (ls : Array Slot), Wld G ZX M s.heap H locs → lv_has ls 3 [(0, .ref (G.2.1 b)), (1, .int v1), (2, .int v2)] → xlp2 (p1_cashInAll_4 b) n v1 v2 M = some (r, M') → WXi G ZX p l e 0 s m args below meth c r M' H locs (F0 m 4 ls []) := by
  intro n
  induction n with
  | zero => intro _ _ _ _ _ _ _ _ hf; cases hf
  | succ n ih => exact w1_cashInAll_4 F hr hk b qb (xlp2 (p1_cashInAll_4 b) n) ih
def p1_cashInAll (b : Nat) (M : SX) : Option (Int32 × SX) :=
  xlp2 (p1_cashInAll_4 b) FU 0 0 M
set_option maxHeartbeats 4000000 in
set_option maxRecDepth 100000 in
theorem c1_cashInAll {l : Launch} {G : XG} {r : Int32} {M' : SX} {M : SX} (b : Nat) (qb : isL b) (hf : p1_cashInAll b M = some (r, M')) : Met l yX1_cashInAll (.code yX1_cashInAll cX1_cashInAll 3 (some .int) :: TBL) (rmX 0) (xPc G ZX M [.ref (G.2.1 b)]) (xQi G ZX r M') 0 0 (inA G ZX) := by
  refine x_met (cc := cX1_cashInAll) (by decide) (Nat.le_of_ble_eq_true rfl) ?_
  intro p e s m below meth c ls F hr hk hl hw
  have F : Fx G ZX p m c cX1_cashInAll 3 s [.ref (G.2.1 b)].toArray RX1 := F
  have hl : lv_has ls 3 [(0, .ref (G.2.1 b))] := hl
  have hx := F.1.1
  have hb := F.1.2.1
  unfold p1_cashInAll at hf
  refine lv_iconst (v := 0) hx hb dX1_cashInAll_0 (by decide) ?_
  refine lv_istore_n (lv' := [(1, .int 0), (0, .ref (G.2.1 b))]) hx hb dX1_cashInAll_1 rfl hl (by decide) rfl (fun ls hl => ?_)
  refine lv_iconst (v := 0) hx hb dX1_cashInAll_2 (by decide) ?_
  refine lv_istore_n (lv' := [(2, .int 0), (1, .int 0), (0, .ref (G.2.1 b))]) hx hb dX1_cashInAll_3 rfl hl (by decide) rfl (fun ls hl => ?_)
  exact z1_cashInAll_4 F hr hk b qb FU 0 0 M _ _ ls hw (lv_sub hl [2, 1, 0] rfl) hf
theorem dX1_pay_0 : decode cX1_pay 0 = .ok (.aload_n 0, 1) := by decide +kernel
theorem dX1_pay_1 : decode cX1_pay 1 = .ok (.getfield 19, 3) := by decide +kernel
theorem dX1_pay_4 : decode cX1_pay 4 = .ok (.iload_n 1, 1) := by decide +kernel
theorem dX1_pay_5 : decode cX1_pay 5 = .ok (.dup2, 1) := by decide +kernel
theorem dX1_pay_6 : decode cX1_pay 6 = .ok (.iaload, 1) := by decide +kernel
theorem dX1_pay_7 : decode cX1_pay 7 = .ok (.iload_n 3, 1) := by decide +kernel
theorem dX1_pay_8 : decode cX1_pay 8 = .ok (.isub, 1) := by decide +kernel
theorem dX1_pay_9 : decode cX1_pay 9 = .ok (.iastore, 1) := by decide +kernel
theorem dX1_pay_10 : decode cX1_pay 10 = .ok (.aload_n 0, 1) := by decide +kernel
theorem dX1_pay_11 : decode cX1_pay 11 = .ok (.getfield 19, 3) := by decide +kernel
theorem dX1_pay_14 : decode cX1_pay 14 = .ok (.iload_n 2, 1) := by decide +kernel
theorem dX1_pay_15 : decode cX1_pay 15 = .ok (.dup2, 1) := by decide +kernel
theorem dX1_pay_16 : decode cX1_pay 16 = .ok (.iaload, 1) := by decide +kernel
theorem dX1_pay_17 : decode cX1_pay 17 = .ok (.iload_n 3, 1) := by decide +kernel
theorem dX1_pay_18 : decode cX1_pay 18 = .ok (.iadd, 1) := by decide +kernel
theorem dX1_pay_19 : decode cX1_pay 19 = .ok (.iastore, 1) := by decide +kernel
theorem dX1_pay_20 : decode cX1_pay 20 = .ok (.return_, 1) := by decide +kernel
def p1_pay (b : Nat) (a1 : Int32) (a2 : Int32) (a3 : Int32) (M : SX) : Option SX :=
  gd (bIn a1 6) ( lt_ (wI M (b + 2) (Int32.toNatClampNeg a1) ((M.1 (b + 2) (Int32.toNatClampNeg a1)) - a3)) (fun M2 => gd (bIn a2 6) ( lt_ (wI M2 (b + 2) (Int32.toNatClampNeg a2) ((M2.1 (b + 2) (Int32.toNatClampNeg a2)) + a3)) (fun M4 => some M4))))
set_option maxHeartbeats 4000000 in
set_option maxRecDepth 100000 in
theorem c1_pay {l : Launch} {G : XG} {M' : SX} {M : SX} (b : Nat) (qb : isL b) (a1 : Int32) (a2 : Int32) (a3 : Int32) (hf : p1_pay b a1 a2 a3 M = some M') : Met l yX1_pay (.code yX1_pay cX1_pay 4 none :: TBL) (rmX 0) (xPc G ZX M [.ref (G.2.1 b), .int a1, .int a2, .int a3]) (xQv G ZX M') 0 0 (inA G ZX) := by
  refine x_met (cc := cX1_pay) (by decide) (Nat.le_of_ble_eq_true rfl) ?_
  intro p e s m below meth c ls F hr hk hl hw
  have F : Fx G ZX p m c cX1_pay 4 s [.ref (G.2.1 b), .int a1, .int a2, .int a3].toArray RX1 := F
  have hl : lv_has ls 4 [(0, .ref (G.2.1 b)), (1, .int a1), (2, .int a2), (3, .int a3)] := hl
  have hx := F.1.1
  have hb := F.1.2.1
  unfold p1_pay at hf
  refine lv_aload_n hx hb dX1_pay_0 rfl (lv_at hl 0 rfl) ?_
  refine g1_2 qb F hw tw_47 dX1_pay_1 ?_
  refine lv_iload_n hx hb dX1_pay_4 rfl (lv_at hl 1 rfl) ?_
  refine lv_dup2_11 hx hb dX1_pay_5 rfl rfl ?_
  obtain ⟨g1, hf⟩ := gd_some hf
  refine x_iald F hw (sL2 qb) g1 dX1_pay_6 ?_
  refine lv_iload_n hx hb dX1_pay_7 rfl (lv_at hl 3 rfl) ?_
  refine lv_isub hx hb dX1_pay_8 ?_
  refine x_iast F hw (sL2 qb) g1 dX1_pay_9 (fun H locs hw => ?_)
  obtain ⟨M2, eM2, hf⟩ := lt_elim hf
  rw [← eM2] at hw
  refine lv_aload_n hx hb dX1_pay_10 rfl (lv_at hl 0 rfl) ?_
  refine g1_2 qb F hw tw_47 dX1_pay_11 ?_
  refine lv_iload_n hx hb dX1_pay_14 rfl (lv_at hl 2 rfl) ?_
  refine lv_dup2_11 hx hb dX1_pay_15 rfl rfl ?_
  obtain ⟨g3, hf⟩ := gd_some hf
  refine x_iald F hw (sL2 qb) g3 dX1_pay_16 ?_
  refine lv_iload_n hx hb dX1_pay_17 rfl (lv_at hl 3 rfl) ?_
  refine lv_iadd hx hb dX1_pay_18 ?_
  refine x_iast F hw (sL2 qb) g3 dX1_pay_19 (fun H locs hw => ?_)
  obtain ⟨M4, eM4, hf⟩ := lt_elim hf
  rw [← eM4] at hw
  exact x_vret F hw hr hk hf dX1_pay_20
theorem dX1_removeTicket_0 : decode cX1_removeTicket 0 = .ok (.aload_n 0, 1) := by decide +kernel
theorem dX1_removeTicket_1 : decode cX1_removeTicket 1 = .ok (.iload_n 1, 1) := by decide +kernel
theorem dX1_removeTicket_2 : decode cX1_removeTicket 2 = .ok (.bipush (-9), 2) := by decide +kernel
theorem dX1_removeTicket_4 : decode cX1_removeTicket 4 = .ok (.iconst 0, 1) := by decide +kernel
theorem dX1_removeTicket_5 : decode cX1_removeTicket 5 = .ok (.iconst 0, 1) := by decide +kernel
theorem dX1_removeTicket_6 : decode cX1_removeTicket 6 = .ok (.invokevirtual 58, 3) := by decide +kernel
theorem dX1_removeTicket_9 : decode cX1_removeTicket 9 = .ok (.return_, 1) := by decide +kernel
def p1_removeTicket (b : Nat) (a1 : Int32) (M : SX) : Option SX :=
  bv (p1_setTicket b a1 (-9) 0 0 M) (fun M2 => some M2)
set_option maxHeartbeats 4000000 in
set_option maxRecDepth 100000 in
theorem c1_removeTicket {l : Launch} {G : XG} {M' : SX} {M : SX} (b : Nat) (qb : isL b) (a1 : Int32) (hf : p1_removeTicket b a1 M = some M') : Met l yX1_removeTicket (.code yX1_removeTicket cX1_removeTicket 2 none :: TBL) (rmX 1) (xPc G ZX M [.ref (G.2.1 b), .int a1]) (xQv G ZX M') 0 0 (inA G ZX) := by
  refine x_met (cc := cX1_removeTicket) (by decide) (Nat.le_of_ble_eq_true rfl) ?_
  intro p e s m below meth c ls F hr hk hl hw
  have F : Fx G ZX p m c cX1_removeTicket 2 s [.ref (G.2.1 b), .int a1].toArray RX1 := F
  have hl : lv_has ls 2 [(0, .ref (G.2.1 b)), (1, .int a1)] := hl
  have hx := F.1.1
  have hb := F.1.2.1
  unfold p1_removeTicket at hf
  refine lv_aload_n hx hb dX1_removeTicket_0 rfl (lv_at hl 0 rfl) ?_
  refine lv_iload_n hx hb dX1_removeTicket_1 rfl (lv_at hl 1 rfl) ?_
  refine lv_bipush (v := (-9)) hx hb dX1_removeTicket_2 (by decide) ?_
  refine lv_iconst (v := 0) hx hb dX1_removeTicket_4 (by decide) ?_
  refine lv_iconst (v := 0) hx hb dX1_removeTicket_5 (by decide) ?_
  obtain ⟨M2, hc1, hf⟩ := bv_some hf
  refine x_aftV hw (x_runV (rest := []) F hw hl.1 vw_RX1_58 (sL qb) rfl (c1_setTicket b qb a1 (-9) 0 0 hc1) rfl rfl (Nat.le_of_ble_eq_true rfl) ⟨Nat.le_of_ble_eq_true rfl, Nat.le_of_ble_eq_true rfl⟩ dX1_removeTicket_6) (fun H locs hw => ?_)
  exact x_vret F hw hr hk hf dX1_removeTicket_9
theorem dX1_isHeldIn_0 : decode cX1_isHeldIn 0 = .ok (.aload_n 0, 1) := by decide +kernel
theorem dX1_isHeldIn_1 : decode cX1_isHeldIn 1 = .ok (.iload_n 1, 1) := by decide +kernel
theorem dX1_isHeldIn_2 : decode cX1_isHeldIn 2 = .ok (.invokevirtual 62, 3) := by decide +kernel
theorem dX1_isHeldIn_5 : decode cX1_isHeldIn 5 = .ok (.ifCond .eq 20, 3) := by decide +kernel
theorem dX1_isHeldIn_8 : decode cX1_isHeldIn 8 = .ok (.iload_n 2, 1) := by decide +kernel
theorem dX1_isHeldIn_9 : decode cX1_isHeldIn 9 = .ok (.aload_n 0, 1) := by decide +kernel
theorem dX1_isHeldIn_10 : decode cX1_isHeldIn 10 = .ok (.getfield 25, 3) := by decide +kernel
theorem dX1_isHeldIn_13 : decode cX1_isHeldIn 13 = .ok (.iload_n 1, 1) := by decide +kernel
theorem dX1_isHeldIn_14 : decode cX1_isHeldIn 14 = .ok (.iaload, 1) := by decide +kernel
theorem dX1_isHeldIn_15 : decode cX1_isHeldIn 15 = .ok (.invokestatic 66, 3) := by decide +kernel
theorem dX1_isHeldIn_18 : decode cX1_isHeldIn 18 = .ok (.ifCond .eq 7, 3) := by decide +kernel
theorem dX1_isHeldIn_21 : decode cX1_isHeldIn 21 = .ok (.iconst 1, 1) := by decide +kernel
theorem dX1_isHeldIn_22 : decode cX1_isHeldIn 22 = .ok (.goto 4, 3) := by decide +kernel
theorem dX1_isHeldIn_25 : decode cX1_isHeldIn 25 = .ok (.iconst 0, 1) := by decide +kernel
theorem dX1_isHeldIn_26 : decode cX1_isHeldIn 26 = .ok (.ireturn, 1) := by decide +kernel
def p1_isHeldIn (b : Nat) (a1 : Int32) (a2 : Int32) (M : SX) : Option (Int32 × SX) :=
  bd (p1_isPawned b a1 M) (fun r3 M2 => if r3 = 0 then (some (0, M2))
  else (gd (bIn a1 6) ( bd (p5_isIn a2 (M2.1 (b + 4) (Int32.toNatClampNeg a1)) M2) (fun r8 M7 => if r8 = 0 then (some (0, M7))
  else (some (1, M7))))))
set_option maxHeartbeats 4000000 in
set_option maxRecDepth 100000 in
theorem c1_isHeldIn {l : Launch} {G : XG} {r : Int32} {M' : SX} {M : SX} (b : Nat) (qb : isL b) (a1 : Int32) (a2 : Int32) (hf : p1_isHeldIn b a1 a2 M = some (r, M')) : Met l yX1_isHeldIn (.code yX1_isHeldIn cX1_isHeldIn 3 (some .boolean) :: TBL) (rmX 1) (xPc G ZX M [.ref (G.2.1 b), .int a1, .int a2]) (xQi G ZX r M') 0 0 (inA G ZX) := by
  refine x_met (cc := cX1_isHeldIn) (by decide) (Nat.le_of_ble_eq_true rfl) ?_
  intro p e s m below meth c ls F hr hk hl hw
  have F : Fx G ZX p m c cX1_isHeldIn 3 s [.ref (G.2.1 b), .int a1, .int a2].toArray RX1 := F
  have hl : lv_has ls 3 [(0, .ref (G.2.1 b)), (1, .int a1), (2, .int a2)] := hl
  have hx := F.1.1
  have hb := F.1.2.1
  unfold p1_isHeldIn at hf
  refine lv_aload_n hx hb dX1_isHeldIn_0 rfl (lv_at hl 0 rfl) ?_
  refine lv_iload_n hx hb dX1_isHeldIn_1 rfl (lv_at hl 1 rfl) ?_
  obtain ⟨r3, M2, hc1, hf⟩ := bd_some hf
  refine x_aftI hw (x_runV (rest := []) F hw hl.1 vw_RX1_62 (sL qb) rfl (c1_isPawned b qb a1 hc1) rfl rfl (Nat.le_of_ble_eq_true rfl) ⟨Nat.le_of_ble_eq_true rfl, Nat.le_of_ble_eq_true rfl⟩ dX1_isHeldIn_2) (fun H locs hw => ?_)
  refine lv_if_eq (tgt := 25) hx hb dX1_isHeldIn_5 (by decide) (fun c4 => ?_) (fun c4 => ?_)
  · have hf := it_t hf c4
    refine lv_iconst (v := 0) hx hb dX1_isHeldIn_25 (by decide) ?_
    exact x_zret F hw hr hk (by decide) hf dX1_isHeldIn_26
  · have hf := it_f hf c4
    refine lv_iload_n hx hb dX1_isHeldIn_8 rfl (lv_at hl 2 rfl) ?_
    refine lv_aload_n hx hb dX1_isHeldIn_9 rfl (lv_at hl 0 rfl) ?_
    refine g1_4 qb F hw tw_44 dX1_isHeldIn_10 ?_
    refine lv_iload_n hx hb dX1_isHeldIn_13 rfl (lv_at hl 1 rfl) ?_
    obtain ⟨g5, hf⟩ := gd_some hf
    refine x_iald F hw (sL4 qb) g5 dX1_isHeldIn_14 ?_
    obtain ⟨r8, M7, hc6, hf⟩ := bd_some hf
    refine x_aftI hw (x_runN (rest := []) F hw hl.1 nn_RX1_66 (c5_isIn a2 (M2.1 (b + 4) (Int32.toNatClampNeg a1)) hc6) rfl rfl (Nat.le_of_ble_eq_true rfl) ⟨Nat.le_of_ble_eq_true rfl, Nat.le_of_ble_eq_true rfl⟩ dX1_isHeldIn_15) (fun H locs hw => ?_)
    refine lv_if_eq (tgt := 25) hx hb dX1_isHeldIn_18 (by decide) (fun c9 => ?_) (fun c9 => ?_)
    · have hf := it_t hf c9
      refine lv_iconst (v := 0) hx hb dX1_isHeldIn_25 (by decide) ?_
      exact x_zret F hw hr hk (by decide) hf dX1_isHeldIn_26
    · have hf := it_f hf c9
      refine lv_iconst (v := 1) hx hb dX1_isHeldIn_21 (by decide) ?_
      refine lv_goto (tgt := 26) hx hb dX1_isHeldIn_22 (by decide) ?_
      exact x_zret F hw hr hk (by decide) hf dX1_isHeldIn_26
theorem dX1_pawnedSet_0 : decode cX1_pawnedSet 0 = .ok (.iconst 0, 1) := by decide +kernel
theorem dX1_pawnedSet_1 : decode cX1_pawnedSet 1 = .ok (.istore_n 1, 1) := by decide +kernel
theorem dX1_pawnedSet_2 : decode cX1_pawnedSet 2 = .ok (.iconst 0, 1) := by decide +kernel
theorem dX1_pawnedSet_3 : decode cX1_pawnedSet 3 = .ok (.istore_n 2, 1) := by decide +kernel
theorem dX1_pawnedSet_4 : decode cX1_pawnedSet 4 = .ok (.iload_n 2, 1) := by decide +kernel
theorem dX1_pawnedSet_5 : decode cX1_pawnedSet 5 = .ok (.aload_n 0, 1) := by decide +kernel
theorem dX1_pawnedSet_6 : decode cX1_pawnedSet 6 = .ok (.getfield 9, 3) := by decide +kernel
theorem dX1_pawnedSet_9 : decode cX1_pawnedSet 9 = .ok (.if_icmp .ge 23, 3) := by decide +kernel
theorem dX1_pawnedSet_12 : decode cX1_pawnedSet 12 = .ok (.aload_n 0, 1) := by decide +kernel
theorem dX1_pawnedSet_13 : decode cX1_pawnedSet 13 = .ok (.iload_n 2, 1) := by decide +kernel
theorem dX1_pawnedSet_14 : decode cX1_pawnedSet 14 = .ok (.invokevirtual 62, 3) := by decide +kernel
theorem dX1_pawnedSet_17 : decode cX1_pawnedSet 17 = .ok (.ifCond .eq 9, 3) := by decide +kernel
theorem dX1_pawnedSet_20 : decode cX1_pawnedSet 20 = .ok (.iload_n 1, 1) := by decide +kernel
theorem dX1_pawnedSet_21 : decode cX1_pawnedSet 21 = .ok (.iconst 1, 1) := by decide +kernel
theorem dX1_pawnedSet_22 : decode cX1_pawnedSet 22 = .ok (.iload_n 2, 1) := by decide +kernel
theorem dX1_pawnedSet_23 : decode cX1_pawnedSet 23 = .ok (.ishl, 1) := by decide +kernel
theorem dX1_pawnedSet_24 : decode cX1_pawnedSet 24 = .ok (.ior, 1) := by decide +kernel
theorem dX1_pawnedSet_25 : decode cX1_pawnedSet 25 = .ok (.istore_n 1, 1) := by decide +kernel
theorem dX1_pawnedSet_26 : decode cX1_pawnedSet 26 = .ok (.iinc 2 1, 3) := by decide +kernel
theorem dX1_pawnedSet_29 : decode cX1_pawnedSet 29 = .ok (.goto (-25), 3) := by decide +kernel
theorem dX1_pawnedSet_32 : decode cX1_pawnedSet 32 = .ok (.iload_n 1, 1) := by decide +kernel
theorem dX1_pawnedSet_33 : decode cX1_pawnedSet 33 = .ok (.ireturn, 1) := by decide +kernel
def p1_pawnedSet_26 (b : Nat) (k4 : Int32 → Int32 → SX → Option (Int32 × SX)) (v1 : Int32) (v2 : Int32) (M : SX) : Option (Int32 × SX) :=
  lt_ (v2 + 1) (fun x1 => k4 v1 x1 M)
set_option maxHeartbeats 4000000 in
set_option maxRecDepth 100000 in
theorem w1_pawnedSet_26 {G : XG} {p : Program} {l : Launch} {e : Env} {s : State} {m : MethodId} {args : Array Value} {below : List Frame} {meth : Method} {c : Code} (F : Fx G ZX p m c cX1_pawnedSet 3 s args RX1) (hr : meth.sig.returnType = some .int) (hk : meth.locks = false) {r : Int32} {M' : SX} (b : Nat) (qb : isL b) (k4 : Int32 → Int32 → SX → Option (Int32 × SX)) (hk4 : ∀ (v1 : Int32) (v2 : Int32) (M : SX) (H : Heap) (locs : List Loc) (ls : Array Slot), Wld G ZX M s.heap H locs → lv_has ls 3 [(0, .ref (G.2.1 b)), (1, .int v1), (2, .int v2)] → k4 v1 v2 M = some (r, M') → WXi G ZX p l e 1 s m args below meth c r M' H locs (F0 m 4 ls [])) : ∀ (v1 : Int32) (v2 : Int32) (M : SX) (H : Heap) (locs : List Loc) (ls : Array Slot), Wld G ZX M s.heap H locs → lv_has ls 3 [(0, .ref (G.2.1 b)), (1, .int v1), (2, .int v2)] → p1_pawnedSet_26 b k4 v1 v2 M = some (r, M') → WXi G ZX p l e 1 s m args below meth c r M' H locs (F0 m 26 ls []) := by
  intro v1 v2 M H locs ls hw hl hf
  have hx := F.1.1
  have hb := F.1.2.1
  unfold p1_pawnedSet_26 at hf
  obtain ⟨x1, ex1, hf⟩ := lt_elim hf
  refine lv_iinc (v := x1) (lv' := [(2, .int x1), (0, .ref (G.2.1 b)), (1, .int v1)]) hx hb dX1_pawnedSet_26 hl (k := 2) rfl (by rw [ex1]; rfl) (by decide) rfl (fun ls hl => ?_)
  refine lv_goto (tgt := 4) hx hb dX1_pawnedSet_29 (by decide) ?_
  exact hk4 v1 x1 M _ _ ls hw (lv_sub hl [1, 2, 0] rfl) hf
def p1_pawnedSet_4 (b : Nat) (k4 : Int32 → Int32 → SX → Option (Int32 × SX)) (v1 : Int32) (v2 : Int32) (M : SX) : Option (Int32 × SX) :=
  if (M.1 b 0) ≤ v2 then (some (v1, M))
  else (bd (p1_isPawned b v2 M) (fun r4 M3 => if r4 = 0 then (p1_pawnedSet_26 b k4 v1 v2 M3)
  else (lt_ (v1 ||| ((1 : Int32) <<< (v2 &&& 31))) (fun x6 => p1_pawnedSet_26 b k4 x6 v2 M3))))
set_option maxHeartbeats 4000000 in
set_option maxRecDepth 100000 in
theorem w1_pawnedSet_4 {G : XG} {p : Program} {l : Launch} {e : Env} {s : State} {m : MethodId} {args : Array Value} {below : List Frame} {meth : Method} {c : Code} (F : Fx G ZX p m c cX1_pawnedSet 3 s args RX1) (hr : meth.sig.returnType = some .int) (hk : meth.locks = false) {r : Int32} {M' : SX} (b : Nat) (qb : isL b) (k4 : Int32 → Int32 → SX → Option (Int32 × SX)) (hk4 : ∀ (v1 : Int32) (v2 : Int32) (M : SX) (H : Heap) (locs : List Loc) (ls : Array Slot), Wld G ZX M s.heap H locs → lv_has ls 3 [(0, .ref (G.2.1 b)), (1, .int v1), (2, .int v2)] → k4 v1 v2 M = some (r, M') → WXi G ZX p l e 1 s m args below meth c r M' H locs (F0 m 4 ls [])) : ∀ (v1 : Int32) (v2 : Int32) (M : SX) (H : Heap) (locs : List Loc) (ls : Array Slot), Wld G ZX M s.heap H locs → lv_has ls 3 [(0, .ref (G.2.1 b)), (1, .int v1), (2, .int v2)] → p1_pawnedSet_4 b k4 v1 v2 M = some (r, M') → WXi G ZX p l e 1 s m args below meth c r M' H locs (F0 m 4 ls []) := by
  intro v1 v2 M H locs ls hw hl hf
  have hx := F.1.1
  have hb := F.1.2.1
  unfold p1_pawnedSet_4 at hf
  refine lv_iload_n hx hb dX1_pawnedSet_4 rfl (lv_at hl 2 rfl) ?_
  refine lv_aload_n hx hb dX1_pawnedSet_5 rfl (lv_at hl 0 rfl) ?_
  refine g1_0 qb F hw tw_41 dX1_pawnedSet_6 ?_
  refine lv_icmp_ge (tgt := 32) hx hb dX1_pawnedSet_9 (by decide) (fun c1 => ?_) (fun c1 => ?_)
  · have hf := it_t hf c1
    refine lv_iload_n hx hb dX1_pawnedSet_32 rfl (lv_at hl 1 rfl) ?_
    exact x_iret F hw hr hk hf dX1_pawnedSet_33
  · have hf := it_f hf c1
    refine lv_aload_n hx hb dX1_pawnedSet_12 rfl (lv_at hl 0 rfl) ?_
    refine lv_iload_n hx hb dX1_pawnedSet_13 rfl (lv_at hl 2 rfl) ?_
    obtain ⟨r4, M3, hc2, hf⟩ := bd_some hf
    refine x_aftI hw (x_runV (rest := []) F hw hl.1 vw_RX1_62 (sL qb) rfl (c1_isPawned b qb v2 hc2) rfl rfl (Nat.le_of_ble_eq_true rfl) ⟨Nat.le_of_ble_eq_true rfl, Nat.le_of_ble_eq_true rfl⟩ dX1_pawnedSet_14) (fun H locs hw => ?_)
    refine lv_if_eq (tgt := 26) hx hb dX1_pawnedSet_17 (by decide) (fun c5 => ?_) (fun c5 => ?_)
    · have hf := it_t hf c5
      exact w1_pawnedSet_26 F hr hk b qb k4 hk4 v1 v2 M3 _ _ ls hw (lv_sub hl [0, 1, 2] rfl) hf
    · have hf := it_f hf c5
      refine lv_iload_n hx hb dX1_pawnedSet_20 rfl (lv_at hl 1 rfl) ?_
      refine lv_iconst (v := 1) hx hb dX1_pawnedSet_21 (by decide) ?_
      refine lv_iload_n hx hb dX1_pawnedSet_22 rfl (lv_at hl 2 rfl) ?_
      refine lv_ishl hx hb dX1_pawnedSet_23 ?_
      refine lv_ior hx hb dX1_pawnedSet_24 ?_
      obtain ⟨x6, ex6, hf⟩ := lt_elim hf
      refine x_let ex6 ?_
      refine lv_istore_n (lv' := [(1, .int x6), (0, .ref (G.2.1 b)), (2, .int v2)]) hx hb dX1_pawnedSet_25 rfl hl (by decide) rfl (fun ls hl => ?_)
      exact w1_pawnedSet_26 F hr hk b qb k4 hk4 x6 v2 M3 _ _ ls hw (lv_sub hl [1, 0, 2] rfl) hf
theorem z1_pawnedSet_4 {G : XG} {p : Program} {l : Launch} {e : Env} {s : State} {m : MethodId} {args : Array Value} {below : List Frame} {meth : Method} {c : Code} (F : Fx G ZX p m c cX1_pawnedSet 3 s args RX1) (hr : meth.sig.returnType = some .int) (hk : meth.locks = false) {r : Int32} {M' : SX} (b : Nat) (qb : isL b) : ∀ n : Nat, ∀ (v1 : Int32) (v2 : Int32) (M : SX) (H : Heap) (locs : List Loc) (ls : Array Slot), Wld G ZX M s.heap H locs → lv_has ls 3 [(0, .ref (G.2.1 b)), (1, .int v1), (2, .int v2)] → xlp2 (p1_pawnedSet_4 b) n v1 v2 M = some (r, M') → WXi G ZX p l e 1 s m args below meth c r M' H locs (F0 m 4 ls []) := by
  intro n
  induction n with
  | zero => intro _ _ _ _ _ _ _ _ hf; cases hf
  | succ n ih => exact w1_pawnedSet_4 F hr hk b qb (xlp2 (p1_pawnedSet_4 b) n) ih
def p1_pawnedSet (b : Nat) (M : SX) : Option (Int32 × SX) :=
  xlp2 (p1_pawnedSet_4 b) FU 0 0 M
set_option maxHeartbeats 4000000 in
set_option maxRecDepth 100000 in
theorem c1_pawnedSet {l : Launch} {G : XG} {r : Int32} {M' : SX} {M : SX} (b : Nat) (qb : isL b) (hf : p1_pawnedSet b M = some (r, M')) : Met l yX1_pawnedSet (.code yX1_pawnedSet cX1_pawnedSet 3 (some .int) :: TBL) (rmX 1) (xPc G ZX M [.ref (G.2.1 b)]) (xQi G ZX r M') 0 0 (inA G ZX) := by
  refine x_met (cc := cX1_pawnedSet) (by decide) (Nat.le_of_ble_eq_true rfl) ?_
  intro p e s m below meth c ls F hr hk hl hw
  have F : Fx G ZX p m c cX1_pawnedSet 3 s [.ref (G.2.1 b)].toArray RX1 := F
  have hl : lv_has ls 3 [(0, .ref (G.2.1 b))] := hl
  have hx := F.1.1
  have hb := F.1.2.1
  unfold p1_pawnedSet at hf
  refine lv_iconst (v := 0) hx hb dX1_pawnedSet_0 (by decide) ?_
  refine lv_istore_n (lv' := [(1, .int 0), (0, .ref (G.2.1 b))]) hx hb dX1_pawnedSet_1 rfl hl (by decide) rfl (fun ls hl => ?_)
  refine lv_iconst (v := 0) hx hb dX1_pawnedSet_2 (by decide) ?_
  refine lv_istore_n (lv' := [(2, .int 0), (1, .int 0), (0, .ref (G.2.1 b))]) hx hb dX1_pawnedSet_3 rfl hl (by decide) rfl (fun ls hl => ?_)
  exact z1_pawnedSet_4 F hr hk b qb FU 0 0 M _ _ ls hw (lv_sub hl [2, 1, 0] rfl) hf
theorem dX1_stockOf_0 : decode cX1_stockOf 0 = .ok (.iconst 0, 1) := by decide +kernel
theorem dX1_stockOf_1 : decode cX1_stockOf 1 = .ok (.istore_n 2, 1) := by decide +kernel
theorem dX1_stockOf_2 : decode cX1_stockOf 2 = .ok (.iconst 0, 1) := by decide +kernel
theorem dX1_stockOf_3 : decode cX1_stockOf 3 = .ok (.istore_n 3, 1) := by decide +kernel
theorem dX1_stockOf_4 : decode cX1_stockOf 4 = .ok (.iload_n 3, 1) := by decide +kernel
theorem dX1_stockOf_5 : decode cX1_stockOf 5 = .ok (.aload_n 0, 1) := by decide +kernel
theorem dX1_stockOf_6 : decode cX1_stockOf 6 = .ok (.getfield 9, 3) := by decide +kernel
theorem dX1_stockOf_9 : decode cX1_stockOf 9 = .ok (.if_icmp .ge 26, 3) := by decide +kernel
theorem dX1_stockOf_12 : decode cX1_stockOf 12 = .ok (.iload_n 1, 1) := by decide +kernel
theorem dX1_stockOf_13 : decode cX1_stockOf 13 = .ok (.iload_n 3, 1) := by decide +kernel
theorem dX1_stockOf_14 : decode cX1_stockOf 14 = .ok (.invokestatic 66, 3) := by decide +kernel
theorem dX1_stockOf_17 : decode cX1_stockOf 17 = .ok (.ifCond .eq 12, 3) := by decide +kernel
theorem dX1_stockOf_20 : decode cX1_stockOf 20 = .ok (.iload_n 2, 1) := by decide +kernel
theorem dX1_stockOf_21 : decode cX1_stockOf 21 = .ok (.aload_n 0, 1) := by decide +kernel
theorem dX1_stockOf_22 : decode cX1_stockOf 22 = .ok (.getfield 22, 3) := by decide +kernel
theorem dX1_stockOf_25 : decode cX1_stockOf 25 = .ok (.iload_n 3, 1) := by decide +kernel
theorem dX1_stockOf_26 : decode cX1_stockOf 26 = .ok (.iaload, 1) := by decide +kernel
theorem dX1_stockOf_27 : decode cX1_stockOf 27 = .ok (.iadd, 1) := by decide +kernel
theorem dX1_stockOf_28 : decode cX1_stockOf 28 = .ok (.istore_n 2, 1) := by decide +kernel
theorem dX1_stockOf_29 : decode cX1_stockOf 29 = .ok (.iinc 3 1, 3) := by decide +kernel
theorem dX1_stockOf_32 : decode cX1_stockOf 32 = .ok (.goto (-28), 3) := by decide +kernel
theorem dX1_stockOf_35 : decode cX1_stockOf 35 = .ok (.iload_n 2, 1) := by decide +kernel
theorem dX1_stockOf_36 : decode cX1_stockOf 36 = .ok (.ireturn, 1) := by decide +kernel
def p1_stockOf_29 (b : Nat) (k4 : Int32 → Int32 → Int32 → SX → Option (Int32 × SX)) (v1 : Int32) (v2 : Int32) (v3 : Int32) (M : SX) : Option (Int32 × SX) :=
  lt_ (v3 + 1) (fun x1 => k4 v1 v2 x1 M)
set_option maxHeartbeats 4000000 in
set_option maxRecDepth 100000 in
theorem w1_stockOf_29 {G : XG} {p : Program} {l : Launch} {e : Env} {s : State} {m : MethodId} {args : Array Value} {below : List Frame} {meth : Method} {c : Code} (F : Fx G ZX p m c cX1_stockOf 4 s args RX1) (hr : meth.sig.returnType = some .int) (hk : meth.locks = false) {r : Int32} {M' : SX} (b : Nat) (qb : isL b) (k4 : Int32 → Int32 → Int32 → SX → Option (Int32 × SX)) (hk4 : ∀ (v1 : Int32) (v2 : Int32) (v3 : Int32) (M : SX) (H : Heap) (locs : List Loc) (ls : Array Slot), Wld G ZX M s.heap H locs → lv_has ls 4 [(0, .ref (G.2.1 b)), (1, .int v1), (2, .int v2), (3, .int v3)] → k4 v1 v2 v3 M = some (r, M') → WXi G ZX p l e 1 s m args below meth c r M' H locs (F0 m 4 ls [])) : ∀ (v1 : Int32) (v2 : Int32) (v3 : Int32) (M : SX) (H : Heap) (locs : List Loc) (ls : Array Slot), Wld G ZX M s.heap H locs → lv_has ls 4 [(0, .ref (G.2.1 b)), (1, .int v1), (2, .int v2), (3, .int v3)] → p1_stockOf_29 b k4 v1 v2 v3 M = some (r, M') → WXi G ZX p l e 1 s m args below meth c r M' H locs (F0 m 29 ls []) := by
  intro v1 v2 v3 M H locs ls hw hl hf
  have hx := F.1.1
  have hb := F.1.2.1
  unfold p1_stockOf_29 at hf
  obtain ⟨x1, ex1, hf⟩ := lt_elim hf
  refine lv_iinc (v := x1) (lv' := [(3, .int x1), (0, .ref (G.2.1 b)), (1, .int v1), (2, .int v2)]) hx hb dX1_stockOf_29 hl (k := 3) rfl (by rw [ex1]; rfl) (by decide) rfl (fun ls hl => ?_)
  refine lv_goto (tgt := 4) hx hb dX1_stockOf_32 (by decide) ?_
  exact hk4 v1 v2 x1 M _ _ ls hw (lv_sub hl [1, 2, 3, 0] rfl) hf
def p1_stockOf_4 (b : Nat) (k4 : Int32 → Int32 → Int32 → SX → Option (Int32 × SX)) (v1 : Int32) (v2 : Int32) (v3 : Int32) (M : SX) : Option (Int32 × SX) :=
  if (M.1 b 0) ≤ v3 then (some (v2, M))
  else (bd (p5_isIn v1 v3 M) (fun r4 M3 => if r4 = 0 then (p1_stockOf_29 b k4 v1 v2 v3 M3)
  else (gd (bIn v3 6) ( lt_ (v2 + (M3.1 (b + 3) (Int32.toNatClampNeg v3))) (fun x7 => p1_stockOf_29 b k4 v1 x7 v3 M3)))))
set_option maxHeartbeats 4000000 in
set_option maxRecDepth 100000 in
theorem w1_stockOf_4 {G : XG} {p : Program} {l : Launch} {e : Env} {s : State} {m : MethodId} {args : Array Value} {below : List Frame} {meth : Method} {c : Code} (F : Fx G ZX p m c cX1_stockOf 4 s args RX1) (hr : meth.sig.returnType = some .int) (hk : meth.locks = false) {r : Int32} {M' : SX} (b : Nat) (qb : isL b) (k4 : Int32 → Int32 → Int32 → SX → Option (Int32 × SX)) (hk4 : ∀ (v1 : Int32) (v2 : Int32) (v3 : Int32) (M : SX) (H : Heap) (locs : List Loc) (ls : Array Slot), Wld G ZX M s.heap H locs → lv_has ls 4 [(0, .ref (G.2.1 b)), (1, .int v1), (2, .int v2), (3, .int v3)] → k4 v1 v2 v3 M = some (r, M') → WXi G ZX p l e 1 s m args below meth c r M' H locs (F0 m 4 ls [])) : ∀ (v1 : Int32) (v2 : Int32) (v3 : Int32) (M : SX) (H : Heap) (locs : List Loc) (ls : Array Slot), Wld G ZX M s.heap H locs → lv_has ls 4 [(0, .ref (G.2.1 b)), (1, .int v1), (2, .int v2), (3, .int v3)] → p1_stockOf_4 b k4 v1 v2 v3 M = some (r, M') → WXi G ZX p l e 1 s m args below meth c r M' H locs (F0 m 4 ls []) := by
  intro v1 v2 v3 M H locs ls hw hl hf
  have hx := F.1.1
  have hb := F.1.2.1
  unfold p1_stockOf_4 at hf
  refine lv_iload_n hx hb dX1_stockOf_4 rfl (lv_at hl 3 rfl) ?_
  refine lv_aload_n hx hb dX1_stockOf_5 rfl (lv_at hl 0 rfl) ?_
  refine g1_0 qb F hw tw_41 dX1_stockOf_6 ?_
  refine lv_icmp_ge (tgt := 35) hx hb dX1_stockOf_9 (by decide) (fun c1 => ?_) (fun c1 => ?_)
  · have hf := it_t hf c1
    refine lv_iload_n hx hb dX1_stockOf_35 rfl (lv_at hl 2 rfl) ?_
    exact x_iret F hw hr hk hf dX1_stockOf_36
  · have hf := it_f hf c1
    refine lv_iload_n hx hb dX1_stockOf_12 rfl (lv_at hl 1 rfl) ?_
    refine lv_iload_n hx hb dX1_stockOf_13 rfl (lv_at hl 3 rfl) ?_
    obtain ⟨r4, M3, hc2, hf⟩ := bd_some hf
    refine x_aftI hw (x_runN (rest := []) F hw hl.1 nn_RX1_66 (c5_isIn v1 v3 hc2) rfl rfl (Nat.le_of_ble_eq_true rfl) ⟨Nat.le_of_ble_eq_true rfl, Nat.le_of_ble_eq_true rfl⟩ dX1_stockOf_14) (fun H locs hw => ?_)
    refine lv_if_eq (tgt := 29) hx hb dX1_stockOf_17 (by decide) (fun c5 => ?_) (fun c5 => ?_)
    · have hf := it_t hf c5
      exact w1_stockOf_29 F hr hk b qb k4 hk4 v1 v2 v3 M3 _ _ ls hw (lv_sub hl [0, 1, 2, 3] rfl) hf
    · have hf := it_f hf c5
      refine lv_iload_n hx hb dX1_stockOf_20 rfl (lv_at hl 2 rfl) ?_
      refine lv_aload_n hx hb dX1_stockOf_21 rfl (lv_at hl 0 rfl) ?_
      refine g1_3 qb F hw tw_63 dX1_stockOf_22 ?_
      refine lv_iload_n hx hb dX1_stockOf_25 rfl (lv_at hl 3 rfl) ?_
      obtain ⟨g6, hf⟩ := gd_some hf
      refine x_iald F hw (sL3 qb) g6 dX1_stockOf_26 ?_
      refine lv_iadd hx hb dX1_stockOf_27 ?_
      obtain ⟨x7, ex7, hf⟩ := lt_elim hf
      refine x_let ex7 ?_
      refine lv_istore_n (lv' := [(2, .int x7), (0, .ref (G.2.1 b)), (1, .int v1), (3, .int v3)]) hx hb dX1_stockOf_28 rfl hl (by decide) rfl (fun ls hl => ?_)
      exact w1_stockOf_29 F hr hk b qb k4 hk4 v1 x7 v3 M3 _ _ ls hw (lv_sub hl [1, 2, 0, 3] rfl) hf
theorem z1_stockOf_4 {G : XG} {p : Program} {l : Launch} {e : Env} {s : State} {m : MethodId} {args : Array Value} {below : List Frame} {meth : Method} {c : Code} (F : Fx G ZX p m c cX1_stockOf 4 s args RX1) (hr : meth.sig.returnType = some .int) (hk : meth.locks = false) {r : Int32} {M' : SX} (b : Nat) (qb : isL b) : ∀ n : Nat, ∀ (v1 : Int32) (v2 : Int32) (v3 : Int32) (M : SX) (H : Heap) (locs : List Loc) (ls : Array Slot), Wld G ZX M s.heap H locs → lv_has ls 4 [(0, .ref (G.2.1 b)), (1, .int v1), (2, .int v2), (3, .int v3)] → xlp3 (p1_stockOf_4 b) n v1 v2 v3 M = some (r, M') → WXi G ZX p l e 1 s m args below meth c r M' H locs (F0 m 4 ls []) := by
  intro n
  induction n with
  | zero => intro _ _ _ _ _ _ _ _ _ hf; cases hf
  | succ n ih => exact w1_stockOf_4 F hr hk b qb (xlp3 (p1_stockOf_4 b) n) ih
def p1_stockOf (b : Nat) (a1 : Int32) (M : SX) : Option (Int32 × SX) :=
  xlp3 (p1_stockOf_4 b) FU a1 0 0 M
set_option maxHeartbeats 4000000 in
set_option maxRecDepth 100000 in
theorem c1_stockOf {l : Launch} {G : XG} {r : Int32} {M' : SX} {M : SX} (b : Nat) (qb : isL b) (a1 : Int32) (hf : p1_stockOf b a1 M = some (r, M')) : Met l yX1_stockOf (.code yX1_stockOf cX1_stockOf 4 (some .int) :: TBL) (rmX 1) (xPc G ZX M [.ref (G.2.1 b), .int a1]) (xQi G ZX r M') 0 0 (inA G ZX) := by
  refine x_met (cc := cX1_stockOf) (by decide) (Nat.le_of_ble_eq_true rfl) ?_
  intro p e s m below meth c ls F hr hk hl hw
  have F : Fx G ZX p m c cX1_stockOf 4 s [.ref (G.2.1 b), .int a1].toArray RX1 := F
  have hl : lv_has ls 4 [(0, .ref (G.2.1 b)), (1, .int a1)] := hl
  have hx := F.1.1
  have hb := F.1.2.1
  unfold p1_stockOf at hf
  refine lv_iconst (v := 0) hx hb dX1_stockOf_0 (by decide) ?_
  refine lv_istore_n (lv' := [(2, .int 0), (0, .ref (G.2.1 b)), (1, .int a1)]) hx hb dX1_stockOf_1 rfl hl (by decide) rfl (fun ls hl => ?_)
  refine lv_iconst (v := 0) hx hb dX1_stockOf_2 (by decide) ?_
  refine lv_istore_n (lv' := [(3, .int 0), (2, .int 0), (0, .ref (G.2.1 b)), (1, .int a1)]) hx hb dX1_stockOf_3 rfl hl (by decide) rfl (fun ls hl => ?_)
  exact z1_stockOf_4 F hr hk b qb FU a1 0 0 M _ _ ls hw (lv_sub hl [2, 3, 1, 0] rfl) hf
theorem dX1_howManyOf_0 : decode cX1_howManyOf 0 = .ok (.iconst 0, 1) := by decide +kernel
theorem dX1_howManyOf_1 : decode cX1_howManyOf 1 = .ok (.istore_n 2, 1) := by decide +kernel
theorem dX1_howManyOf_2 : decode cX1_howManyOf 2 = .ok (.iconst 0, 1) := by decide +kernel
theorem dX1_howManyOf_3 : decode cX1_howManyOf 3 = .ok (.istore_n 3, 1) := by decide +kernel
theorem dX1_howManyOf_4 : decode cX1_howManyOf 4 = .ok (.iload_n 3, 1) := by decide +kernel
theorem dX1_howManyOf_5 : decode cX1_howManyOf 5 = .ok (.aload_n 0, 1) := by decide +kernel
theorem dX1_howManyOf_6 : decode cX1_howManyOf 6 = .ok (.getfield 9, 3) := by decide +kernel
theorem dX1_howManyOf_9 : decode cX1_howManyOf 9 = .ok (.if_icmp .ge 25, 3) := by decide +kernel
theorem dX1_howManyOf_12 : decode cX1_howManyOf 12 = .ok (.aload_n 0, 1) := by decide +kernel
theorem dX1_howManyOf_13 : decode cX1_howManyOf 13 = .ok (.getfield 15, 3) := by decide +kernel
theorem dX1_howManyOf_16 : decode cX1_howManyOf 16 = .ok (.iload_n 3, 1) := by decide +kernel
theorem dX1_howManyOf_17 : decode cX1_howManyOf 17 = .ok (.iaload, 1) := by decide +kernel
theorem dX1_howManyOf_18 : decode cX1_howManyOf 18 = .ok (.iload_n 1, 1) := by decide +kernel
theorem dX1_howManyOf_19 : decode cX1_howManyOf 19 = .ok (.invokestatic 78, 3) := by decide +kernel
theorem dX1_howManyOf_22 : decode cX1_howManyOf 22 = .ok (.ifCond .eq 6, 3) := by decide +kernel
theorem dX1_howManyOf_25 : decode cX1_howManyOf 25 = .ok (.iinc 2 1, 3) := by decide +kernel
theorem dX1_howManyOf_28 : decode cX1_howManyOf 28 = .ok (.iinc 3 1, 3) := by decide +kernel
theorem dX1_howManyOf_31 : decode cX1_howManyOf 31 = .ok (.goto (-27), 3) := by decide +kernel
theorem dX1_howManyOf_34 : decode cX1_howManyOf 34 = .ok (.iload_n 2, 1) := by decide +kernel
theorem dX1_howManyOf_35 : decode cX1_howManyOf 35 = .ok (.ireturn, 1) := by decide +kernel
def p1_howManyOf_28 (b : Nat) (k4 : Int32 → Int32 → Int32 → SX → Option (Int32 × SX)) (v1 : Int32) (v2 : Int32) (v3 : Int32) (M : SX) : Option (Int32 × SX) :=
  lt_ (v3 + 1) (fun x1 => k4 v1 v2 x1 M)
set_option maxHeartbeats 4000000 in
set_option maxRecDepth 100000 in
theorem w1_howManyOf_28 {G : XG} {p : Program} {l : Launch} {e : Env} {s : State} {m : MethodId} {args : Array Value} {below : List Frame} {meth : Method} {c : Code} (F : Fx G ZX p m c cX1_howManyOf 4 s args RX1) (hr : meth.sig.returnType = some .int) (hk : meth.locks = false) {r : Int32} {M' : SX} (b : Nat) (qb : isL b) (k4 : Int32 → Int32 → Int32 → SX → Option (Int32 × SX)) (hk4 : ∀ (v1 : Int32) (v2 : Int32) (v3 : Int32) (M : SX) (H : Heap) (locs : List Loc) (ls : Array Slot), Wld G ZX M s.heap H locs → lv_has ls 4 [(0, .ref (G.2.1 b)), (1, .int v1), (2, .int v2), (3, .int v3)] → k4 v1 v2 v3 M = some (r, M') → WXi G ZX p l e 1 s m args below meth c r M' H locs (F0 m 4 ls [])) : ∀ (v1 : Int32) (v2 : Int32) (v3 : Int32) (M : SX) (H : Heap) (locs : List Loc) (ls : Array Slot), Wld G ZX M s.heap H locs → lv_has ls 4 [(0, .ref (G.2.1 b)), (1, .int v1), (2, .int v2), (3, .int v3)] → p1_howManyOf_28 b k4 v1 v2 v3 M = some (r, M') → WXi G ZX p l e 1 s m args below meth c r M' H locs (F0 m 28 ls []) := by
  intro v1 v2 v3 M H locs ls hw hl hf
  have hx := F.1.1
  have hb := F.1.2.1
  unfold p1_howManyOf_28 at hf
  obtain ⟨x1, ex1, hf⟩ := lt_elim hf
  refine lv_iinc (v := x1) (lv' := [(3, .int x1), (0, .ref (G.2.1 b)), (1, .int v1), (2, .int v2)]) hx hb dX1_howManyOf_28 hl (k := 3) rfl (by rw [ex1]; rfl) (by decide) rfl (fun ls hl => ?_)
  refine lv_goto (tgt := 4) hx hb dX1_howManyOf_31 (by decide) ?_
  exact hk4 v1 v2 x1 M _ _ ls hw (lv_sub hl [1, 2, 3, 0] rfl) hf
def p1_howManyOf_4 (b : Nat) (k4 : Int32 → Int32 → Int32 → SX → Option (Int32 × SX)) (v1 : Int32) (v2 : Int32) (v3 : Int32) (M : SX) : Option (Int32 × SX) :=
  if (M.1 b 0) ≤ v3 then (some (v2, M))
  else (gd (bIn v3 6) ( bd (p5_isOfKind (M.1 (b + 1) (Int32.toNatClampNeg v3)) v1 M) (fun r5 M4 => if r5 = 0 then (p1_howManyOf_28 b k4 v1 v2 v3 M4)
  else (lt_ (v2 + 1) (fun x7 => p1_howManyOf_28 b k4 v1 x7 v3 M4)))))
set_option maxHeartbeats 4000000 in
set_option maxRecDepth 100000 in
theorem w1_howManyOf_4 {G : XG} {p : Program} {l : Launch} {e : Env} {s : State} {m : MethodId} {args : Array Value} {below : List Frame} {meth : Method} {c : Code} (F : Fx G ZX p m c cX1_howManyOf 4 s args RX1) (hr : meth.sig.returnType = some .int) (hk : meth.locks = false) {r : Int32} {M' : SX} (b : Nat) (qb : isL b) (k4 : Int32 → Int32 → Int32 → SX → Option (Int32 × SX)) (hk4 : ∀ (v1 : Int32) (v2 : Int32) (v3 : Int32) (M : SX) (H : Heap) (locs : List Loc) (ls : Array Slot), Wld G ZX M s.heap H locs → lv_has ls 4 [(0, .ref (G.2.1 b)), (1, .int v1), (2, .int v2), (3, .int v3)] → k4 v1 v2 v3 M = some (r, M') → WXi G ZX p l e 1 s m args below meth c r M' H locs (F0 m 4 ls [])) : ∀ (v1 : Int32) (v2 : Int32) (v3 : Int32) (M : SX) (H : Heap) (locs : List Loc) (ls : Array Slot), Wld G ZX M s.heap H locs → lv_has ls 4 [(0, .ref (G.2.1 b)), (1, .int v1), (2, .int v2), (3, .int v3)] → p1_howManyOf_4 b k4 v1 v2 v3 M = some (r, M') → WXi G ZX p l e 1 s m args below meth c r M' H locs (F0 m 4 ls []) := by
  intro v1 v2 v3 M H locs ls hw hl hf
  have hx := F.1.1
  have hb := F.1.2.1
  unfold p1_howManyOf_4 at hf
  refine lv_iload_n hx hb dX1_howManyOf_4 rfl (lv_at hl 3 rfl) ?_
  refine lv_aload_n hx hb dX1_howManyOf_5 rfl (lv_at hl 0 rfl) ?_
  refine g1_0 qb F hw tw_41 dX1_howManyOf_6 ?_
  refine lv_icmp_ge (tgt := 34) hx hb dX1_howManyOf_9 (by decide) (fun c1 => ?_) (fun c1 => ?_)
  · have hf := it_t hf c1
    refine lv_iload_n hx hb dX1_howManyOf_34 rfl (lv_at hl 2 rfl) ?_
    exact x_iret F hw hr hk hf dX1_howManyOf_35
  · have hf := it_f hf c1
    refine lv_aload_n hx hb dX1_howManyOf_12 rfl (lv_at hl 0 rfl) ?_
    refine g1_1 qb F hw tw_64 dX1_howManyOf_13 ?_
    refine lv_iload_n hx hb dX1_howManyOf_16 rfl (lv_at hl 3 rfl) ?_
    obtain ⟨g2, hf⟩ := gd_some hf
    refine x_iald F hw (sL1 qb) g2 dX1_howManyOf_17 ?_
    refine lv_iload_n hx hb dX1_howManyOf_18 rfl (lv_at hl 1 rfl) ?_
    obtain ⟨r5, M4, hc3, hf⟩ := bd_some hf
    refine x_aftI hw (x_runN (rest := []) F hw hl.1 nn_RX1_78 (c5_isOfKind (M.1 (b + 1) (Int32.toNatClampNeg v3)) v1 hc3) rfl rfl (Nat.le_of_ble_eq_true rfl) ⟨Nat.le_of_ble_eq_true rfl, Nat.le_of_ble_eq_true rfl⟩ dX1_howManyOf_19) (fun H locs hw => ?_)
    refine lv_if_eq (tgt := 28) hx hb dX1_howManyOf_22 (by decide) (fun c6 => ?_) (fun c6 => ?_)
    · have hf := it_t hf c6
      exact w1_howManyOf_28 F hr hk b qb k4 hk4 v1 v2 v3 M4 _ _ ls hw (lv_sub hl [0, 1, 2, 3] rfl) hf
    · have hf := it_f hf c6
      obtain ⟨x7, ex7, hf⟩ := lt_elim hf
      refine lv_iinc (v := x7) (lv' := [(2, .int x7), (0, .ref (G.2.1 b)), (1, .int v1), (3, .int v3)]) hx hb dX1_howManyOf_25 hl (k := 2) rfl (by rw [ex7]; rfl) (by decide) rfl (fun ls hl => ?_)
      exact w1_howManyOf_28 F hr hk b qb k4 hk4 v1 x7 v3 M4 _ _ ls hw (lv_sub hl [1, 2, 0, 3] rfl) hf
theorem z1_howManyOf_4 {G : XG} {p : Program} {l : Launch} {e : Env} {s : State} {m : MethodId} {args : Array Value} {below : List Frame} {meth : Method} {c : Code} (F : Fx G ZX p m c cX1_howManyOf 4 s args RX1) (hr : meth.sig.returnType = some .int) (hk : meth.locks = false) {r : Int32} {M' : SX} (b : Nat) (qb : isL b) : ∀ n : Nat, ∀ (v1 : Int32) (v2 : Int32) (v3 : Int32) (M : SX) (H : Heap) (locs : List Loc) (ls : Array Slot), Wld G ZX M s.heap H locs → lv_has ls 4 [(0, .ref (G.2.1 b)), (1, .int v1), (2, .int v2), (3, .int v3)] → xlp3 (p1_howManyOf_4 b) n v1 v2 v3 M = some (r, M') → WXi G ZX p l e 1 s m args below meth c r M' H locs (F0 m 4 ls []) := by
  intro n
  induction n with
  | zero => intro _ _ _ _ _ _ _ _ _ hf; cases hf
  | succ n ih => exact w1_howManyOf_4 F hr hk b qb (xlp3 (p1_howManyOf_4 b) n) ih
def p1_howManyOf (b : Nat) (a1 : Int32) (M : SX) : Option (Int32 × SX) :=
  xlp3 (p1_howManyOf_4 b) FU a1 0 0 M
set_option maxHeartbeats 4000000 in
set_option maxRecDepth 100000 in
theorem c1_howManyOf {l : Launch} {G : XG} {r : Int32} {M' : SX} {M : SX} (b : Nat) (qb : isL b) (a1 : Int32) (hf : p1_howManyOf b a1 M = some (r, M')) : Met l yX1_howManyOf (.code yX1_howManyOf cX1_howManyOf 4 (some .int) :: TBL) (rmX 1) (xPc G ZX M [.ref (G.2.1 b), .int a1]) (xQi G ZX r M') 0 0 (inA G ZX) := by
  refine x_met (cc := cX1_howManyOf) (by decide) (Nat.le_of_ble_eq_true rfl) ?_
  intro p e s m below meth c ls F hr hk hl hw
  have F : Fx G ZX p m c cX1_howManyOf 4 s [.ref (G.2.1 b), .int a1].toArray RX1 := F
  have hl : lv_has ls 4 [(0, .ref (G.2.1 b)), (1, .int a1)] := hl
  have hx := F.1.1
  have hb := F.1.2.1
  unfold p1_howManyOf at hf
  refine lv_iconst (v := 0) hx hb dX1_howManyOf_0 (by decide) ?_
  refine lv_istore_n (lv' := [(2, .int 0), (0, .ref (G.2.1 b)), (1, .int a1)]) hx hb dX1_howManyOf_1 rfl hl (by decide) rfl (fun ls hl => ?_)
  refine lv_iconst (v := 0) hx hb dX1_howManyOf_2 (by decide) ?_
  refine lv_istore_n (lv' := [(3, .int 0), (2, .int 0), (0, .ref (G.2.1 b)), (1, .int a1)]) hx hb dX1_howManyOf_3 rfl hl (by decide) rfl (fun ls hl => ?_)
  exact z1_howManyOf_4 F hr hk b qb FU a1 0 0 M _ _ ls hw (lv_sub hl [2, 3, 1, 0] rfl) hf
theorem dX1_oldestTicket_0 : decode cX1_oldestTicket 0 = .ok (.iconst 0, 1) := by decide +kernel
theorem dX1_oldestTicket_1 : decode cX1_oldestTicket 1 = .ok (.istore_n 1, 1) := by decide +kernel
theorem dX1_oldestTicket_2 : decode cX1_oldestTicket 2 = .ok (.iconst 0, 1) := by decide +kernel
theorem dX1_oldestTicket_3 : decode cX1_oldestTicket 3 = .ok (.istore_n 2, 1) := by decide +kernel
theorem dX1_oldestTicket_4 : decode cX1_oldestTicket 4 = .ok (.iload_n 2, 1) := by decide +kernel
theorem dX1_oldestTicket_5 : decode cX1_oldestTicket 5 = .ok (.aload_n 0, 1) := by decide +kernel
theorem dX1_oldestTicket_6 : decode cX1_oldestTicket 6 = .ok (.getfield 9, 3) := by decide +kernel
theorem dX1_oldestTicket_9 : decode cX1_oldestTicket 9 = .ok (.if_icmp .ge 20, 3) := by decide +kernel
theorem dX1_oldestTicket_12 : decode cX1_oldestTicket 12 = .ok (.iload_n 1, 1) := by decide +kernel
theorem dX1_oldestTicket_13 : decode cX1_oldestTicket 13 = .ok (.aload_n 0, 1) := by decide +kernel
theorem dX1_oldestTicket_14 : decode cX1_oldestTicket 14 = .ok (.getfield 31, 3) := by decide +kernel
theorem dX1_oldestTicket_17 : decode cX1_oldestTicket 17 = .ok (.iload_n 2, 1) := by decide +kernel
theorem dX1_oldestTicket_18 : decode cX1_oldestTicket 18 = .ok (.iaload, 1) := by decide +kernel
theorem dX1_oldestTicket_19 : decode cX1_oldestTicket 19 = .ok (.invokestatic 81, 3) := by decide +kernel
theorem dX1_oldestTicket_22 : decode cX1_oldestTicket 22 = .ok (.istore_n 1, 1) := by decide +kernel
theorem dX1_oldestTicket_23 : decode cX1_oldestTicket 23 = .ok (.iinc 2 1, 3) := by decide +kernel
theorem dX1_oldestTicket_26 : decode cX1_oldestTicket 26 = .ok (.goto (-22), 3) := by decide +kernel
theorem dX1_oldestTicket_29 : decode cX1_oldestTicket 29 = .ok (.iload_n 1, 1) := by decide +kernel
theorem dX1_oldestTicket_30 : decode cX1_oldestTicket 30 = .ok (.ireturn, 1) := by decide +kernel
def p1_oldestTicket_4 (b : Nat) (k4 : Int32 → Int32 → SX → Option (Int32 × SX)) (v1 : Int32) (v2 : Int32) (M : SX) : Option (Int32 × SX) :=
  if (M.1 b 0) ≤ v2 then (some (v1, M))
  else (gd (bIn v2 6) ( lt_ (jmax v1 (M.1 (b + 6) (Int32.toNatClampNeg v2))) (fun x3 => lt_ (v2 + 1) (fun x4 => k4 x3 x4 M))))
set_option maxHeartbeats 4000000 in
set_option maxRecDepth 100000 in
theorem w1_oldestTicket_4 {G : XG} {p : Program} {l : Launch} {e : Env} {s : State} {m : MethodId} {args : Array Value} {below : List Frame} {meth : Method} {c : Code} (F : Fx G ZX p m c cX1_oldestTicket 3 s args RX1) (hr : meth.sig.returnType = some .int) (hk : meth.locks = false) {r : Int32} {M' : SX} (b : Nat) (qb : isL b) (k4 : Int32 → Int32 → SX → Option (Int32 × SX)) (hk4 : ∀ (v1 : Int32) (v2 : Int32) (M : SX) (H : Heap) (locs : List Loc) (ls : Array Slot), Wld G ZX M s.heap H locs → lv_has ls 3 [(0, .ref (G.2.1 b)), (1, .int v1), (2, .int v2)] → k4 v1 v2 M = some (r, M') → WXi G ZX p l e 1 s m args below meth c r M' H locs (F0 m 4 ls [])) : ∀ (v1 : Int32) (v2 : Int32) (M : SX) (H : Heap) (locs : List Loc) (ls : Array Slot), Wld G ZX M s.heap H locs → lv_has ls 3 [(0, .ref (G.2.1 b)), (1, .int v1), (2, .int v2)] → p1_oldestTicket_4 b k4 v1 v2 M = some (r, M') → WXi G ZX p l e 1 s m args below meth c r M' H locs (F0 m 4 ls []) := by
  intro v1 v2 M H locs ls hw hl hf
  have hx := F.1.1
  have hb := F.1.2.1
  unfold p1_oldestTicket_4 at hf
  refine lv_iload_n hx hb dX1_oldestTicket_4 rfl (lv_at hl 2 rfl) ?_
  refine lv_aload_n hx hb dX1_oldestTicket_5 rfl (lv_at hl 0 rfl) ?_
  refine g1_0 qb F hw tw_41 dX1_oldestTicket_6 ?_
  refine lv_icmp_ge (tgt := 29) hx hb dX1_oldestTicket_9 (by decide) (fun c1 => ?_) (fun c1 => ?_)
  · have hf := it_t hf c1
    refine lv_iload_n hx hb dX1_oldestTicket_29 rfl (lv_at hl 1 rfl) ?_
    exact x_iret F hw hr hk hf dX1_oldestTicket_30
  · have hf := it_f hf c1
    refine lv_iload_n hx hb dX1_oldestTicket_12 rfl (lv_at hl 1 rfl) ?_
    refine lv_aload_n hx hb dX1_oldestTicket_13 rfl (lv_at hl 0 rfl) ?_
    refine g1_6 qb F hw tw_46 dX1_oldestTicket_14 ?_
    refine lv_iload_n hx hb dX1_oldestTicket_17 rfl (lv_at hl 2 rfl) ?_
    obtain ⟨g2, hf⟩ := gd_some hf
    refine x_iald F hw (sL6 qb) g2 dX1_oldestTicket_18 ?_
    refine x_max F hl.1 tw_68 tw_5 tw_6 tw_7 (Nat.le_of_ble_eq_true rfl) (Nat.le_of_ble_eq_true rfl) dX1_oldestTicket_19 ?_
    obtain ⟨x3, ex3, hf⟩ := lt_elim hf
    refine x_let ex3 ?_
    refine lv_istore_n (lv' := [(1, .int x3), (0, .ref (G.2.1 b)), (2, .int v2)]) hx hb dX1_oldestTicket_22 rfl hl (by decide) rfl (fun ls hl => ?_)
    obtain ⟨x4, ex4, hf⟩ := lt_elim hf
    refine lv_iinc (v := x4) (lv' := [(2, .int x4), (1, .int x3), (0, .ref (G.2.1 b))]) hx hb dX1_oldestTicket_23 hl (k := 2) rfl (by rw [ex4]; rfl) (by decide) rfl (fun ls hl => ?_)
    refine lv_goto (tgt := 4) hx hb dX1_oldestTicket_26 (by decide) ?_
    exact hk4 x3 x4 M _ _ ls hw (lv_sub hl [2, 1, 0] rfl) hf
theorem z1_oldestTicket_4 {G : XG} {p : Program} {l : Launch} {e : Env} {s : State} {m : MethodId} {args : Array Value} {below : List Frame} {meth : Method} {c : Code} (F : Fx G ZX p m c cX1_oldestTicket 3 s args RX1) (hr : meth.sig.returnType = some .int) (hk : meth.locks = false) {r : Int32} {M' : SX} (b : Nat) (qb : isL b) : ∀ n : Nat, ∀ (v1 : Int32) (v2 : Int32) (M : SX) (H : Heap) (locs : List Loc) (ls : Array Slot), Wld G ZX M s.heap H locs → lv_has ls 3 [(0, .ref (G.2.1 b)), (1, .int v1), (2, .int v2)] → xlp2 (p1_oldestTicket_4 b) n v1 v2 M = some (r, M') → WXi G ZX p l e 1 s m args below meth c r M' H locs (F0 m 4 ls []) := by
  intro n
  induction n with
  | zero => intro _ _ _ _ _ _ _ _ hf; cases hf
  | succ n ih => exact w1_oldestTicket_4 F hr hk b qb (xlp2 (p1_oldestTicket_4 b) n) ih
def p1_oldestTicket (b : Nat) (M : SX) : Option (Int32 × SX) :=
  xlp2 (p1_oldestTicket_4 b) FU 0 0 M
set_option maxHeartbeats 4000000 in
set_option maxRecDepth 100000 in
theorem c1_oldestTicket {l : Launch} {G : XG} {r : Int32} {M' : SX} {M : SX} (b : Nat) (qb : isL b) (hf : p1_oldestTicket b M = some (r, M')) : Met l yX1_oldestTicket (.code yX1_oldestTicket cX1_oldestTicket 3 (some .int) :: TBL) (rmX 1) (xPc G ZX M [.ref (G.2.1 b)]) (xQi G ZX r M') 0 0 (inA G ZX) := by
  refine x_met (cc := cX1_oldestTicket) (by decide) (Nat.le_of_ble_eq_true rfl) ?_
  intro p e s m below meth c ls F hr hk hl hw
  have F : Fx G ZX p m c cX1_oldestTicket 3 s [.ref (G.2.1 b)].toArray RX1 := F
  have hl : lv_has ls 3 [(0, .ref (G.2.1 b))] := hl
  have hx := F.1.1
  have hb := F.1.2.1
  unfold p1_oldestTicket at hf
  refine lv_iconst (v := 0) hx hb dX1_oldestTicket_0 (by decide) ?_
  refine lv_istore_n (lv' := [(1, .int 0), (0, .ref (G.2.1 b))]) hx hb dX1_oldestTicket_1 rfl hl (by decide) rfl (fun ls hl => ?_)
  refine lv_iconst (v := 0) hx hb dX1_oldestTicket_2 (by decide) ?_
  refine lv_istore_n (lv' := [(2, .int 0), (1, .int 0), (0, .ref (G.2.1 b))]) hx hb dX1_oldestTicket_3 rfl hl (by decide) rfl (fun ls hl => ?_)
  exact z1_oldestTicket_4 F hr hk b qb FU 0 0 M _ _ ls hw (lv_sub hl [2, 1, 0] rfl) hf
theorem dX1_ringOf_0 : decode cX1_ringOf 0 = .ok (.iconst 0, 1) := by decide +kernel
theorem dX1_ringOf_1 : decode cX1_ringOf 1 = .ok (.istore_n 2, 1) := by decide +kernel
theorem dX1_ringOf_2 : decode cX1_ringOf 2 = .ok (.iload_n 1, 1) := by decide +kernel
theorem dX1_ringOf_3 : decode cX1_ringOf 3 = .ok (.istore_n 3, 1) := by decide +kernel
theorem dX1_ringOf_4 : decode cX1_ringOf 4 = .ok (.iconst 0, 1) := by decide +kernel
theorem dX1_ringOf_5 : decode cX1_ringOf 5 = .ok (.istore 4, 2) := by decide +kernel
theorem dX1_ringOf_7 : decode cX1_ringOf 7 = .ok (.iload 4, 2) := by decide +kernel
theorem dX1_ringOf_9 : decode cX1_ringOf 9 = .ok (.aload_n 0, 1) := by decide +kernel
theorem dX1_ringOf_10 : decode cX1_ringOf 10 = .ok (.getfield 9, 3) := by decide +kernel
theorem dX1_ringOf_13 : decode cX1_ringOf 13 = .ok (.if_icmp .ge 37, 3) := by decide +kernel
theorem dX1_ringOf_16 : decode cX1_ringOf 16 = .ok (.aload_n 0, 1) := by decide +kernel
theorem dX1_ringOf_17 : decode cX1_ringOf 17 = .ok (.iload_n 3, 1) := by decide +kernel
theorem dX1_ringOf_18 : decode cX1_ringOf 18 = .ok (.invokevirtual 62, 3) := by decide +kernel
theorem dX1_ringOf_21 : decode cX1_ringOf 21 = .ok (.ifCond .eq 29, 3) := by decide +kernel
theorem dX1_ringOf_24 : decode cX1_ringOf 24 = .ok (.iload_n 2, 1) := by decide +kernel
theorem dX1_ringOf_25 : decode cX1_ringOf 25 = .ok (.iconst 1, 1) := by decide +kernel
theorem dX1_ringOf_26 : decode cX1_ringOf 26 = .ok (.iload_n 3, 1) := by decide +kernel
theorem dX1_ringOf_27 : decode cX1_ringOf 27 = .ok (.ishl, 1) := by decide +kernel
theorem dX1_ringOf_28 : decode cX1_ringOf 28 = .ok (.ior, 1) := by decide +kernel
theorem dX1_ringOf_29 : decode cX1_ringOf 29 = .ok (.istore_n 2, 1) := by decide +kernel
theorem dX1_ringOf_30 : decode cX1_ringOf 30 = .ok (.aload_n 0, 1) := by decide +kernel
theorem dX1_ringOf_31 : decode cX1_ringOf 31 = .ok (.getfield 25, 3) := by decide +kernel
theorem dX1_ringOf_34 : decode cX1_ringOf 34 = .ok (.iload_n 3, 1) := by decide +kernel
theorem dX1_ringOf_35 : decode cX1_ringOf 35 = .ok (.iaload, 1) := by decide +kernel
theorem dX1_ringOf_36 : decode cX1_ringOf 36 = .ok (.istore_n 3, 1) := by decide +kernel
theorem dX1_ringOf_37 : decode cX1_ringOf 37 = .ok (.iload_n 3, 1) := by decide +kernel
theorem dX1_ringOf_38 : decode cX1_ringOf 38 = .ok (.iload_n 1, 1) := by decide +kernel
theorem dX1_ringOf_39 : decode cX1_ringOf 39 = .ok (.if_icmp .ne 5, 3) := by decide +kernel
theorem dX1_ringOf_42 : decode cX1_ringOf 42 = .ok (.iload_n 2, 1) := by decide +kernel
theorem dX1_ringOf_43 : decode cX1_ringOf 43 = .ok (.ireturn, 1) := by decide +kernel
theorem dX1_ringOf_44 : decode cX1_ringOf 44 = .ok (.iinc 4 1, 3) := by decide +kernel
theorem dX1_ringOf_47 : decode cX1_ringOf 47 = .ok (.goto (-40), 3) := by decide +kernel
theorem dX1_ringOf_50 : decode cX1_ringOf 50 = .ok (.iconst 0, 1) := by decide +kernel
theorem dX1_ringOf_51 : decode cX1_ringOf 51 = .ok (.ireturn, 1) := by decide +kernel
def p1_ringOf_7 (b : Nat) (k7 : Int32 → Int32 → Int32 → Int32 → SX → Option (Int32 × SX)) (v1 : Int32) (v2 : Int32) (v3 : Int32) (v4 : Int32) (M : SX) : Option (Int32 × SX) :=
  if (M.1 b 0) ≤ v4 then (some (0, M))
  else (bd (p1_isPawned b v3 M) (fun r4 M3 => if r4 = 0 then (some (0, M3))
  else (lt_ (v2 ||| ((1 : Int32) <<< (v3 &&& 31))) (fun x6 => gd (bIn v3 6) ( lt_ (M3.1 (b + 4) (Int32.toNatClampNeg v3)) (fun x8 => if x8 = v1 then (some (x6, M3))
  else (lt_ (v4 + 1) (fun x10 => k7 v1 x6 x8 x10 M3))))))))
set_option maxHeartbeats 4000000 in
set_option maxRecDepth 100000 in
theorem w1_ringOf_7 {G : XG} {p : Program} {l : Launch} {e : Env} {s : State} {m : MethodId} {args : Array Value} {below : List Frame} {meth : Method} {c : Code} (F : Fx G ZX p m c cX1_ringOf 5 s args RX1) (hr : meth.sig.returnType = some .int) (hk : meth.locks = false) {r : Int32} {M' : SX} (b : Nat) (qb : isL b) (k7 : Int32 → Int32 → Int32 → Int32 → SX → Option (Int32 × SX)) (hk7 : ∀ (v1 : Int32) (v2 : Int32) (v3 : Int32) (v4 : Int32) (M : SX) (H : Heap) (locs : List Loc) (ls : Array Slot), Wld G ZX M s.heap H locs → lv_has ls 5 [(0, .ref (G.2.1 b)), (1, .int v1), (2, .int v2), (3, .int v3), (4, .int v4)] → k7 v1 v2 v3 v4 M = some (r, M') → WXi G ZX p l e 1 s m args below meth c r M' H locs (F0 m 7 ls [])) : ∀ (v1 : Int32) (v2 : Int32) (v3 : Int32) (v4 : Int32) (M : SX) (H : Heap) (locs : List Loc) (ls : Array Slot), Wld G ZX M s.heap H locs → lv_has ls 5 [(0, .ref (G.2.1 b)), (1, .int v1), (2, .int v2), (3, .int v3), (4, .int v4)] → p1_ringOf_7 b k7 v1 v2 v3 v4 M = some (r, M') → WXi G ZX p l e 1 s m args below meth c r M' H locs (F0 m 7 ls []) := by
  intro v1 v2 v3 v4 M H locs ls hw hl hf
  have hx := F.1.1
  have hb := F.1.2.1
  unfold p1_ringOf_7 at hf
  refine lv_iload hx hb dX1_ringOf_7 (lv_at hl 4 rfl) ?_
  refine lv_aload_n hx hb dX1_ringOf_9 rfl (lv_at hl 0 rfl) ?_
  refine g1_0 qb F hw tw_41 dX1_ringOf_10 ?_
  refine lv_icmp_ge (tgt := 50) hx hb dX1_ringOf_13 (by decide) (fun c1 => ?_) (fun c1 => ?_)
  · have hf := it_t hf c1
    refine lv_iconst (v := 0) hx hb dX1_ringOf_50 (by decide) ?_
    exact x_iret F hw hr hk hf dX1_ringOf_51
  · have hf := it_f hf c1
    refine lv_aload_n hx hb dX1_ringOf_16 rfl (lv_at hl 0 rfl) ?_
    refine lv_iload_n hx hb dX1_ringOf_17 rfl (lv_at hl 3 rfl) ?_
    obtain ⟨r4, M3, hc2, hf⟩ := bd_some hf
    refine x_aftI hw (x_runV (rest := []) F hw hl.1 vw_RX1_62 (sL qb) rfl (c1_isPawned b qb v3 hc2) rfl rfl (Nat.le_of_ble_eq_true rfl) ⟨Nat.le_of_ble_eq_true rfl, Nat.le_of_ble_eq_true rfl⟩ dX1_ringOf_18) (fun H locs hw => ?_)
    refine lv_if_eq (tgt := 50) hx hb dX1_ringOf_21 (by decide) (fun c5 => ?_) (fun c5 => ?_)
    · have hf := it_t hf c5
      refine lv_iconst (v := 0) hx hb dX1_ringOf_50 (by decide) ?_
      exact x_iret F hw hr hk hf dX1_ringOf_51
    · have hf := it_f hf c5
      refine lv_iload_n hx hb dX1_ringOf_24 rfl (lv_at hl 2 rfl) ?_
      refine lv_iconst (v := 1) hx hb dX1_ringOf_25 (by decide) ?_
      refine lv_iload_n hx hb dX1_ringOf_26 rfl (lv_at hl 3 rfl) ?_
      refine lv_ishl hx hb dX1_ringOf_27 ?_
      refine lv_ior hx hb dX1_ringOf_28 ?_
      obtain ⟨x6, ex6, hf⟩ := lt_elim hf
      refine x_let ex6 ?_
      refine lv_istore_n (lv' := [(2, .int x6), (0, .ref (G.2.1 b)), (1, .int v1), (3, .int v3), (4, .int v4)]) hx hb dX1_ringOf_29 rfl hl (by decide) rfl (fun ls hl => ?_)
      refine lv_aload_n hx hb dX1_ringOf_30 rfl (lv_at hl 1 rfl) ?_
      refine g1_4 qb F hw tw_44 dX1_ringOf_31 ?_
      refine lv_iload_n hx hb dX1_ringOf_34 rfl (lv_at hl 3 rfl) ?_
      obtain ⟨g7, hf⟩ := gd_some hf
      refine x_iald F hw (sL4 qb) g7 dX1_ringOf_35 ?_
      obtain ⟨x8, ex8, hf⟩ := lt_elim hf
      refine x_let ex8 ?_
      refine lv_istore_n (lv' := [(3, .int x8), (2, .int x6), (0, .ref (G.2.1 b)), (1, .int v1), (4, .int v4)]) hx hb dX1_ringOf_36 rfl hl (by decide) rfl (fun ls hl => ?_)
      refine lv_iload_n hx hb dX1_ringOf_37 rfl (lv_at hl 0 rfl) ?_
      refine lv_iload_n hx hb dX1_ringOf_38 rfl (lv_at hl 3 rfl) ?_
      refine lv_icmp_ne (tgt := 44) hx hb dX1_ringOf_39 (by decide) (fun c9 => ?_) (fun c9 => ?_)
      · have hf := it_f hf c9
        obtain ⟨x10, ex10, hf⟩ := lt_elim hf
        refine lv_iinc (v := x10) (lv' := [(4, .int x10), (3, .int x8), (2, .int x6), (0, .ref (G.2.1 b)), (1, .int v1)]) hx hb dX1_ringOf_44 hl (k := 4) rfl (by rw [ex10]; rfl) (by decide) rfl (fun ls hl => ?_)
        refine lv_goto (tgt := 7) hx hb dX1_ringOf_47 (by decide) ?_
        exact hk7 v1 x6 x8 x10 M3 _ _ ls hw (lv_sub hl [3, 4, 2, 1, 0] rfl) hf
      · have hf := it_t hf c9
        refine lv_iload_n hx hb dX1_ringOf_42 rfl (lv_at hl 1 rfl) ?_
        exact x_iret F hw hr hk hf dX1_ringOf_43
theorem z1_ringOf_7 {G : XG} {p : Program} {l : Launch} {e : Env} {s : State} {m : MethodId} {args : Array Value} {below : List Frame} {meth : Method} {c : Code} (F : Fx G ZX p m c cX1_ringOf 5 s args RX1) (hr : meth.sig.returnType = some .int) (hk : meth.locks = false) {r : Int32} {M' : SX} (b : Nat) (qb : isL b) : ∀ n : Nat, ∀ (v1 : Int32) (v2 : Int32) (v3 : Int32) (v4 : Int32) (M : SX) (H : Heap) (locs : List Loc) (ls : Array Slot), Wld G ZX M s.heap H locs → lv_has ls 5 [(0, .ref (G.2.1 b)), (1, .int v1), (2, .int v2), (3, .int v3), (4, .int v4)] → xlp4 (p1_ringOf_7 b) n v1 v2 v3 v4 M = some (r, M') → WXi G ZX p l e 1 s m args below meth c r M' H locs (F0 m 7 ls []) := by
  intro n
  induction n with
  | zero => intro _ _ _ _ _ _ _ _ _ _ hf; cases hf
  | succ n ih => exact w1_ringOf_7 F hr hk b qb (xlp4 (p1_ringOf_7 b) n) ih
def p1_ringOf (b : Nat) (a1 : Int32) (M : SX) : Option (Int32 × SX) :=
  xlp4 (p1_ringOf_7 b) FU a1 0 a1 0 M
set_option maxHeartbeats 4000000 in
set_option maxRecDepth 100000 in
theorem c1_ringOf {l : Launch} {G : XG} {r : Int32} {M' : SX} {M : SX} (b : Nat) (qb : isL b) (a1 : Int32) (hf : p1_ringOf b a1 M = some (r, M')) : Met l yX1_ringOf (.code yX1_ringOf cX1_ringOf 5 (some .int) :: TBL) (rmX 1) (xPc G ZX M [.ref (G.2.1 b), .int a1]) (xQi G ZX r M') 0 0 (inA G ZX) := by
  refine x_met (cc := cX1_ringOf) (by decide) (Nat.le_of_ble_eq_true rfl) ?_
  intro p e s m below meth c ls F hr hk hl hw
  have F : Fx G ZX p m c cX1_ringOf 5 s [.ref (G.2.1 b), .int a1].toArray RX1 := F
  have hl : lv_has ls 5 [(0, .ref (G.2.1 b)), (1, .int a1)] := hl
  have hx := F.1.1
  have hb := F.1.2.1
  unfold p1_ringOf at hf
  refine lv_iconst (v := 0) hx hb dX1_ringOf_0 (by decide) ?_
  refine lv_istore_n (lv' := [(2, .int 0), (0, .ref (G.2.1 b)), (1, .int a1)]) hx hb dX1_ringOf_1 rfl hl (by decide) rfl (fun ls hl => ?_)
  refine lv_iload_n hx hb dX1_ringOf_2 rfl (lv_at hl 2 rfl) ?_
  refine lv_istore_n (lv' := [(3, .int a1), (2, .int 0), (0, .ref (G.2.1 b)), (1, .int a1)]) hx hb dX1_ringOf_3 rfl hl (by decide) rfl (fun ls hl => ?_)
  refine lv_iconst (v := 0) hx hb dX1_ringOf_4 (by decide) ?_
  refine lv_istore (lv' := [(4, .int 0), (3, .int a1), (2, .int 0), (0, .ref (G.2.1 b)), (1, .int a1)]) hx hb dX1_ringOf_5 hl (by decide) rfl (fun ls hl => ?_)
  exact z1_ringOf_7 F hr hk b qb FU a1 0 a1 0 M _ _ ls hw (lv_sub hl [3, 4, 2, 1, 0] rfl) hf
theorem dX1_canPawn_0 : decode cX1_canPawn 0 = .ok (.iload_n 1, 1) := by decide +kernel
theorem dX1_canPawn_1 : decode cX1_canPawn 1 = .ok (.iload_n 2, 1) := by decide +kernel
theorem dX1_canPawn_2 : decode cX1_canPawn 2 = .ok (.if_icmp .eq 25, 3) := by decide +kernel
theorem dX1_canPawn_5 : decode cX1_canPawn 5 = .ok (.aload_n 0, 1) := by decide +kernel
theorem dX1_canPawn_6 : decode cX1_canPawn 6 = .ok (.iload_n 1, 1) := by decide +kernel
theorem dX1_canPawn_7 : decode cX1_canPawn 7 = .ok (.invokevirtual 62, 3) := by decide +kernel
theorem dX1_canPawn_10 : decode cX1_canPawn 10 = .ok (.ifCond .ne 17, 3) := by decide +kernel
theorem dX1_canPawn_13 : decode cX1_canPawn 13 = .ok (.aload_n 0, 1) := by decide +kernel
theorem dX1_canPawn_14 : decode cX1_canPawn 14 = .ok (.getfield 19, 3) := by decide +kernel
theorem dX1_canPawn_17 : decode cX1_canPawn 17 = .ok (.iload_n 2, 1) := by decide +kernel
theorem dX1_canPawn_18 : decode cX1_canPawn 18 = .ok (.iaload, 1) := by decide +kernel
theorem dX1_canPawn_19 : decode cX1_canPawn 19 = .ok (.iload_n 3, 1) := by decide +kernel
theorem dX1_canPawn_20 : decode cX1_canPawn 20 = .ok (.if_icmp .lt 7, 3) := by decide +kernel
theorem dX1_canPawn_23 : decode cX1_canPawn 23 = .ok (.iconst 1, 1) := by decide +kernel
theorem dX1_canPawn_24 : decode cX1_canPawn 24 = .ok (.goto 4, 3) := by decide +kernel
theorem dX1_canPawn_27 : decode cX1_canPawn 27 = .ok (.iconst 0, 1) := by decide +kernel
theorem dX1_canPawn_28 : decode cX1_canPawn 28 = .ok (.ireturn, 1) := by decide +kernel
def p1_canPawn (b : Nat) (a1 : Int32) (a2 : Int32) (a3 : Int32) (M : SX) : Option (Int32 × SX) :=
  if a1 = a2 then (some (0, M))
  else (bd (p1_isPawned b a1 M) (fun r4 M3 => if r4 = 0 then (gd (bIn a2 6) ( if (M3.1 (b + 2) (Int32.toNatClampNeg a2)) < a3 then (some (0, M3))
  else (some (1, M3))))
  else (some (0, M3))))
set_option maxHeartbeats 4000000 in
set_option maxRecDepth 100000 in
theorem c1_canPawn {l : Launch} {G : XG} {r : Int32} {M' : SX} {M : SX} (b : Nat) (qb : isL b) (a1 : Int32) (a2 : Int32) (a3 : Int32) (hf : p1_canPawn b a1 a2 a3 M = some (r, M')) : Met l yX1_canPawn (.code yX1_canPawn cX1_canPawn 4 (some .boolean) :: TBL) (rmX 1) (xPc G ZX M [.ref (G.2.1 b), .int a1, .int a2, .int a3]) (xQi G ZX r M') 0 0 (inA G ZX) := by
  refine x_met (cc := cX1_canPawn) (by decide) (Nat.le_of_ble_eq_true rfl) ?_
  intro p e s m below meth c ls F hr hk hl hw
  have F : Fx G ZX p m c cX1_canPawn 4 s [.ref (G.2.1 b), .int a1, .int a2, .int a3].toArray RX1 := F
  have hl : lv_has ls 4 [(0, .ref (G.2.1 b)), (1, .int a1), (2, .int a2), (3, .int a3)] := hl
  have hx := F.1.1
  have hb := F.1.2.1
  unfold p1_canPawn at hf
  refine lv_iload_n hx hb dX1_canPawn_0 rfl (lv_at hl 1 rfl) ?_
  refine lv_iload_n hx hb dX1_canPawn_1 rfl (lv_at hl 2 rfl) ?_
  refine lv_icmp_eq (tgt := 27) hx hb dX1_canPawn_2 (by decide) (fun c1 => ?_) (fun c1 => ?_)
  · have hf := it_t hf c1
    refine lv_iconst (v := 0) hx hb dX1_canPawn_27 (by decide) ?_
    exact x_zret F hw hr hk (by decide) hf dX1_canPawn_28
  · have hf := it_f hf c1
    refine lv_aload_n hx hb dX1_canPawn_5 rfl (lv_at hl 0 rfl) ?_
    refine lv_iload_n hx hb dX1_canPawn_6 rfl (lv_at hl 1 rfl) ?_
    obtain ⟨r4, M3, hc2, hf⟩ := bd_some hf
    refine x_aftI hw (x_runV (rest := []) F hw hl.1 vw_RX1_62 (sL qb) rfl (c1_isPawned b qb a1 hc2) rfl rfl (Nat.le_of_ble_eq_true rfl) ⟨Nat.le_of_ble_eq_true rfl, Nat.le_of_ble_eq_true rfl⟩ dX1_canPawn_7) (fun H locs hw => ?_)
    refine lv_if_ne (tgt := 27) hx hb dX1_canPawn_10 (by decide) (fun c5 => ?_) (fun c5 => ?_)
    · have hf := it_f hf c5
      refine lv_iconst (v := 0) hx hb dX1_canPawn_27 (by decide) ?_
      exact x_zret F hw hr hk (by decide) hf dX1_canPawn_28
    · have hf := it_t hf c5
      refine lv_aload_n hx hb dX1_canPawn_13 rfl (lv_at hl 0 rfl) ?_
      refine g1_2 qb F hw tw_47 dX1_canPawn_14 ?_
      refine lv_iload_n hx hb dX1_canPawn_17 rfl (lv_at hl 2 rfl) ?_
      obtain ⟨g6, hf⟩ := gd_some hf
      refine x_iald F hw (sL2 qb) g6 dX1_canPawn_18 ?_
      refine lv_iload_n hx hb dX1_canPawn_19 rfl (lv_at hl 3 rfl) ?_
      refine lv_icmp_lt (tgt := 27) hx hb dX1_canPawn_20 (by decide) (fun c7 => ?_) (fun c7 => ?_)
      · have hf := it_t hf c7
        refine lv_iconst (v := 0) hx hb dX1_canPawn_27 (by decide) ?_
        exact x_zret F hw hr hk (by decide) hf dX1_canPawn_28
      · have hf := it_f hf c7
        refine lv_iconst (v := 1) hx hb dX1_canPawn_23 (by decide) ?_
        refine lv_goto (tgt := 28) hx hb dX1_canPawn_24 (by decide) ?_
        exact x_zret F hw hr hk (by decide) hf dX1_canPawn_28
theorem dX1_ageTickets_0 : decode cX1_ageTickets 0 = .ok (.iconst 0, 1) := by decide +kernel
theorem dX1_ageTickets_1 : decode cX1_ageTickets 1 = .ok (.istore_n 2, 1) := by decide +kernel
theorem dX1_ageTickets_2 : decode cX1_ageTickets 2 = .ok (.iload_n 2, 1) := by decide +kernel
theorem dX1_ageTickets_3 : decode cX1_ageTickets 3 = .ok (.aload_n 0, 1) := by decide +kernel
theorem dX1_ageTickets_4 : decode cX1_ageTickets 4 = .ok (.getfield 9, 3) := by decide +kernel
theorem dX1_ageTickets_7 : decode cX1_ageTickets 7 = .ok (.if_icmp .ge 27, 3) := by decide +kernel
theorem dX1_ageTickets_10 : decode cX1_ageTickets 10 = .ok (.aload_n 0, 1) := by decide +kernel
theorem dX1_ageTickets_11 : decode cX1_ageTickets 11 = .ok (.iload_n 2, 1) := by decide +kernel
theorem dX1_ageTickets_12 : decode cX1_ageTickets 12 = .ok (.invokevirtual 62, 3) := by decide +kernel
theorem dX1_ageTickets_15 : decode cX1_ageTickets 15 = .ok (.ifCond .eq 13, 3) := by decide +kernel
theorem dX1_ageTickets_18 : decode cX1_ageTickets 18 = .ok (.aload_n 0, 1) := by decide +kernel
theorem dX1_ageTickets_19 : decode cX1_ageTickets 19 = .ok (.getfield 31, 3) := by decide +kernel
theorem dX1_ageTickets_22 : decode cX1_ageTickets 22 = .ok (.iload_n 2, 1) := by decide +kernel
theorem dX1_ageTickets_23 : decode cX1_ageTickets 23 = .ok (.dup2, 1) := by decide +kernel
theorem dX1_ageTickets_24 : decode cX1_ageTickets 24 = .ok (.iaload, 1) := by decide +kernel
theorem dX1_ageTickets_25 : decode cX1_ageTickets 25 = .ok (.iload_n 1, 1) := by decide +kernel
theorem dX1_ageTickets_26 : decode cX1_ageTickets 26 = .ok (.iadd, 1) := by decide +kernel
theorem dX1_ageTickets_27 : decode cX1_ageTickets 27 = .ok (.iastore, 1) := by decide +kernel
theorem dX1_ageTickets_28 : decode cX1_ageTickets 28 = .ok (.iinc 2 1, 3) := by decide +kernel
theorem dX1_ageTickets_31 : decode cX1_ageTickets 31 = .ok (.goto (-29), 3) := by decide +kernel
theorem dX1_ageTickets_34 : decode cX1_ageTickets 34 = .ok (.return_, 1) := by decide +kernel
def p1_ageTickets_28 (b : Nat) (k2 : Int32 → Int32 → SX → Option SX) (v1 : Int32) (v2 : Int32) (M : SX) : Option SX :=
  lt_ (v2 + 1) (fun x1 => k2 v1 x1 M)
set_option maxHeartbeats 4000000 in
set_option maxRecDepth 100000 in
theorem w1_ageTickets_28 {G : XG} {p : Program} {l : Launch} {e : Env} {s : State} {m : MethodId} {args : Array Value} {below : List Frame} {meth : Method} {c : Code} (F : Fx G ZX p m c cX1_ageTickets 3 s args RX1) (hr : meth.sig.returnType = none) (hk : meth.locks = false) {M' : SX} (b : Nat) (qb : isL b) (k2 : Int32 → Int32 → SX → Option SX) (hk2 : ∀ (v1 : Int32) (v2 : Int32) (M : SX) (H : Heap) (locs : List Loc) (ls : Array Slot), Wld G ZX M s.heap H locs → lv_has ls 3 [(0, .ref (G.2.1 b)), (1, .int v1), (2, .int v2)] → k2 v1 v2 M = some M' → WXv G ZX p l e 1 s m args below meth c M' H locs (F0 m 2 ls [])) : ∀ (v1 : Int32) (v2 : Int32) (M : SX) (H : Heap) (locs : List Loc) (ls : Array Slot), Wld G ZX M s.heap H locs → lv_has ls 3 [(0, .ref (G.2.1 b)), (1, .int v1), (2, .int v2)] → p1_ageTickets_28 b k2 v1 v2 M = some M' → WXv G ZX p l e 1 s m args below meth c M' H locs (F0 m 28 ls []) := by
  intro v1 v2 M H locs ls hw hl hf
  have hx := F.1.1
  have hb := F.1.2.1
  unfold p1_ageTickets_28 at hf
  obtain ⟨x1, ex1, hf⟩ := lt_elim hf
  refine lv_iinc (v := x1) (lv' := [(2, .int x1), (0, .ref (G.2.1 b)), (1, .int v1)]) hx hb dX1_ageTickets_28 hl (k := 2) rfl (by rw [ex1]; rfl) (by decide) rfl (fun ls hl => ?_)
  refine lv_goto (tgt := 2) hx hb dX1_ageTickets_31 (by decide) ?_
  exact hk2 v1 x1 M _ _ ls hw (lv_sub hl [1, 2, 0] rfl) hf
def p1_ageTickets_2 (b : Nat) (k2 : Int32 → Int32 → SX → Option SX) (v1 : Int32) (v2 : Int32) (M : SX) : Option SX :=
  if (M.1 b 0) ≤ v2 then (some M)
  else (bd (p1_isPawned b v2 M) (fun r4 M3 => if r4 = 0 then (p1_ageTickets_28 b k2 v1 v2 M3)
  else (gd (bIn v2 6) ( lt_ (wI M3 (b + 6) (Int32.toNatClampNeg v2) ((M3.1 (b + 6) (Int32.toNatClampNeg v2)) + v1)) (fun M7 => p1_ageTickets_28 b k2 v1 v2 M7)))))
set_option maxHeartbeats 4000000 in
set_option maxRecDepth 100000 in
theorem w1_ageTickets_2 {G : XG} {p : Program} {l : Launch} {e : Env} {s : State} {m : MethodId} {args : Array Value} {below : List Frame} {meth : Method} {c : Code} (F : Fx G ZX p m c cX1_ageTickets 3 s args RX1) (hr : meth.sig.returnType = none) (hk : meth.locks = false) {M' : SX} (b : Nat) (qb : isL b) (k2 : Int32 → Int32 → SX → Option SX) (hk2 : ∀ (v1 : Int32) (v2 : Int32) (M : SX) (H : Heap) (locs : List Loc) (ls : Array Slot), Wld G ZX M s.heap H locs → lv_has ls 3 [(0, .ref (G.2.1 b)), (1, .int v1), (2, .int v2)] → k2 v1 v2 M = some M' → WXv G ZX p l e 1 s m args below meth c M' H locs (F0 m 2 ls [])) : ∀ (v1 : Int32) (v2 : Int32) (M : SX) (H : Heap) (locs : List Loc) (ls : Array Slot), Wld G ZX M s.heap H locs → lv_has ls 3 [(0, .ref (G.2.1 b)), (1, .int v1), (2, .int v2)] → p1_ageTickets_2 b k2 v1 v2 M = some M' → WXv G ZX p l e 1 s m args below meth c M' H locs (F0 m 2 ls []) := by
  intro v1 v2 M H locs ls hw hl hf
  have hx := F.1.1
  have hb := F.1.2.1
  unfold p1_ageTickets_2 at hf
  refine lv_iload_n hx hb dX1_ageTickets_2 rfl (lv_at hl 2 rfl) ?_
  refine lv_aload_n hx hb dX1_ageTickets_3 rfl (lv_at hl 0 rfl) ?_
  refine g1_0 qb F hw tw_41 dX1_ageTickets_4 ?_
  refine lv_icmp_ge (tgt := 34) hx hb dX1_ageTickets_7 (by decide) (fun c1 => ?_) (fun c1 => ?_)
  · have hf := it_t hf c1
    exact x_vret F hw hr hk hf dX1_ageTickets_34
  · have hf := it_f hf c1
    refine lv_aload_n hx hb dX1_ageTickets_10 rfl (lv_at hl 0 rfl) ?_
    refine lv_iload_n hx hb dX1_ageTickets_11 rfl (lv_at hl 2 rfl) ?_
    obtain ⟨r4, M3, hc2, hf⟩ := bd_some hf
    refine x_aftI hw (x_runV (rest := []) F hw hl.1 vw_RX1_62 (sL qb) rfl (c1_isPawned b qb v2 hc2) rfl rfl (Nat.le_of_ble_eq_true rfl) ⟨Nat.le_of_ble_eq_true rfl, Nat.le_of_ble_eq_true rfl⟩ dX1_ageTickets_12) (fun H locs hw => ?_)
    refine lv_if_eq (tgt := 28) hx hb dX1_ageTickets_15 (by decide) (fun c5 => ?_) (fun c5 => ?_)
    · have hf := it_t hf c5
      exact w1_ageTickets_28 F hr hk b qb k2 hk2 v1 v2 M3 _ _ ls hw (lv_sub hl [0, 1, 2] rfl) hf
    · have hf := it_f hf c5
      refine lv_aload_n hx hb dX1_ageTickets_18 rfl (lv_at hl 0 rfl) ?_
      refine g1_6 qb F hw tw_46 dX1_ageTickets_19 ?_
      refine lv_iload_n hx hb dX1_ageTickets_22 rfl (lv_at hl 2 rfl) ?_
      refine lv_dup2_11 hx hb dX1_ageTickets_23 rfl rfl ?_
      obtain ⟨g6, hf⟩ := gd_some hf
      refine x_iald F hw (sL6 qb) g6 dX1_ageTickets_24 ?_
      refine lv_iload_n hx hb dX1_ageTickets_25 rfl (lv_at hl 1 rfl) ?_
      refine lv_iadd hx hb dX1_ageTickets_26 ?_
      refine x_iast F hw (sL6 qb) g6 dX1_ageTickets_27 (fun H locs hw => ?_)
      obtain ⟨M7, eM7, hf⟩ := lt_elim hf
      rw [← eM7] at hw
      exact w1_ageTickets_28 F hr hk b qb k2 hk2 v1 v2 M7 _ _ ls hw (lv_sub hl [0, 1, 2] rfl) hf
theorem z1_ageTickets_2 {G : XG} {p : Program} {l : Launch} {e : Env} {s : State} {m : MethodId} {args : Array Value} {below : List Frame} {meth : Method} {c : Code} (F : Fx G ZX p m c cX1_ageTickets 3 s args RX1) (hr : meth.sig.returnType = none) (hk : meth.locks = false) {M' : SX} (b : Nat) (qb : isL b) : ∀ n : Nat, ∀ (v1 : Int32) (v2 : Int32) (M : SX) (H : Heap) (locs : List Loc) (ls : Array Slot), Wld G ZX M s.heap H locs → lv_has ls 3 [(0, .ref (G.2.1 b)), (1, .int v1), (2, .int v2)] → xlp2 (p1_ageTickets_2 b) n v1 v2 M = some M' → WXv G ZX p l e 1 s m args below meth c M' H locs (F0 m 2 ls []) := by
  intro n
  induction n with
  | zero => intro _ _ _ _ _ _ _ _ hf; cases hf
  | succ n ih => exact w1_ageTickets_2 F hr hk b qb (xlp2 (p1_ageTickets_2 b) n) ih
def p1_ageTickets (b : Nat) (a1 : Int32) (M : SX) : Option SX :=
  xlp2 (p1_ageTickets_2 b) FU a1 0 M
set_option maxHeartbeats 4000000 in
set_option maxRecDepth 100000 in
theorem c1_ageTickets {l : Launch} {G : XG} {M' : SX} {M : SX} (b : Nat) (qb : isL b) (a1 : Int32) (hf : p1_ageTickets b a1 M = some M') : Met l yX1_ageTickets (.code yX1_ageTickets cX1_ageTickets 3 none :: TBL) (rmX 1) (xPc G ZX M [.ref (G.2.1 b), .int a1]) (xQv G ZX M') 0 0 (inA G ZX) := by
  refine x_met (cc := cX1_ageTickets) (by decide) (Nat.le_of_ble_eq_true rfl) ?_
  intro p e s m below meth c ls F hr hk hl hw
  have F : Fx G ZX p m c cX1_ageTickets 3 s [.ref (G.2.1 b), .int a1].toArray RX1 := F
  have hl : lv_has ls 3 [(0, .ref (G.2.1 b)), (1, .int a1)] := hl
  have hx := F.1.1
  have hb := F.1.2.1
  unfold p1_ageTickets at hf
  refine lv_iconst (v := 0) hx hb dX1_ageTickets_0 (by decide) ?_
  refine lv_istore_n (lv' := [(2, .int 0), (0, .ref (G.2.1 b)), (1, .int a1)]) hx hb dX1_ageTickets_1 rfl hl (by decide) rfl (fun ls hl => ?_)
  exact z1_ageTickets_2 F hr hk b qb FU a1 0 M _ _ ls hw (lv_sub hl [1, 2, 0] rfl) hf
theorem dX1_becomeLike_0 : decode cX1_becomeLike 0 = .ok (.aload_n 0, 1) := by decide +kernel
theorem dX1_becomeLike_1 : decode cX1_becomeLike 1 = .ok (.aload_n 1, 1) := by decide +kernel
theorem dX1_becomeLike_2 : decode cX1_becomeLike 2 = .ok (.getfield 9, 3) := by decide +kernel
theorem dX1_becomeLike_5 : decode cX1_becomeLike 5 = .ok (.putfield 9, 3) := by decide +kernel
theorem dX1_becomeLike_8 : decode cX1_becomeLike 8 = .ok (.aload_n 1, 1) := by decide +kernel
theorem dX1_becomeLike_9 : decode cX1_becomeLike 9 = .ok (.getfield 15, 3) := by decide +kernel
theorem dX1_becomeLike_12 : decode cX1_becomeLike 12 = .ok (.iconst 0, 1) := by decide +kernel
theorem dX1_becomeLike_13 : decode cX1_becomeLike 13 = .ok (.aload_n 0, 1) := by decide +kernel
theorem dX1_becomeLike_14 : decode cX1_becomeLike 14 = .ok (.getfield 15, 3) := by decide +kernel
theorem dX1_becomeLike_17 : decode cX1_becomeLike 17 = .ok (.iconst 0, 1) := by decide +kernel
theorem dX1_becomeLike_18 : decode cX1_becomeLike 18 = .ok (.bipush 6, 2) := by decide +kernel
theorem dX1_becomeLike_20 : decode cX1_becomeLike 20 = .ok (.invokestatic 44, 3) := by decide +kernel
theorem dX1_becomeLike_23 : decode cX1_becomeLike 23 = .ok (.aload_n 1, 1) := by decide +kernel
theorem dX1_becomeLike_24 : decode cX1_becomeLike 24 = .ok (.getfield 19, 3) := by decide +kernel
theorem dX1_becomeLike_27 : decode cX1_becomeLike 27 = .ok (.iconst 0, 1) := by decide +kernel
theorem dX1_becomeLike_28 : decode cX1_becomeLike 28 = .ok (.aload_n 0, 1) := by decide +kernel
theorem dX1_becomeLike_29 : decode cX1_becomeLike 29 = .ok (.getfield 19, 3) := by decide +kernel
theorem dX1_becomeLike_32 : decode cX1_becomeLike 32 = .ok (.iconst 0, 1) := by decide +kernel
theorem dX1_becomeLike_33 : decode cX1_becomeLike 33 = .ok (.bipush 6, 2) := by decide +kernel
theorem dX1_becomeLike_35 : decode cX1_becomeLike 35 = .ok (.invokestatic 44, 3) := by decide +kernel
theorem dX1_becomeLike_38 : decode cX1_becomeLike 38 = .ok (.aload_n 1, 1) := by decide +kernel
theorem dX1_becomeLike_39 : decode cX1_becomeLike 39 = .ok (.getfield 22, 3) := by decide +kernel
theorem dX1_becomeLike_42 : decode cX1_becomeLike 42 = .ok (.iconst 0, 1) := by decide +kernel
theorem dX1_becomeLike_43 : decode cX1_becomeLike 43 = .ok (.aload_n 0, 1) := by decide +kernel
theorem dX1_becomeLike_44 : decode cX1_becomeLike 44 = .ok (.getfield 22, 3) := by decide +kernel
theorem dX1_becomeLike_47 : decode cX1_becomeLike 47 = .ok (.iconst 0, 1) := by decide +kernel
theorem dX1_becomeLike_48 : decode cX1_becomeLike 48 = .ok (.bipush 6, 2) := by decide +kernel
theorem dX1_becomeLike_50 : decode cX1_becomeLike 50 = .ok (.invokestatic 44, 3) := by decide +kernel
theorem dX1_becomeLike_53 : decode cX1_becomeLike 53 = .ok (.aload_n 1, 1) := by decide +kernel
theorem dX1_becomeLike_54 : decode cX1_becomeLike 54 = .ok (.getfield 25, 3) := by decide +kernel
theorem dX1_becomeLike_57 : decode cX1_becomeLike 57 = .ok (.iconst 0, 1) := by decide +kernel
theorem dX1_becomeLike_58 : decode cX1_becomeLike 58 = .ok (.aload_n 0, 1) := by decide +kernel
theorem dX1_becomeLike_59 : decode cX1_becomeLike 59 = .ok (.getfield 25, 3) := by decide +kernel
theorem dX1_becomeLike_62 : decode cX1_becomeLike 62 = .ok (.iconst 0, 1) := by decide +kernel
theorem dX1_becomeLike_63 : decode cX1_becomeLike 63 = .ok (.bipush 6, 2) := by decide +kernel
theorem dX1_becomeLike_65 : decode cX1_becomeLike 65 = .ok (.invokestatic 44, 3) := by decide +kernel
theorem dX1_becomeLike_68 : decode cX1_becomeLike 68 = .ok (.aload_n 1, 1) := by decide +kernel
theorem dX1_becomeLike_69 : decode cX1_becomeLike 69 = .ok (.getfield 28, 3) := by decide +kernel
theorem dX1_becomeLike_72 : decode cX1_becomeLike 72 = .ok (.iconst 0, 1) := by decide +kernel
theorem dX1_becomeLike_73 : decode cX1_becomeLike 73 = .ok (.aload_n 0, 1) := by decide +kernel
theorem dX1_becomeLike_74 : decode cX1_becomeLike 74 = .ok (.getfield 28, 3) := by decide +kernel
theorem dX1_becomeLike_77 : decode cX1_becomeLike 77 = .ok (.iconst 0, 1) := by decide +kernel
theorem dX1_becomeLike_78 : decode cX1_becomeLike 78 = .ok (.bipush 6, 2) := by decide +kernel
theorem dX1_becomeLike_80 : decode cX1_becomeLike 80 = .ok (.invokestatic 44, 3) := by decide +kernel
theorem dX1_becomeLike_83 : decode cX1_becomeLike 83 = .ok (.aload_n 1, 1) := by decide +kernel
theorem dX1_becomeLike_84 : decode cX1_becomeLike 84 = .ok (.getfield 31, 3) := by decide +kernel
theorem dX1_becomeLike_87 : decode cX1_becomeLike 87 = .ok (.iconst 0, 1) := by decide +kernel
theorem dX1_becomeLike_88 : decode cX1_becomeLike 88 = .ok (.aload_n 0, 1) := by decide +kernel
theorem dX1_becomeLike_89 : decode cX1_becomeLike 89 = .ok (.getfield 31, 3) := by decide +kernel
theorem dX1_becomeLike_92 : decode cX1_becomeLike 92 = .ok (.iconst 0, 1) := by decide +kernel
theorem dX1_becomeLike_93 : decode cX1_becomeLike 93 = .ok (.bipush 6, 2) := by decide +kernel
theorem dX1_becomeLike_95 : decode cX1_becomeLike 95 = .ok (.invokestatic 44, 3) := by decide +kernel
theorem dX1_becomeLike_98 : decode cX1_becomeLike 98 = .ok (.aload_n 0, 1) := by decide +kernel
theorem dX1_becomeLike_99 : decode cX1_becomeLike 99 = .ok (.getfield 37, 3) := by decide +kernel
theorem dX1_becomeLike_102 : decode cX1_becomeLike 102 = .ok (.aload_n 1, 1) := by decide +kernel
theorem dX1_becomeLike_103 : decode cX1_becomeLike 103 = .ok (.getfield 37, 3) := by decide +kernel
theorem dX1_becomeLike_106 : decode cX1_becomeLike 106 = .ok (.invokevirtual 50, 3) := by decide +kernel
theorem dX1_becomeLike_109 : decode cX1_becomeLike 109 = .ok (.return_, 1) := by decide +kernel
def p1_becomeLike (b : Nat) (b2 : Nat) (M : SX) : Option SX :=
  lt_ (wI M b 0 (M.1 b2 0)) (fun M1 => gd (cpOk 0 0 6 6 6) ( lt_ (wR M1 (b + 1) (va_cpy (M1.1 (b2 + 1)) (M1.1 (b + 1)) (Int32.toNatClampNeg 0) (Int32.toNatClampNeg 0) (Int32.toNatClampNeg 6))) (fun M3 => lt_ (wR M3 (b + 2) (va_cpy (M3.1 (b2 + 2)) (M3.1 (b + 2)) (Int32.toNatClampNeg 0) (Int32.toNatClampNeg 0) (Int32.toNatClampNeg 6))) (fun M4 => lt_ (wR M4 (b + 3) (va_cpy (M4.1 (b2 + 3)) (M4.1 (b + 3)) (Int32.toNatClampNeg 0) (Int32.toNatClampNeg 0) (Int32.toNatClampNeg 6))) (fun M5 => lt_ (wR M5 (b + 4) (va_cpy (M5.1 (b2 + 4)) (M5.1 (b + 4)) (Int32.toNatClampNeg 0) (Int32.toNatClampNeg 0) (Int32.toNatClampNeg 6))) (fun M6 => lt_ (wR M6 (b + 5) (va_cpy (M6.1 (b2 + 5)) (M6.1 (b + 5)) (Int32.toNatClampNeg 0) (Int32.toNatClampNeg 0) (Int32.toNatClampNeg 6))) (fun M7 => lt_ (wR M7 (b + 6) (va_cpy (M7.1 (b2 + 6)) (M7.1 (b + 6)) (Int32.toNatClampNeg 0) (Int32.toNatClampNeg 0) (Int32.toNatClampNeg 6))) (fun M8 => bv (p0_becomeLike (b + 7) (b2 + 7) M8) (fun M10 => some M10)))))))))
set_option maxHeartbeats 4000000 in
set_option maxRecDepth 100000 in
theorem c1_becomeLike {l : Launch} {G : XG} {M' : SX} {M : SX} (b : Nat) (qb : isL b) (b2 : Nat) (qb2 : isL b2) (hf : p1_becomeLike b b2 M = some M') : Met l yX1_becomeLike (.code yX1_becomeLike cX1_becomeLike 2 none :: TBL) (rmX 2) (xPc G ZX M [.ref (G.2.1 b), .ref (G.2.1 b2)]) (xQv G ZX M') 0 0 (inA G ZX) := by
  refine x_met (cc := cX1_becomeLike) (by decide) (Nat.le_of_ble_eq_true rfl) ?_
  intro p e s m below meth c ls F hr hk hl hw
  have F : Fx G ZX p m c cX1_becomeLike 2 s [.ref (G.2.1 b), .ref (G.2.1 b2)].toArray RX1 := F
  have hl : lv_has ls 2 [(0, .ref (G.2.1 b)), (1, .ref (G.2.1 b2))] := hl
  have hx := F.1.1
  have hb := F.1.2.1
  unfold p1_becomeLike at hf
  refine lv_aload_n hx hb dX1_becomeLike_0 rfl (lv_at hl 0 rfl) ?_
  refine lv_aload_n hx hb dX1_becomeLike_1 rfl (lv_at hl 1 rfl) ?_
  refine g1_0 qb2 F hw tw_41 dX1_becomeLike_2 ?_
  refine s1_0 qb F hw tw_41 dX1_becomeLike_5 (fun H locs hw => ?_)
  obtain ⟨M1, eM1, hf⟩ := lt_elim hf
  rw [← eM1] at hw
  refine lv_aload_n hx hb dX1_becomeLike_8 rfl (lv_at hl 1 rfl) ?_
  refine g1_1 qb2 F hw tw_64 dX1_becomeLike_9 ?_
  refine lv_iconst (v := 0) hx hb dX1_becomeLike_12 (by decide) ?_
  refine lv_aload_n hx hb dX1_becomeLike_13 rfl (lv_at hl 0 rfl) ?_
  refine g1_1 qb F hw tw_64 dX1_becomeLike_14 ?_
  refine lv_iconst (v := 0) hx hb dX1_becomeLike_17 (by decide) ?_
  refine lv_bipush (v := 6) hx hb dX1_becomeLike_18 (by decide) ?_
  obtain ⟨g2, hf⟩ := gd_some hf
  refine x_copy F hw hl.1 (sL1 qb2) (sL1 qb) g2 tw_69 tw_17 tw_18 tw_19 (Nat.le_of_ble_eq_true rfl) (Nat.le_of_ble_eq_true rfl) dX1_becomeLike_20 (fun H locs hw => ?_)
  obtain ⟨M3, eM3, hf⟩ := lt_elim hf
  rw [← eM3] at hw
  refine lv_aload_n hx hb dX1_becomeLike_23 rfl (lv_at hl 1 rfl) ?_
  refine g1_2 qb2 F hw tw_47 dX1_becomeLike_24 ?_
  refine lv_iconst (v := 0) hx hb dX1_becomeLike_27 (by decide) ?_
  refine lv_aload_n hx hb dX1_becomeLike_28 rfl (lv_at hl 0 rfl) ?_
  refine g1_2 qb F hw tw_47 dX1_becomeLike_29 ?_
  refine lv_iconst (v := 0) hx hb dX1_becomeLike_32 (by decide) ?_
  refine lv_bipush (v := 6) hx hb dX1_becomeLike_33 (by decide) ?_
  refine x_copy F hw hl.1 (sL2 qb2) (sL2 qb) g2 tw_69 tw_17 tw_18 tw_19 (Nat.le_of_ble_eq_true rfl) (Nat.le_of_ble_eq_true rfl) dX1_becomeLike_35 (fun H locs hw => ?_)
  obtain ⟨M4, eM4, hf⟩ := lt_elim hf
  rw [← eM4] at hw
  refine lv_aload_n hx hb dX1_becomeLike_38 rfl (lv_at hl 1 rfl) ?_
  refine g1_3 qb2 F hw tw_63 dX1_becomeLike_39 ?_
  refine lv_iconst (v := 0) hx hb dX1_becomeLike_42 (by decide) ?_
  refine lv_aload_n hx hb dX1_becomeLike_43 rfl (lv_at hl 0 rfl) ?_
  refine g1_3 qb F hw tw_63 dX1_becomeLike_44 ?_
  refine lv_iconst (v := 0) hx hb dX1_becomeLike_47 (by decide) ?_
  refine lv_bipush (v := 6) hx hb dX1_becomeLike_48 (by decide) ?_
  refine x_copy F hw hl.1 (sL3 qb2) (sL3 qb) g2 tw_69 tw_17 tw_18 tw_19 (Nat.le_of_ble_eq_true rfl) (Nat.le_of_ble_eq_true rfl) dX1_becomeLike_50 (fun H locs hw => ?_)
  obtain ⟨M5, eM5, hf⟩ := lt_elim hf
  rw [← eM5] at hw
  refine lv_aload_n hx hb dX1_becomeLike_53 rfl (lv_at hl 1 rfl) ?_
  refine g1_4 qb2 F hw tw_44 dX1_becomeLike_54 ?_
  refine lv_iconst (v := 0) hx hb dX1_becomeLike_57 (by decide) ?_
  refine lv_aload_n hx hb dX1_becomeLike_58 rfl (lv_at hl 0 rfl) ?_
  refine g1_4 qb F hw tw_44 dX1_becomeLike_59 ?_
  refine lv_iconst (v := 0) hx hb dX1_becomeLike_62 (by decide) ?_
  refine lv_bipush (v := 6) hx hb dX1_becomeLike_63 (by decide) ?_
  refine x_copy F hw hl.1 (sL4 qb2) (sL4 qb) g2 tw_69 tw_17 tw_18 tw_19 (Nat.le_of_ble_eq_true rfl) (Nat.le_of_ble_eq_true rfl) dX1_becomeLike_65 (fun H locs hw => ?_)
  obtain ⟨M6, eM6, hf⟩ := lt_elim hf
  rw [← eM6] at hw
  refine lv_aload_n hx hb dX1_becomeLike_68 rfl (lv_at hl 1 rfl) ?_
  refine g1_5 qb2 F hw tw_45 dX1_becomeLike_69 ?_
  refine lv_iconst (v := 0) hx hb dX1_becomeLike_72 (by decide) ?_
  refine lv_aload_n hx hb dX1_becomeLike_73 rfl (lv_at hl 0 rfl) ?_
  refine g1_5 qb F hw tw_45 dX1_becomeLike_74 ?_
  refine lv_iconst (v := 0) hx hb dX1_becomeLike_77 (by decide) ?_
  refine lv_bipush (v := 6) hx hb dX1_becomeLike_78 (by decide) ?_
  refine x_copy F hw hl.1 (sL5 qb2) (sL5 qb) g2 tw_69 tw_17 tw_18 tw_19 (Nat.le_of_ble_eq_true rfl) (Nat.le_of_ble_eq_true rfl) dX1_becomeLike_80 (fun H locs hw => ?_)
  obtain ⟨M7, eM7, hf⟩ := lt_elim hf
  rw [← eM7] at hw
  refine lv_aload_n hx hb dX1_becomeLike_83 rfl (lv_at hl 1 rfl) ?_
  refine g1_6 qb2 F hw tw_46 dX1_becomeLike_84 ?_
  refine lv_iconst (v := 0) hx hb dX1_becomeLike_87 (by decide) ?_
  refine lv_aload_n hx hb dX1_becomeLike_88 rfl (lv_at hl 0 rfl) ?_
  refine g1_6 qb F hw tw_46 dX1_becomeLike_89 ?_
  refine lv_iconst (v := 0) hx hb dX1_becomeLike_92 (by decide) ?_
  refine lv_bipush (v := 6) hx hb dX1_becomeLike_93 (by decide) ?_
  refine x_copy F hw hl.1 (sL6 qb2) (sL6 qb) g2 tw_69 tw_17 tw_18 tw_19 (Nat.le_of_ble_eq_true rfl) (Nat.le_of_ble_eq_true rfl) dX1_becomeLike_95 (fun H locs hw => ?_)
  obtain ⟨M8, eM8, hf⟩ := lt_elim hf
  rw [← eM8] at hw
  refine lv_aload_n hx hb dX1_becomeLike_98 rfl (lv_at hl 0 rfl) ?_
  refine g1_7 qb F hw tw_42 dX1_becomeLike_99 ?_
  refine lv_aload_n hx hb dX1_becomeLike_102 rfl (lv_at hl 1 rfl) ?_
  refine g1_7 qb2 F hw tw_42 dX1_becomeLike_103 ?_
  obtain ⟨M10, hc9, hf⟩ := bv_some hf
  refine x_aftV hw (x_runV (rest := []) F hw hl.1 vw_RX1_50 (sD (isD_of qb)) rfl (c0_becomeLike (b + 7) (isD_of qb) (b2 + 7) (isD_of qb2) hc9) rfl rfl (Nat.le_of_ble_eq_true rfl) ⟨Nat.le_of_ble_eq_true rfl, Nat.le_of_ble_eq_true rfl⟩ dX1_becomeLike_106) (fun H locs hw => ?_)
  exact x_vret F hw hr hk hf dX1_becomeLike_109
end
