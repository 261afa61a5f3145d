theorem dX0_hasRoom_0 : decode cX0_hasRoom 0 = .ok (.aload_n 0, 1) := by decide +kernel
theorem dX0_hasRoom_1 : decode cX0_hasRoom 1 = .ok (.getfield 15, 3) := by decide +kernel
theorem dX0_hasRoom_4 : decode cX0_hasRoom 4 = .ok (.iload_n 1, 1) := by decide +kernel
theorem dX0_hasRoom_5 : decode cX0_hasRoom 5 = .ok (.iadd, 1) := by decide +kernel
theorem dX0_hasRoom_6 : decode cX0_hasRoom 6 = .ok (.bipush 40, 2) := by decide +kernel
theorem dX0_hasRoom_8 : decode cX0_hasRoom 8 = .ok (.if_icmp .gt 7, 3) := by decide +kernel
theorem dX0_hasRoom_11 : decode cX0_hasRoom 11 = .ok (.iconst 1, 1) := by decide +kernel
theorem dX0_hasRoom_12 : decode cX0_hasRoom 12 = .ok (.goto 4, 3) := by decide +kernel
theorem dX0_hasRoom_15 : decode cX0_hasRoom 15 = .ok (.iconst 0, 1) := by decide +kernel
theorem dX0_hasRoom_16 : decode cX0_hasRoom 16 = .ok (.ireturn, 1) := by decide +kernel
def p0_hasRoom (b : Nat) (a1 : Int32) (M : SX) : Option (Int32 × SX) :=
  if (40 : Int32) < ((M.1 b 1) + a1) then (some (0, M))
  else (some (1, M))
set_option maxHeartbeats 4000000 in
set_option maxRecDepth 100000 in
theorem c0_hasRoom {l : Launch} {G : XG} {r : Int32} {M' : SX} {M : SX} (b : Nat) (qb : isD b) (a1 : Int32) (hf : p0_hasRoom b a1 M = some (r, M')) : Met l yX0_hasRoom (.code yX0_hasRoom cX0_hasRoom 2 (some .boolean) :: TBL) (rmX 0) (xPc G ZX M [.ref (G.2.1 b), .int a1]) (xQi G ZX r M') 0 0 (inA G ZX) := by
  refine x_met (cc := cX0_hasRoom) (by decide) (Nat.le_of_ble_eq_true rfl) ?_
  intro p e s m below meth c ls F hr hk hl hw
  have F : Fx G ZX p m c cX0_hasRoom 2 s [.ref (G.2.1 b), .int a1].toArray RX0 := F
  have hl : lv_has ls 2 [(0, .ref (G.2.1 b)), (1, .int a1)] := hl
  have hx := F.1.1
  have hb := F.1.2.1
  unfold p0_hasRoom at hf
  refine lv_aload_n hx hb dX0_hasRoom_0 rfl (lv_at hl 0 rfl) ?_
  refine g0_1 qb F hw tw_8 dX0_hasRoom_1 ?_
  refine lv_iload_n hx hb dX0_hasRoom_4 rfl (lv_at hl 1 rfl) ?_
  refine lv_iadd hx hb dX0_hasRoom_5 ?_
  refine lv_bipush (v := 40) hx hb dX0_hasRoom_6 (by decide) ?_
  refine lv_icmp_gt (tgt := 15) hx hb dX0_hasRoom_8 (by decide) (fun c1 => ?_) (fun c1 => ?_)
  · have hf := it_t hf c1
    refine lv_iconst (v := 0) hx hb dX0_hasRoom_15 (by decide) ?_
    exact x_zret F hw hr hk (by decide) hf dX0_hasRoom_16
  · have hf := it_f hf c1
    refine lv_iconst (v := 1) hx hb dX0_hasRoom_11 (by decide) ?_
    refine lv_goto (tgt := 16) hx hb dX0_hasRoom_12 (by decide) ?_
    exact x_zret F hw hr hk (by decide) hf dX0_hasRoom_16
theorem dX0_removeLast_0 : decode cX0_removeLast 0 = .ok (.aload_n 0, 1) := by decide +kernel
theorem dX0_removeLast_1 : decode cX0_removeLast 1 = .ok (.getfield 15, 3) := by decide +kernel
theorem dX0_removeLast_4 : decode cX0_removeLast 4 = .ok (.ifCond .le 13, 3) := by decide +kernel
theorem dX0_removeLast_7 : decode cX0_removeLast 7 = .ok (.aload_n 0, 1) := by decide +kernel
theorem dX0_removeLast_8 : decode cX0_removeLast 8 = .ok (.dup, 1) := by decide +kernel
theorem dX0_removeLast_9 : decode cX0_removeLast 9 = .ok (.getfield 15, 3) := by decide +kernel
theorem dX0_removeLast_12 : decode cX0_removeLast 12 = .ok (.iconst 1, 1) := by decide +kernel
theorem dX0_removeLast_13 : decode cX0_removeLast 13 = .ok (.isub, 1) := by decide +kernel
theorem dX0_removeLast_14 : decode cX0_removeLast 14 = .ok (.putfield 15, 3) := by decide +kernel
theorem dX0_removeLast_17 : decode cX0_removeLast 17 = .ok (.return_, 1) := by decide +kernel
def p0_removeLast (b : Nat) (M : SX) : Option SX :=
  if (M.1 b 1) ≤ 0 then (some M)
  else (lt_ (wI M b 1 ((M.1 b 1) - 1)) (fun M2 => some M2))
set_option maxHeartbeats 4000000 in
set_option maxRecDepth 100000 in
theorem c0_removeLast {l : Launch} {G : XG} {M' : SX} {M : SX} (b : Nat) (qb : isD b) (hf : p0_removeLast b M = some M') : Met l yX0_removeLast (.code yX0_removeLast cX0_removeLast 1 none :: TBL) (rmX 0) (xPc G ZX M [.ref (G.2.1 b)]) (xQv G ZX M') 0 0 (inA G ZX) := by
  refine x_met (cc := cX0_removeLast) (by decide) (Nat.le_of_ble_eq_true rfl) ?_
  intro p e s m below meth c ls F hr hk hl hw
  have F : Fx G ZX p m c cX0_removeLast 1 s [.ref (G.2.1 b)].toArray RX0 := F
  have hl : lv_has ls 1 [(0, .ref (G.2.1 b))] := hl
  have hx := F.1.1
  have hb := F.1.2.1
  unfold p0_removeLast at hf
  refine lv_aload_n hx hb dX0_removeLast_0 rfl (lv_at hl 0 rfl) ?_
  refine g0_1 qb F hw tw_8 dX0_removeLast_1 ?_
  refine lv_if_le (tgt := 17) hx hb dX0_removeLast_4 (by decide) (fun c1 => ?_) (fun c1 => ?_)
  · have hf := it_t hf c1
    exact x_vret F hw hr hk hf dX0_removeLast_17
  · have hf := it_f hf c1
    refine lv_aload_n hx hb dX0_removeLast_7 rfl (lv_at hl 0 rfl) ?_
    refine lv_dup hx hb dX0_removeLast_8 rfl ?_
    refine g0_1 qb F hw tw_8 dX0_removeLast_9 ?_
    refine lv_iconst (v := 1) hx hb dX0_removeLast_12 (by decide) ?_
    refine lv_isub hx hb dX0_removeLast_13 ?_
    refine s0_1 qb F hw tw_8 dX0_removeLast_14 (fun H locs hw => ?_)
    obtain ⟨M2, eM2, hf⟩ := lt_elim hf
    rw [← eM2] at hw
    exact x_vret F hw hr hk hf dX0_removeLast_17
theorem dX0_whatOf_0 : decode cX0_whatOf 0 = .ok (.aload_n 0, 1) := by decide +kernel
theorem dX0_whatOf_1 : decode cX0_whatOf 1 = .ok (.getfield 9, 3) := by decide +kernel
theorem dX0_whatOf_4 : decode cX0_whatOf 4 = .ok (.iload_n 1, 1) := by decide +kernel
theorem dX0_whatOf_5 : decode cX0_whatOf 5 = .ok (.iaload, 1) := by decide +kernel
theorem dX0_whatOf_6 : decode cX0_whatOf 6 = .ok (.iconst 3, 1) := by decide +kernel
theorem dX0_whatOf_7 : decode cX0_whatOf 7 = .ok (.iand, 1) := by decide +kernel
theorem dX0_whatOf_8 : decode cX0_whatOf 8 = .ok (.ireturn, 1) := by decide +kernel
def p0_whatOf (b : Nat) (a1 : Int32) (M : SX) : Option (Int32 × SX) :=
  gd (bIn a1 40) ( some ((M.1 (b + 1) (Int32.toNatClampNeg a1)) &&& 3, M))
set_option maxHeartbeats 4000000 in
set_option maxRecDepth 100000 in
theorem c0_whatOf {l : Launch} {G : XG} {r : Int32} {M' : SX} {M : SX} (b : Nat) (qb : isD b) (a1 : Int32) (hf : p0_whatOf b a1 M = some (r, M')) : Met l yX0_whatOf (.code yX0_whatOf cX0_whatOf 2 (some .int) :: TBL) (rmX 0) (xPc G ZX M [.ref (G.2.1 b), .int a1]) (xQi G ZX r M') 0 0 (inA G ZX) := by
  refine x_met (cc := cX0_whatOf) (by decide) (Nat.le_of_ble_eq_true rfl) ?_
  intro p e s m below meth c ls F hr hk hl hw
  have F : Fx G ZX p m c cX0_whatOf 2 s [.ref (G.2.1 b), .int a1].toArray RX0 := F
  have hl : lv_has ls 2 [(0, .ref (G.2.1 b)), (1, .int a1)] := hl
  have hx := F.1.1
  have hb := F.1.2.1
  unfold p0_whatOf at hf
  refine lv_aload_n hx hb dX0_whatOf_0 rfl (lv_at hl 0 rfl) ?_
  refine g0_0 qb F hw tw_9 dX0_whatOf_1 ?_
  refine lv_iload_n hx hb dX0_whatOf_4 rfl (lv_at hl 1 rfl) ?_
  obtain ⟨g1, hf⟩ := gd_some hf
  refine x_iald F hw (sD1 qb) g1 dX0_whatOf_5 ?_
  refine lv_iconst (v := 3) hx hb dX0_whatOf_6 (by decide) ?_
  refine lv_iand hx hb dX0_whatOf_7 ?_
  exact x_iret F hw hr hk hf dX0_whatOf_8
theorem dX0_shopOf_0 : decode cX0_shopOf 0 = .ok (.aload_n 0, 1) := by decide +kernel
theorem dX0_shopOf_1 : decode cX0_shopOf 1 = .ok (.getfield 9, 3) := by decide +kernel
theorem dX0_shopOf_4 : decode cX0_shopOf 4 = .ok (.iload_n 1, 1) := by decide +kernel
theorem dX0_shopOf_5 : decode cX0_shopOf 5 = .ok (.iaload, 1) := by decide +kernel
theorem dX0_shopOf_6 : decode cX0_shopOf 6 = .ok (.iconst 2, 1) := by decide +kernel
theorem dX0_shopOf_7 : decode cX0_shopOf 7 = .ok (.ishr, 1) := by decide +kernel
theorem dX0_shopOf_8 : decode cX0_shopOf 8 = .ok (.bipush 7, 2) := by decide +kernel
theorem dX0_shopOf_10 : decode cX0_shopOf 10 = .ok (.iand, 1) := by decide +kernel
theorem dX0_shopOf_11 : decode cX0_shopOf 11 = .ok (.ireturn, 1) := by decide +kernel
def p0_shopOf (b : Nat) (a1 : Int32) (M : SX) : Option (Int32 × SX) :=
  gd (bIn a1 40) ( some (((M.1 (b + 1) (Int32.toNatClampNeg a1)) >>> ((2 : Int32) &&& 31)) &&& 7, M))
set_option maxHeartbeats 4000000 in
set_option maxRecDepth 100000 in
theorem c0_shopOf {l : Launch} {G : XG} {r : Int32} {M' : SX} {M : SX} (b : Nat) (qb : isD b) (a1 : Int32) (hf : p0_shopOf b a1 M = some (r, M')) : Met l yX0_shopOf (.code yX0_shopOf cX0_shopOf 2 (some .int) :: TBL) (rmX 0) (xPc G ZX M [.ref (G.2.1 b), .int a1]) (xQi G ZX r M') 0 0 (inA G ZX) := by
  refine x_met (cc := cX0_shopOf) (by decide) (Nat.le_of_ble_eq_true rfl) ?_
  intro p e s m below meth c ls F hr hk hl hw
  have F : Fx G ZX p m c cX0_shopOf 2 s [.ref (G.2.1 b), .int a1].toArray RX0 := F
  have hl : lv_has ls 2 [(0, .ref (G.2.1 b)), (1, .int a1)] := hl
  have hx := F.1.1
  have hb := F.1.2.1
  unfold p0_shopOf at hf
  refine lv_aload_n hx hb dX0_shopOf_0 rfl (lv_at hl 0 rfl) ?_
  refine g0_0 qb F hw tw_9 dX0_shopOf_1 ?_
  refine lv_iload_n hx hb dX0_shopOf_4 rfl (lv_at hl 1 rfl) ?_
  obtain ⟨g1, hf⟩ := gd_some hf
  refine x_iald F hw (sD1 qb) g1 dX0_shopOf_5 ?_
  refine lv_iconst (v := 2) hx hb dX0_shopOf_6 (by decide) ?_
  refine lv_ishr hx hb dX0_shopOf_7 ?_
  refine lv_bipush (v := 7) hx hb dX0_shopOf_8 (by decide) ?_
  refine lv_iand hx hb dX0_shopOf_10 ?_
  exact x_iret F hw hr hk hf dX0_shopOf_11
theorem dX0_otherOf_0 : decode cX0_otherOf 0 = .ok (.aload_n 0, 1) := by decide +kernel
theorem dX0_otherOf_1 : decode cX0_otherOf 1 = .ok (.getfield 9, 3) := by decide +kernel
theorem dX0_otherOf_4 : decode cX0_otherOf 4 = .ok (.iload_n 1, 1) := by decide +kernel
theorem dX0_otherOf_5 : decode cX0_otherOf 5 = .ok (.iaload, 1) := by decide +kernel
theorem dX0_otherOf_6 : decode cX0_otherOf 6 = .ok (.iconst 5, 1) := by decide +kernel
theorem dX0_otherOf_7 : decode cX0_otherOf 7 = .ok (.ishr, 1) := by decide +kernel
theorem dX0_otherOf_8 : decode cX0_otherOf 8 = .ok (.bipush 7, 2) := by decide +kernel
theorem dX0_otherOf_10 : decode cX0_otherOf 10 = .ok (.iand, 1) := by decide +kernel
theorem dX0_otherOf_11 : decode cX0_otherOf 11 = .ok (.ireturn, 1) := by decide +kernel
def p0_otherOf (b : Nat) (a1 : Int32) (M : SX) : Option (Int32 × SX) :=
  gd (bIn a1 40) ( some (((M.1 (b + 1) (Int32.toNatClampNeg a1)) >>> ((5 : Int32) &&& 31)) &&& 7, M))
set_option maxHeartbeats 4000000 in
set_option maxRecDepth 100000 in
theorem c0_otherOf {l : Launch} {G : XG} {r : Int32} {M' : SX} {M : SX} (b : Nat) (qb : isD b) (a1 : Int32) (hf : p0_otherOf b a1 M = some (r, M')) : Met l yX0_otherOf (.code yX0_otherOf cX0_otherOf 2 (some .int) :: TBL) (rmX 0) (xPc G ZX M [.ref (G.2.1 b), .int a1]) (xQi G ZX r M') 0 0 (inA G ZX) := by
  refine x_met (cc := cX0_otherOf) (by decide) (Nat.le_of_ble_eq_true rfl) ?_
  intro p e s m below meth c ls F hr hk hl hw
  have F : Fx G ZX p m c cX0_otherOf 2 s [.ref (G.2.1 b), .int a1].toArray RX0 := F
  have hl : lv_has ls 2 [(0, .ref (G.2.1 b)), (1, .int a1)] := hl
  have hx := F.1.1
  have hb := F.1.2.1
  unfold p0_otherOf at hf
  refine lv_aload_n hx hb dX0_otherOf_0 rfl (lv_at hl 0 rfl) ?_
  refine g0_0 qb F hw tw_9 dX0_otherOf_1 ?_
  refine lv_iload_n hx hb dX0_otherOf_4 rfl (lv_at hl 1 rfl) ?_
  obtain ⟨g1, hf⟩ := gd_some hf
  refine x_iald F hw (sD1 qb) g1 dX0_otherOf_5 ?_
  refine lv_iconst (v := 5) hx hb dX0_otherOf_6 (by decide) ?_
  refine lv_ishr hx hb dX0_otherOf_7 ?_
  refine lv_bipush (v := 7) hx hb dX0_otherOf_8 (by decide) ?_
  refine lv_iand hx hb dX0_otherOf_10 ?_
  exact x_iret F hw hr hk hf dX0_otherOf_11
theorem dX0_numberOf_0 : decode cX0_numberOf 0 = .ok (.aload_n 0, 1) := by decide +kernel
theorem dX0_numberOf_1 : decode cX0_numberOf 1 = .ok (.getfield 9, 3) := by decide +kernel
theorem dX0_numberOf_4 : decode cX0_numberOf 4 = .ok (.iload_n 1, 1) := by decide +kernel
theorem dX0_numberOf_5 : decode cX0_numberOf 5 = .ok (.iaload, 1) := by decide +kernel
theorem dX0_numberOf_6 : decode cX0_numberOf 6 = .ok (.bipush 8, 2) := by decide +kernel
theorem dX0_numberOf_8 : decode cX0_numberOf 8 = .ok (.ishr, 1) := by decide +kernel
theorem dX0_numberOf_9 : decode cX0_numberOf 9 = .ok (.bipush 127, 2) := by decide +kernel
theorem dX0_numberOf_11 : decode cX0_numberOf 11 = .ok (.iand, 1) := by decide +kernel
theorem dX0_numberOf_12 : decode cX0_numberOf 12 = .ok (.ireturn, 1) := by decide +kernel
def p0_numberOf (b : Nat) (a1 : Int32) (M : SX) : Option (Int32 × SX) :=
  gd (bIn a1 40) ( some (((M.1 (b + 1) (Int32.toNatClampNeg a1)) >>> ((8 : Int32) &&& 31)) &&& 127, M))
set_option maxHeartbeats 4000000 in
set_option maxRecDepth 100000 in
theorem c0_numberOf {l : Launch} {G : XG} {r : Int32} {M' : SX} {M : SX} (b : Nat) (qb : isD b) (a1 : Int32) (hf : p0_numberOf b a1 M = some (r, M')) : Met l yX0_numberOf (.code yX0_numberOf cX0_numberOf 2 (some .int) :: TBL) (rmX 0) (xPc G ZX M [.ref (G.2.1 b), .int a1]) (xQi G ZX r M') 0 0 (inA G ZX) := by
  refine x_met (cc := cX0_numberOf) (by decide) (Nat.le_of_ble_eq_true rfl) ?_
  intro p e s m below meth c ls F hr hk hl hw
  have F : Fx G ZX p m c cX0_numberOf 2 s [.ref (G.2.1 b), .int a1].toArray RX0 := F
  have hl : lv_has ls 2 [(0, .ref (G.2.1 b)), (1, .int a1)] := hl
  have hx := F.1.1
  have hb := F.1.2.1
  unfold p0_numberOf at hf
  refine lv_aload_n hx hb dX0_numberOf_0 rfl (lv_at hl 0 rfl) ?_
  refine g0_0 qb F hw tw_9 dX0_numberOf_1 ?_
  refine lv_iload_n hx hb dX0_numberOf_4 rfl (lv_at hl 1 rfl) ?_
  obtain ⟨g1, hf⟩ := gd_some hf
  refine x_iald F hw (sD1 qb) g1 dX0_numberOf_5 ?_
  refine lv_bipush (v := 8) hx hb dX0_numberOf_6 (by decide) ?_
  refine lv_ishr hx hb dX0_numberOf_8 ?_
  refine lv_bipush (v := 127) hx hb dX0_numberOf_9 (by decide) ?_
  refine lv_iand hx hb dX0_numberOf_11 ?_
  exact x_iret F hw hr hk hf dX0_numberOf_12
theorem dX0_weeksOf_0 : decode cX0_weeksOf 0 = .ok (.aload_n 0, 1) := by decide +kernel
theorem dX0_weeksOf_1 : decode cX0_weeksOf 1 = .ok (.getfield 9, 3) := by decide +kernel
theorem dX0_weeksOf_4 : decode cX0_weeksOf 4 = .ok (.iload_n 1, 1) := by decide +kernel
theorem dX0_weeksOf_5 : decode cX0_weeksOf 5 = .ok (.iaload, 1) := by decide +kernel
theorem dX0_weeksOf_6 : decode cX0_weeksOf 6 = .ok (.bipush 15, 2) := by decide +kernel
theorem dX0_weeksOf_8 : decode cX0_weeksOf 8 = .ok (.ishr, 1) := by decide +kernel
theorem dX0_weeksOf_9 : decode cX0_weeksOf 9 = .ok (.bipush 127, 2) := by decide +kernel
theorem dX0_weeksOf_11 : decode cX0_weeksOf 11 = .ok (.iand, 1) := by decide +kernel
theorem dX0_weeksOf_12 : decode cX0_weeksOf 12 = .ok (.ireturn, 1) := by decide +kernel
def p0_weeksOf (b : Nat) (a1 : Int32) (M : SX) : Option (Int32 × SX) :=
  gd (bIn a1 40) ( some (((M.1 (b + 1) (Int32.toNatClampNeg a1)) >>> ((15 : Int32) &&& 31)) &&& 127, M))
set_option maxHeartbeats 4000000 in
set_option maxRecDepth 100000 in
theorem c0_weeksOf {l : Launch} {G : XG} {r : Int32} {M' : SX} {M : SX} (b : Nat) (qb : isD b) (a1 : Int32) (hf : p0_weeksOf b a1 M = some (r, M')) : Met l yX0_weeksOf (.code yX0_weeksOf cX0_weeksOf 2 (some .int) :: TBL) (rmX 0) (xPc G ZX M [.ref (G.2.1 b), .int a1]) (xQi G ZX r M') 0 0 (inA G ZX) := by
  refine x_met (cc := cX0_weeksOf) (by decide) (Nat.le_of_ble_eq_true rfl) ?_
  intro p e s m below meth c ls F hr hk hl hw
  have F : Fx G ZX p m c cX0_weeksOf 2 s [.ref (G.2.1 b), .int a1].toArray RX0 := F
  have hl : lv_has ls 2 [(0, .ref (G.2.1 b)), (1, .int a1)] := hl
  have hx := F.1.1
  have hb := F.1.2.1
  unfold p0_weeksOf at hf
  refine lv_aload_n hx hb dX0_weeksOf_0 rfl (lv_at hl 0 rfl) ?_
  refine g0_0 qb F hw tw_9 dX0_weeksOf_1 ?_
  refine lv_iload_n hx hb dX0_weeksOf_4 rfl (lv_at hl 1 rfl) ?_
  obtain ⟨g1, hf⟩ := gd_some hf
  refine x_iald F hw (sD1 qb) g1 dX0_weeksOf_5 ?_
  refine lv_bipush (v := 15) hx hb dX0_weeksOf_6 (by decide) ?_
  refine lv_ishr hx hb dX0_weeksOf_8 ?_
  refine lv_bipush (v := 127) hx hb dX0_weeksOf_9 (by decide) ?_
  refine lv_iand hx hb dX0_weeksOf_11 ?_
  exact x_iret F hw hr hk hf dX0_weeksOf_12
theorem dX0_add_0 : decode cX0_add 0 = .ok (.aload_n 0, 1) := by decide +kernel
theorem dX0_add_1 : decode cX0_add 1 = .ok (.iconst 1, 1) := by decide +kernel
theorem dX0_add_2 : decode cX0_add 2 = .ok (.invokevirtual 19, 3) := by decide +kernel
theorem dX0_add_5 : decode cX0_add 5 = .ok (.ifCond .ne 4, 3) := by decide +kernel
theorem dX0_add_8 : decode cX0_add 8 = .ok (.return_, 1) := by decide +kernel
theorem dX0_add_9 : decode cX0_add 9 = .ok (.aload_n 0, 1) := by decide +kernel
theorem dX0_add_10 : decode cX0_add 10 = .ok (.getfield 9, 3) := by decide +kernel
theorem dX0_add_13 : decode cX0_add 13 = .ok (.aload_n 0, 1) := by decide +kernel
theorem dX0_add_14 : decode cX0_add 14 = .ok (.getfield 15, 3) := by decide +kernel
theorem dX0_add_17 : decode cX0_add 17 = .ok (.iload_n 1, 1) := by decide +kernel
theorem dX0_add_18 : decode cX0_add 18 = .ok (.iload_n 2, 1) := by decide +kernel
theorem dX0_add_19 : decode cX0_add 19 = .ok (.iconst 2, 1) := by decide +kernel
theorem dX0_add_20 : decode cX0_add 20 = .ok (.ishl, 1) := by decide +kernel
theorem dX0_add_21 : decode cX0_add 21 = .ok (.ior, 1) := by decide +kernel
theorem dX0_add_22 : decode cX0_add 22 = .ok (.iload_n 3, 1) := by decide +kernel
theorem dX0_add_23 : decode cX0_add 23 = .ok (.iconst 5, 1) := by decide +kernel
theorem dX0_add_24 : decode cX0_add 24 = .ok (.ishl, 1) := by decide +kernel
theorem dX0_add_25 : decode cX0_add 25 = .ok (.ior, 1) := by decide +kernel
theorem dX0_add_26 : decode cX0_add 26 = .ok (.iload 4, 2) := by decide +kernel
theorem dX0_add_28 : decode cX0_add 28 = .ok (.bipush 8, 2) := by decide +kernel
theorem dX0_add_30 : decode cX0_add 30 = .ok (.ishl, 1) := by decide +kernel
theorem dX0_add_31 : decode cX0_add 31 = .ok (.ior, 1) := by decide +kernel
theorem dX0_add_32 : decode cX0_add 32 = .ok (.iload 5, 2) := by decide +kernel
theorem dX0_add_34 : decode cX0_add 34 = .ok (.bipush 15, 2) := by decide +kernel
theorem dX0_add_36 : decode cX0_add 36 = .ok (.ishl, 1) := by decide +kernel
theorem dX0_add_37 : decode cX0_add 37 = .ok (.ior, 1) := by decide +kernel
theorem dX0_add_38 : decode cX0_add 38 = .ok (.iastore, 1) := by decide +kernel
theorem dX0_add_39 : decode cX0_add 39 = .ok (.aload_n 0, 1) := by decide +kernel
theorem dX0_add_40 : decode cX0_add 40 = .ok (.dup, 1) := by decide +kernel
theorem dX0_add_41 : decode cX0_add 41 = .ok (.getfield 15, 3) := by decide +kernel
theorem dX0_add_44 : decode cX0_add 44 = .ok (.iconst 1, 1) := by decide +kernel
theorem dX0_add_45 : decode cX0_add 45 = .ok (.iadd, 1) := by decide +kernel
theorem dX0_add_46 : decode cX0_add 46 = .ok (.putfield 15, 3) := by decide +kernel
theorem dX0_add_49 : decode cX0_add 49 = .ok (.return_, 1) := by decide +kernel
def p0_add (b : Nat) (a1 : Int32) (a2 : Int32) (a3 : Int32) (a4 : Int32) (a5 : Int32) (M : SX) : Option SX :=
  bd (p0_hasRoom b 1 M) (fun r3 M2 => if r3 = 0 then (some M2)
  else (gd (bIn (M2.1 b 1) 40) ( lt_ (wI M2 (b + 1) (Int32.toNatClampNeg (M2.1 b 1)) ((((a1 ||| (a2 <<< ((2 : Int32) &&& 31))) ||| (a3 <<< ((5 : Int32) &&& 31))) ||| (a4 <<< ((8 : Int32) &&& 31))) ||| (a5 <<< ((15 : Int32) &&& 31)))) (fun M6 => lt_ (wI M6 b 1 ((M6.1 b 1) + 1)) (fun M7 => some M7)))))
set_option maxHeartbeats 4000000 in
set_option maxRecDepth 100000 in
theorem c0_add {l : Launch} {G : XG} {M' : SX} {M : SX} (b : Nat) (qb : isD b) (a1 : Int32) (a2 : Int32) (a3 : Int32) (a4 : Int32) (a5 : Int32) (hf : p0_add b a1 a2 a3 a4 a5 M = some M') : Met l yX0_add (.code yX0_add cX0_add 6 none :: TBL) (rmX 1) (xPc G ZX M [.ref (G.2.1 b), .int a1, .int a2, .int a3, .int a4, .int a5]) (xQv G ZX M') 0 0 (inA G ZX) := by
  refine x_met (cc := cX0_add) (by decide) (Nat.le_of_ble_eq_true rfl) ?_
  intro p e s m below meth c ls F hr hk hl hw
  have F : Fx G ZX p m c cX0_add 6 s [.ref (G.2.1 b), .int a1, .int a2, .int a3, .int a4, .int a5].toArray RX0 := F
  have hl : lv_has ls 6 [(0, .ref (G.2.1 b)), (1, .int a1), (2, .int a2), (3, .int a3), (4, .int a4), (5, .int a5)] := hl
  have hx := F.1.1
  have hb := F.1.2.1
  unfold p0_add at hf
  refine lv_aload_n hx hb dX0_add_0 rfl (lv_at hl 0 rfl) ?_
  refine lv_iconst (v := 1) hx hb dX0_add_1 (by decide) ?_
  obtain ⟨r3, M2, hc1, hf⟩ := bd_some hf
  refine x_aftI hw (x_runV (rest := []) F hw hl.1 vw_RX0_19 (sD qb) rfl (c0_hasRoom b qb 1 hc1) rfl rfl (Nat.le_of_ble_eq_true rfl) ⟨Nat.le_of_ble_eq_true rfl, Nat.le_of_ble_eq_true rfl⟩ dX0_add_2) (fun H locs hw => ?_)
  refine lv_if_ne (tgt := 9) hx hb dX0_add_5 (by decide) (fun c4 => ?_) (fun c4 => ?_)
  · have hf := it_f hf c4
    refine lv_aload_n hx hb dX0_add_9 rfl (lv_at hl 0 rfl) ?_
    refine g0_0 qb F hw tw_9 dX0_add_10 ?_
    refine lv_aload_n hx hb dX0_add_13 rfl (lv_at hl 0 rfl) ?_
    refine g0_1 qb F hw tw_8 dX0_add_14 ?_
    refine lv_iload_n hx hb dX0_add_17 rfl (lv_at hl 1 rfl) ?_
    refine lv_iload_n hx hb dX0_add_18 rfl (lv_at hl 2 rfl) ?_
    refine lv_iconst (v := 2) hx hb dX0_add_19 (by decide) ?_
    refine lv_ishl hx hb dX0_add_20 ?_
    refine lv_ior hx hb dX0_add_21 ?_
    refine lv_iload_n hx hb dX0_add_22 rfl (lv_at hl 3 rfl) ?_
    refine lv_iconst (v := 5) hx hb dX0_add_23 (by decide) ?_
    refine lv_ishl hx hb dX0_add_24 ?_
    refine lv_ior hx hb dX0_add_25 ?_
    refine lv_iload hx hb dX0_add_26 (lv_at hl 4 rfl) ?_
    refine lv_bipush (v := 8) hx hb dX0_add_28 (by decide) ?_
    refine lv_ishl hx hb dX0_add_30 ?_
    refine lv_ior hx hb dX0_add_31 ?_
    refine lv_iload hx hb dX0_add_32 (lv_at hl 5 rfl) ?_
    refine lv_bipush (v := 15) hx hb dX0_add_34 (by decide) ?_
    refine lv_ishl hx hb dX0_add_36 ?_
    refine lv_ior hx hb dX0_add_37 ?_
    obtain ⟨g5, hf⟩ := gd_some hf
    refine x_iast F hw (sD1 qb) g5 dX0_add_38 (fun H locs hw => ?_)
    obtain ⟨M6, eM6, hf⟩ := lt_elim hf
    rw [← eM6] at hw
    refine lv_aload_n hx hb dX0_add_39 rfl (lv_at hl 0 rfl) ?_
    refine lv_dup hx hb dX0_add_40 rfl ?_
    refine g0_1 qb F hw tw_8 dX0_add_41 ?_
    refine lv_iconst (v := 1) hx hb dX0_add_44 (by decide) ?_
    refine lv_iadd hx hb dX0_add_45 ?_
    refine s0_1 qb F hw tw_8 dX0_add_46 (fun H locs hw => ?_)
    obtain ⟨M7, eM7, hf⟩ := lt_elim hf
    rw [← eM7] at hw
    exact x_vret F hw hr hk hf dX0_add_49
  · have hf := it_t hf c4
    exact x_vret F hw hr hk hf dX0_add_8
theorem dX0_becomeLike_0 : decode cX0_becomeLike 0 = .ok (.aload_n 1, 1) := by decide +kernel
theorem dX0_becomeLike_1 : decode cX0_becomeLike 1 = .ok (.getfield 9, 3) := by decide +kernel
theorem dX0_becomeLike_4 : decode cX0_becomeLike 4 = .ok (.iconst 0, 1) := by decide +kernel
theorem dX0_becomeLike_5 : decode cX0_becomeLike 5 = .ok (.aload_n 0, 1) := by decide +kernel
theorem dX0_becomeLike_6 : decode cX0_becomeLike 6 = .ok (.getfield 9, 3) := by decide +kernel
theorem dX0_becomeLike_9 : decode cX0_becomeLike 9 = .ok (.iconst 0, 1) := by decide +kernel
theorem dX0_becomeLike_10 : decode cX0_becomeLike 10 = .ok (.bipush 40, 2) := by decide +kernel
theorem dX0_becomeLike_12 : decode cX0_becomeLike 12 = .ok (.invokestatic 23, 3) := by decide +kernel
theorem dX0_becomeLike_15 : decode cX0_becomeLike 15 = .ok (.aload_n 0, 1) := by decide +kernel
theorem dX0_becomeLike_16 : decode cX0_becomeLike 16 = .ok (.aload_n 1, 1) := by decide +kernel
theorem dX0_becomeLike_17 : decode cX0_becomeLike 17 = .ok (.getfield 15, 3) := by decide +kernel
theorem dX0_becomeLike_20 : decode cX0_becomeLike 20 = .ok (.putfield 15, 3) := by decide +kernel
theorem dX0_becomeLike_23 : decode cX0_becomeLike 23 = .ok (.return_, 1) := by decide +kernel
def p0_becomeLike (b : Nat) (b2 : Nat) (M : SX) : Option SX :=
  gd (cpOk 0 0 40 40 40) ( lt_ (wR M (b + 1) (va_cpy (M.1 (b2 + 1)) (M.1 (b + 1)) (Int32.toNatClampNeg 0) (Int32.toNatClampNeg 0) (Int32.toNatClampNeg 40))) (fun M2 => lt_ (wI M2 b 1 (M2.1 b2 1)) (fun M3 => some M3)))
set_option maxHeartbeats 4000000 in
set_option maxRecDepth 100000 in
theorem c0_becomeLike {l : Launch} {G : XG} {M' : SX} {M : SX} (b : Nat) (qb : isD b) (b2 : Nat) (qb2 : isD b2) (hf : p0_becomeLike b b2 M = some M') : Met l yX0_becomeLike (.code yX0_becomeLike cX0_becomeLike 2 none :: TBL) (rmX 1) (xPc G ZX M [.ref (G.2.1 b), .ref (G.2.1 b2)]) (xQv G ZX M') 0 0 (inA G ZX) := by
  refine x_met (cc := cX0_becomeLike) (by decide) (Nat.le_of_ble_eq_true rfl) ?_
  intro p e s m below meth c ls F hr hk hl hw
  have F : Fx G ZX p m c cX0_becomeLike 2 s [.ref (G.2.1 b), .ref (G.2.1 b2)].toArray RX0 := F
  have hl : lv_has ls 2 [(0, .ref (G.2.1 b)), (1, .ref (G.2.1 b2))] := hl
  have hx := F.1.1
  have hb := F.1.2.1
  unfold p0_becomeLike at hf
  refine lv_aload_n hx hb dX0_becomeLike_0 rfl (lv_at hl 1 rfl) ?_
  refine g0_0 qb2 F hw tw_9 dX0_becomeLike_1 ?_
  refine lv_iconst (v := 0) hx hb dX0_becomeLike_4 (by decide) ?_
  refine lv_aload_n hx hb dX0_becomeLike_5 rfl (lv_at hl 0 rfl) ?_
  refine g0_0 qb F hw tw_9 dX0_becomeLike_6 ?_
  refine lv_iconst (v := 0) hx hb dX0_becomeLike_9 (by decide) ?_
  refine lv_bipush (v := 40) hx hb dX0_becomeLike_10 (by decide) ?_
  obtain ⟨g1, hf⟩ := gd_some hf
  refine x_copy F hw hl.1 (sD1 qb2) (sD1 qb) g1 tw_16 tw_17 tw_18 tw_19 (Nat.le_of_ble_eq_true rfl) (Nat.le_of_ble_eq_true rfl) dX0_becomeLike_12 (fun H locs hw => ?_)
  obtain ⟨M2, eM2, hf⟩ := lt_elim hf
  rw [← eM2] at hw
  refine lv_aload_n hx hb dX0_becomeLike_15 rfl (lv_at hl 0 rfl) ?_
  refine lv_aload_n hx hb dX0_becomeLike_16 rfl (lv_at hl 1 rfl) ?_
  refine g0_1 qb2 F hw tw_8 dX0_becomeLike_17 ?_
  refine s0_1 qb F hw tw_8 dX0_becomeLike_20 (fun H locs hw => ?_)
  obtain ⟨M3, eM3, hf⟩ := lt_elim hf
  rw [← eM3] at hw
  exact x_vret F hw hr hk hf dX0_becomeLike_23
