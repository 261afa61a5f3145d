theorem dX4_isNumber_0 : decode cX4_isNumber 0 = .ok (.iload_n 1, 1) := by decide +kernel
theorem dX4_isNumber_1 : decode cX4_isNumber 1 = .ok (.ifCond .lt 16, 3) := by decide +kernel
theorem dX4_isNumber_4 : decode cX4_isNumber 4 = .ok (.iload_n 1, 1) := by decide +kernel
theorem dX4_isNumber_5 : decode cX4_isNumber 5 = .ok (.aload_n 0, 1) := by decide +kernel
theorem dX4_isNumber_6 : decode cX4_isNumber 6 = .ok (.getfield 13, 3) := by decide +kernel
theorem dX4_isNumber_9 : decode cX4_isNumber 9 = .ok (.arraylength, 1) := by decide +kernel
theorem dX4_isNumber_10 : decode cX4_isNumber 10 = .ok (.if_icmp .ge 7, 3) := by decide +kernel
theorem dX4_isNumber_13 : decode cX4_isNumber 13 = .ok (.iconst 1, 1) := by decide +kernel
theorem dX4_isNumber_14 : decode cX4_isNumber 14 = .ok (.goto 4, 3) := by decide +kernel
theorem dX4_isNumber_17 : decode cX4_isNumber 17 = .ok (.iconst 0, 1) := by decide +kernel
theorem dX4_isNumber_18 : decode cX4_isNumber 18 = .ok (.ireturn, 1) := by decide +kernel
def p4_isNumber (b : Nat) (a1 : Int32) (M : SX) : Option (Int32 × SX) :=
  if a1 < 0 then (some (0, M))
  else (if (Int32.ofNat (szS b)) ≤ a1 then (some (0, M))
  else (some (1, M)))
set_option maxHeartbeats 4000000 in
set_option maxRecDepth 100000 in
theorem c4_isNumber {l : Launch} {G : XG} {r : Int32} {M' : SX} {M : SX} (b : Nat) (qb : isS b) (a1 : Int32) (hf : p4_isNumber b a1 M = some (r, M')) : Met l yX4_isNumber (.code yX4_isNumber cX4_isNumber 2 (some .boolean) :: TBL) (rmX 0) (xPc G ZX M [.ref (G.2.1 b), .int a1]) (xQi G ZX r M') 0 0 (inA G ZX) := by
  refine x_met (cc := cX4_isNumber) (by decide) (Nat.le_of_ble_eq_true rfl) ?_
  intro p e s m below meth c ls F hr hk hl hw
  have F : Fx G ZX p m c cX4_isNumber 2 s [.ref (G.2.1 b), .int a1].toArray RX4 := F
  have hl : lv_has ls 2 [(0, .ref (G.2.1 b)), (1, .int a1)] := hl
  have hx := F.1.1
  have hb := F.1.2.1
  unfold p4_isNumber at hf
  refine lv_iload_n hx hb dX4_isNumber_0 rfl (lv_at hl 1 rfl) ?_
  refine lv_if_lt (tgt := 17) hx hb dX4_isNumber_1 (by decide) (fun c1 => ?_) (fun c1 => ?_)
  · have hf := it_t hf c1
    refine lv_iconst (v := 0) hx hb dX4_isNumber_17 (by decide) ?_
    exact x_zret F hw hr hk (by decide) hf dX4_isNumber_18
  · have hf := it_f hf c1
    refine lv_iload_n hx hb dX4_isNumber_4 rfl (lv_at hl 1 rfl) ?_
    refine lv_aload_n hx hb dX4_isNumber_5 rfl (lv_at hl 0 rfl) ?_
    refine g4_1 qb F hw tw_20 dX4_isNumber_6 ?_
    refine x_alenI F hw (sS1 qb) dX4_isNumber_9 ?_
    refine lv_icmp_ge (tgt := 17) hx hb dX4_isNumber_10 (by decide) (fun c2 => ?_) (fun c2 => ?_)
    · have hf := it_t hf c2
      refine lv_iconst (v := 0) hx hb dX4_isNumber_17 (by decide) ?_
      exact x_zret F hw hr hk (by decide) hf dX4_isNumber_18
    · have hf := it_f hf c2
      refine lv_iconst (v := 1) hx hb dX4_isNumber_13 (by decide) ?_
      refine lv_goto (tgt := 18) hx hb dX4_isNumber_14 (by decide) ?_
      exact x_zret F hw hr hk (by decide) hf dX4_isNumber_18
theorem dX4_isThere_0 : decode cX4_isThere 0 = .ok (.aload_n 0, 1) := by decide +kernel
theorem dX4_isThere_1 : decode cX4_isThere 1 = .ok (.getfield 13, 3) := by decide +kernel
theorem dX4_isThere_4 : decode cX4_isThere 4 = .ok (.iload_n 1, 1) := by decide +kernel
theorem dX4_isThere_5 : decode cX4_isThere 5 = .ok (.iaload, 1) := by decide +kernel
theorem dX4_isThere_6 : decode cX4_isThere 6 = .ok (.iconst (-1), 1) := by decide +kernel
theorem dX4_isThere_7 : decode cX4_isThere 7 = .ok (.if_icmp .eq 7, 3) := by decide +kernel
theorem dX4_isThere_10 : decode cX4_isThere 10 = .ok (.iconst 1, 1) := by decide +kernel
theorem dX4_isThere_11 : decode cX4_isThere 11 = .ok (.goto 4, 3) := by decide +kernel
theorem dX4_isThere_14 : decode cX4_isThere 14 = .ok (.iconst 0, 1) := by decide +kernel
theorem dX4_isThere_15 : decode cX4_isThere 15 = .ok (.ireturn, 1) := by decide +kernel
def p4_isThere (b : Nat) (a1 : Int32) (M : SX) : Option (Int32 × SX) :=
  gd (bIn a1 (szS b)) ( if (M.1 (b + 1) (Int32.toNatClampNeg a1)) = (-1 : Int32) then (some (0, M))
  else (some (1, M)))
set_option maxHeartbeats 4000000 in
set_option maxRecDepth 100000 in
theorem c4_isThere {l : Launch} {G : XG} {r : Int32} {M' : SX} {M : SX} (b : Nat) (qb : isS b) (a1 : Int32) (hf : p4_isThere b a1 M = some (r, M')) : Met l yX4_isThere (.code yX4_isThere cX4_isThere 2 (some .boolean) :: TBL) (rmX 0) (xPc G ZX M [.ref (G.2.1 b), .int a1]) (xQi G ZX r M') 0 0 (inA G ZX) := by
  refine x_met (cc := cX4_isThere) (by decide) (Nat.le_of_ble_eq_true rfl) ?_
  intro p e s m below meth c ls F hr hk hl hw
  have F : Fx G ZX p m c cX4_isThere 2 s [.ref (G.2.1 b), .int a1].toArray RX4 := F
  have hl : lv_has ls 2 [(0, .ref (G.2.1 b)), (1, .int a1)] := hl
  have hx := F.1.1
  have hb := F.1.2.1
  unfold p4_isThere at hf
  refine lv_aload_n hx hb dX4_isThere_0 rfl (lv_at hl 0 rfl) ?_
  refine g4_1 qb F hw tw_20 dX4_isThere_1 ?_
  refine lv_iload_n hx hb dX4_isThere_4 rfl (lv_at hl 1 rfl) ?_
  obtain ⟨g1, hf⟩ := gd_some hf
  refine x_iald F hw (sS1 qb) g1 dX4_isThere_5 ?_
  refine lv_iconst (v := (-1)) hx hb dX4_isThere_6 (by decide) ?_
  refine lv_icmp_eq (tgt := 14) hx hb dX4_isThere_7 (by decide) (fun c2 => ?_) (fun c2 => ?_)
  · have hf := it_t hf c2
    refine lv_iconst (v := 0) hx hb dX4_isThere_14 (by decide) ?_
    exact x_zret F hw hr hk (by decide) hf dX4_isThere_15
  · have hf := it_f hf c2
    refine lv_iconst (v := 1) hx hb dX4_isThere_10 (by decide) ?_
    refine lv_goto (tgt := 15) hx hb dX4_isThere_11 (by decide) ?_
    exact x_zret F hw hr hk (by decide) hf dX4_isThere_15
theorem dX4_sizeOf_0 : decode cX4_sizeOf 0 = .ok (.aload_n 0, 1) := by decide +kernel
theorem dX4_sizeOf_1 : decode cX4_sizeOf 1 = .ok (.getfield 13, 3) := by decide +kernel
theorem dX4_sizeOf_4 : decode cX4_sizeOf 4 = .ok (.iload_n 1, 1) := by decide +kernel
theorem dX4_sizeOf_5 : decode cX4_sizeOf 5 = .ok (.iaload, 1) := by decide +kernel
theorem dX4_sizeOf_6 : decode cX4_sizeOf 6 = .ok (.ireturn, 1) := by decide +kernel
def p4_sizeOf (b : Nat) (a1 : Int32) (M : SX) : Option (Int32 × SX) :=
  gd (bIn a1 (szS b)) ( some (M.1 (b + 1) (Int32.toNatClampNeg a1), M))
set_option maxHeartbeats 4000000 in
set_option maxRecDepth 100000 in
theorem c4_sizeOf {l : Launch} {G : XG} {r : Int32} {M' : SX} {M : SX} (b : Nat) (qb : isS b) (a1 : Int32) (hf : p4_sizeOf b a1 M = some (r, M')) : Met l yX4_sizeOf (.code yX4_sizeOf cX4_sizeOf 2 (some .int) :: TBL) (rmX 0) (xPc G ZX M [.ref (G.2.1 b), .int a1]) (xQi G ZX r M') 0 0 (inA G ZX) := by
  refine x_met (cc := cX4_sizeOf) (by decide) (Nat.le_of_ble_eq_true rfl) ?_
  intro p e s m below meth c ls F hr hk hl hw
  have F : Fx G ZX p m c cX4_sizeOf 2 s [.ref (G.2.1 b), .int a1].toArray RX4 := F
  have hl : lv_has ls 2 [(0, .ref (G.2.1 b)), (1, .int a1)] := hl
  have hx := F.1.1
  have hb := F.1.2.1
  unfold p4_sizeOf at hf
  refine lv_aload_n hx hb dX4_sizeOf_0 rfl (lv_at hl 0 rfl) ?_
  refine g4_1 qb F hw tw_20 dX4_sizeOf_1 ?_
  refine lv_iload_n hx hb dX4_sizeOf_4 rfl (lv_at hl 1 rfl) ?_
  obtain ⟨g1, hf⟩ := gd_some hf
  refine x_iald F hw (sS1 qb) g1 dX4_sizeOf_5 ?_
  exact x_iret F hw hr hk hf dX4_sizeOf_6
theorem dX4_hasPlaces_0 : decode cX4_hasPlaces 0 = .ok (.iload_n 2, 1) := by decide +kernel
theorem dX4_hasPlaces_1 : decode cX4_hasPlaces 1 = .ok (.ifCond .lt 19, 3) := by decide +kernel
theorem dX4_hasPlaces_4 : decode cX4_hasPlaces 4 = .ok (.iload_n 2, 1) := by decide +kernel
theorem dX4_hasPlaces_5 : decode cX4_hasPlaces 5 = .ok (.aload_n 0, 1) := by decide +kernel
theorem dX4_hasPlaces_6 : decode cX4_hasPlaces 6 = .ok (.getfield 13, 3) := by decide +kernel
theorem dX4_hasPlaces_9 : decode cX4_hasPlaces 9 = .ok (.iload_n 1, 1) := by decide +kernel
theorem dX4_hasPlaces_10 : decode cX4_hasPlaces 10 = .ok (.iaload, 1) := by decide +kernel
theorem dX4_hasPlaces_11 : decode cX4_hasPlaces 11 = .ok (.iload_n 3, 1) := by decide +kernel
theorem dX4_hasPlaces_12 : decode cX4_hasPlaces 12 = .ok (.isub, 1) := by decide +kernel
theorem dX4_hasPlaces_13 : decode cX4_hasPlaces 13 = .ok (.if_icmp .gt 7, 3) := by decide +kernel
theorem dX4_hasPlaces_16 : decode cX4_hasPlaces 16 = .ok (.iconst 1, 1) := by decide +kernel
theorem dX4_hasPlaces_17 : decode cX4_hasPlaces 17 = .ok (.goto 4, 3) := by decide +kernel
theorem dX4_hasPlaces_20 : decode cX4_hasPlaces 20 = .ok (.iconst 0, 1) := by decide +kernel
theorem dX4_hasPlaces_21 : decode cX4_hasPlaces 21 = .ok (.ireturn, 1) := by decide +kernel
def p4_hasPlaces (b : Nat) (a1 : Int32) (a2 : Int32) (a3 : Int32) (M : SX) : Option (Int32 × SX) :=
  if a2 < 0 then (some (0, M))
  else (gd (bIn a1 (szS b)) ( if ((M.1 (b + 1) (Int32.toNatClampNeg a1)) - a3) < a2 then (some (0, M))
  else (some (1, M))))
set_option maxHeartbeats 4000000 in
set_option maxRecDepth 100000 in
theorem c4_hasPlaces {l : Launch} {G : XG} {r : Int32} {M' : SX} {M : SX} (b : Nat) (qb : isS b) (a1 : Int32) (a2 : Int32) (a3 : Int32) (hf : p4_hasPlaces b a1 a2 a3 M = some (r, M')) : Met l yX4_hasPlaces (.code yX4_hasPlaces cX4_hasPlaces 4 (some .boolean) :: TBL) (rmX 0) (xPc G ZX M [.ref (G.2.1 b), .int a1, .int a2, .int a3]) (xQi G ZX r M') 0 0 (inA G ZX) := by
  refine x_met (cc := cX4_hasPlaces) (by decide) (Nat.le_of_ble_eq_true rfl) ?_
  intro p e s m below meth c ls F hr hk hl hw
  have F : Fx G ZX p m c cX4_hasPlaces 4 s [.ref (G.2.1 b), .int a1, .int a2, .int a3].toArray RX4 := F
  have hl : lv_has ls 4 [(0, .ref (G.2.1 b)), (1, .int a1), (2, .int a2), (3, .int a3)] := hl
  have hx := F.1.1
  have hb := F.1.2.1
  unfold p4_hasPlaces at hf
  refine lv_iload_n hx hb dX4_hasPlaces_0 rfl (lv_at hl 2 rfl) ?_
  refine lv_if_lt (tgt := 20) hx hb dX4_hasPlaces_1 (by decide) (fun c1 => ?_) (fun c1 => ?_)
  · have hf := it_t hf c1
    refine lv_iconst (v := 0) hx hb dX4_hasPlaces_20 (by decide) ?_
    exact x_zret F hw hr hk (by decide) hf dX4_hasPlaces_21
  · have hf := it_f hf c1
    refine lv_iload_n hx hb dX4_hasPlaces_4 rfl (lv_at hl 2 rfl) ?_
    refine lv_aload_n hx hb dX4_hasPlaces_5 rfl (lv_at hl 0 rfl) ?_
    refine g4_1 qb F hw tw_20 dX4_hasPlaces_6 ?_
    refine lv_iload_n hx hb dX4_hasPlaces_9 rfl (lv_at hl 1 rfl) ?_
    obtain ⟨g2, hf⟩ := gd_some hf
    refine x_iald F hw (sS1 qb) g2 dX4_hasPlaces_10 ?_
    refine lv_iload_n hx hb dX4_hasPlaces_11 rfl (lv_at hl 3 rfl) ?_
    refine lv_isub hx hb dX4_hasPlaces_12 ?_
    refine lv_icmp_gt (tgt := 20) hx hb dX4_hasPlaces_13 (by decide) (fun c3 => ?_) (fun c3 => ?_)
    · have hf := it_t hf c3
      refine lv_iconst (v := 0) hx hb dX4_hasPlaces_20 (by decide) ?_
      exact x_zret F hw hr hk (by decide) hf dX4_hasPlaces_21
    · have hf := it_f hf c3
      refine lv_iconst (v := 1) hx hb dX4_hasPlaces_16 (by decide) ?_
      refine lv_goto (tgt := 21) hx hb dX4_hasPlaces_17 (by decide) ?_
      exact x_zret F hw hr hk (by decide) hf dX4_hasPlaces_21
theorem dX4_remove_0 : decode cX4_remove 0 = .ok (.aload_n 0, 1) := by decide +kernel
theorem dX4_remove_1 : decode cX4_remove 1 = .ok (.getfield 13, 3) := by decide +kernel
theorem dX4_remove_4 : decode cX4_remove 4 = .ok (.iload_n 1, 1) := by decide +kernel
theorem dX4_remove_5 : decode cX4_remove 5 = .ok (.iconst (-1), 1) := by decide +kernel
theorem dX4_remove_6 : decode cX4_remove 6 = .ok (.iastore, 1) := by decide +kernel
theorem dX4_remove_7 : decode cX4_remove 7 = .ok (.return_, 1) := by decide +kernel
def p4_remove (b : Nat) (a1 : Int32) (M : SX) : Option SX :=
  gd (bIn a1 (szS b)) ( lt_ (wI M (b + 1) (Int32.toNatClampNeg a1) (-1)) (fun M2 => some M2))
set_option maxHeartbeats 4000000 in
set_option maxRecDepth 100000 in
theorem c4_remove {l : Launch} {G : XG} {M' : SX} {M : SX} (b : Nat) (qb : isS b) (a1 : Int32) (hf : p4_remove b a1 M = some M') : Met l yX4_remove (.code yX4_remove cX4_remove 2 none :: TBL) (rmX 0) (xPc G ZX M [.ref (G.2.1 b), .int a1]) (xQv G ZX M') 0 0 (inA G ZX) := by
  refine x_met (cc := cX4_remove) (by decide) (Nat.le_of_ble_eq_true rfl) ?_
  intro p e s m below meth c ls F hr hk hl hw
  have F : Fx G ZX p m c cX4_remove 2 s [.ref (G.2.1 b), .int a1].toArray RX4 := F
  have hl : lv_has ls 2 [(0, .ref (G.2.1 b)), (1, .int a1)] := hl
  have hx := F.1.1
  have hb := F.1.2.1
  unfold p4_remove at hf
  refine lv_aload_n hx hb dX4_remove_0 rfl (lv_at hl 0 rfl) ?_
  refine g4_1 qb F hw tw_20 dX4_remove_1 ?_
  refine lv_iload_n hx hb dX4_remove_4 rfl (lv_at hl 1 rfl) ?_
  refine lv_iconst (v := (-1)) hx hb dX4_remove_5 (by decide) ?_
  obtain ⟨g1, hf⟩ := gd_some hf
  refine x_iast F hw (sS1 qb) g1 dX4_remove_6 (fun H locs hw => ?_)
  obtain ⟨M2, eM2, hf⟩ := lt_elim hf
  rw [← eM2] at hw
  exact x_vret F hw hr hk hf dX4_remove_7
theorem dX4_valueAt_0 : decode cX4_valueAt 0 = .ok (.aload_n 0, 1) := by decide +kernel
theorem dX4_valueAt_1 : decode cX4_valueAt 1 = .ok (.getfield 17, 3) := by decide +kernel
theorem dX4_valueAt_4 : decode cX4_valueAt 4 = .ok (.iload_n 1, 1) := by decide +kernel
theorem dX4_valueAt_5 : decode cX4_valueAt 5 = .ok (.aload_n 0, 1) := by decide +kernel
theorem dX4_valueAt_6 : decode cX4_valueAt 6 = .ok (.getfield 7, 3) := by decide +kernel
theorem dX4_valueAt_9 : decode cX4_valueAt 9 = .ok (.imul, 1) := by decide +kernel
theorem dX4_valueAt_10 : decode cX4_valueAt 10 = .ok (.iload_n 2, 1) := by decide +kernel
theorem dX4_valueAt_11 : decode cX4_valueAt 11 = .ok (.iadd, 1) := by decide +kernel
theorem dX4_valueAt_12 : decode cX4_valueAt 12 = .ok (.iaload, 1) := by decide +kernel
theorem dX4_valueAt_13 : decode cX4_valueAt 13 = .ok (.ireturn, 1) := by decide +kernel
def p4_valueAt (b : Nat) (a1 : Int32) (a2 : Int32) (M : SX) : Option (Int32 × SX) :=
  gd (bIn ((a1 * (M.1 b 0)) + a2) 240) ( some (M.1 (b + 2) (Int32.toNatClampNeg ((a1 * (M.1 b 0)) + a2)), M))
set_option maxHeartbeats 4000000 in
set_option maxRecDepth 100000 in
theorem c4_valueAt {l : Launch} {G : XG} {r : Int32} {M' : SX} {M : SX} (b : Nat) (qb : isS b) (a1 : Int32) (a2 : Int32) (hf : p4_valueAt b a1 a2 M = some (r, M')) : Met l yX4_valueAt (.code yX4_valueAt cX4_valueAt 3 (some .int) :: TBL) (rmX 0) (xPc G ZX M [.ref (G.2.1 b), .int a1, .int a2]) (xQi G ZX r M') 0 0 (inA G ZX) := by
  refine x_met (cc := cX4_valueAt) (by decide) (Nat.le_of_ble_eq_true rfl) ?_
  intro p e s m below meth c ls F hr hk hl hw
  have F : Fx G ZX p m c cX4_valueAt 3 s [.ref (G.2.1 b), .int a1, .int a2].toArray RX4 := F
  have hl : lv_has ls 3 [(0, .ref (G.2.1 b)), (1, .int a1), (2, .int a2)] := hl
  have hx := F.1.1
  have hb := F.1.2.1
  unfold p4_valueAt at hf
  refine lv_aload_n hx hb dX4_valueAt_0 rfl (lv_at hl 0 rfl) ?_
  refine g4_2 qb F hw tw_21 dX4_valueAt_1 ?_
  refine lv_iload_n hx hb dX4_valueAt_4 rfl (lv_at hl 1 rfl) ?_
  refine lv_aload_n hx hb dX4_valueAt_5 rfl (lv_at hl 0 rfl) ?_
  refine g4_0 qb F hw tw_22 dX4_valueAt_6 ?_
  refine lv_imul hx hb dX4_valueAt_9 ?_
  refine lv_iload_n hx hb dX4_valueAt_10 rfl (lv_at hl 2 rfl) ?_
  refine lv_iadd hx hb dX4_valueAt_11 ?_
  obtain ⟨g1, hf⟩ := gd_some hf
  refine x_iald F hw (sS2 qb) g1 dX4_valueAt_12 ?_
  exact x_iret F hw hr hk hf dX4_valueAt_13
theorem dX4_setValue_0 : decode cX4_setValue 0 = .ok (.aload_n 0, 1) := by decide +kernel
theorem dX4_setValue_1 : decode cX4_setValue 1 = .ok (.getfield 17, 3) := by decide +kernel
theorem dX4_setValue_4 : decode cX4_setValue 4 = .ok (.iload_n 1, 1) := by decide +kernel
theorem dX4_setValue_5 : decode cX4_setValue 5 = .ok (.aload_n 0, 1) := by decide +kernel
theorem dX4_setValue_6 : decode cX4_setValue 6 = .ok (.getfield 7, 3) := by decide +kernel
theorem dX4_setValue_9 : decode cX4_setValue 9 = .ok (.imul, 1) := by decide +kernel
theorem dX4_setValue_10 : decode cX4_setValue 10 = .ok (.iload_n 2, 1) := by decide +kernel
theorem dX4_setValue_11 : decode cX4_setValue 11 = .ok (.iadd, 1) := by decide +kernel
theorem dX4_setValue_12 : decode cX4_setValue 12 = .ok (.iload_n 3, 1) := by decide +kernel
theorem dX4_setValue_13 : decode cX4_setValue 13 = .ok (.iastore, 1) := by decide +kernel
theorem dX4_setValue_14 : decode cX4_setValue 14 = .ok (.return_, 1) := by decide +kernel
def p4_setValue (b : Nat) (a1 : Int32) (a2 : Int32) (a3 : Int32) (M : SX) : Option SX :=
  gd (bIn ((a1 * (M.1 b 0)) + a2) 240) ( lt_ (wI M (b + 2) (Int32.toNatClampNeg ((a1 * (M.1 b 0)) + a2)) a3) (fun M2 => some M2))
set_option maxHeartbeats 4000000 in
set_option maxRecDepth 100000 in
theorem c4_setValue {l : Launch} {G : XG} {M' : SX} {M : SX} (b : Nat) (qb : isS b) (a1 : Int32) (a2 : Int32) (a3 : Int32) (hf : p4_setValue b a1 a2 a3 M = some M') : Met l yX4_setValue (.code yX4_setValue cX4_setValue 4 none :: TBL) (rmX 0) (xPc G ZX M [.ref (G.2.1 b), .int a1, .int a2, .int a3]) (xQv G ZX M') 0 0 (inA G ZX) := by
  refine x_met (cc := cX4_setValue) (by decide) (Nat.le_of_ble_eq_true rfl) ?_
  intro p e s m below meth c ls F hr hk hl hw
  have F : Fx G ZX p m c cX4_setValue 4 s [.ref (G.2.1 b), .int a1, .int a2, .int a3].toArray RX4 := F
  have hl : lv_has ls 4 [(0, .ref (G.2.1 b)), (1, .int a1), (2, .int a2), (3, .int a3)] := hl
  have hx := F.1.1
  have hb := F.1.2.1
  unfold p4_setValue at hf
  refine lv_aload_n hx hb dX4_setValue_0 rfl (lv_at hl 0 rfl) ?_
  refine g4_2 qb F hw tw_21 dX4_setValue_1 ?_
  refine lv_iload_n hx hb dX4_setValue_4 rfl (lv_at hl 1 rfl) ?_
  refine lv_aload_n hx hb dX4_setValue_5 rfl (lv_at hl 0 rfl) ?_
  refine g4_0 qb F hw tw_22 dX4_setValue_6 ?_
  refine lv_imul hx hb dX4_setValue_9 ?_
  refine lv_iload_n hx hb dX4_setValue_10 rfl (lv_at hl 2 rfl) ?_
  refine lv_iadd hx hb dX4_setValue_11 ?_
  refine lv_iload_n hx hb dX4_setValue_12 rfl (lv_at hl 3 rfl) ?_
  obtain ⟨g1, hf⟩ := gd_some hf
  refine x_iast F hw (sS2 qb) g1 dX4_setValue_13 (fun H locs hw => ?_)
  obtain ⟨M2, eM2, hf⟩ := lt_elim hf
  rw [← eM2] at hw
  exact x_vret F hw hr hk hf dX4_setValue_14
theorem dX4_begin_0 : decode cX4_begin 0 = .ok (.aload_n 0, 1) := by decide +kernel
theorem dX4_begin_1 : decode cX4_begin 1 = .ok (.getfield 13, 3) := by decide +kernel
theorem dX4_begin_4 : decode cX4_begin 4 = .ok (.iload_n 1, 1) := by decide +kernel
theorem dX4_begin_5 : decode cX4_begin 5 = .ok (.iload_n 2, 1) := by decide +kernel
theorem dX4_begin_6 : decode cX4_begin 6 = .ok (.iastore, 1) := by decide +kernel
theorem dX4_begin_7 : decode cX4_begin 7 = .ok (.iconst 0, 1) := by decide +kernel
theorem dX4_begin_8 : decode cX4_begin 8 = .ok (.istore 4, 2) := by decide +kernel
theorem dX4_begin_10 : decode cX4_begin 10 = .ok (.iload 4, 2) := by decide +kernel
theorem dX4_begin_12 : decode cX4_begin 12 = .ok (.iload_n 2, 1) := by decide +kernel
theorem dX4_begin_13 : decode cX4_begin 13 = .ok (.if_icmp .ge 17, 3) := by decide +kernel
theorem dX4_begin_16 : decode cX4_begin 16 = .ok (.aload_n 0, 1) := by decide +kernel
theorem dX4_begin_17 : decode cX4_begin 17 = .ok (.iload_n 1, 1) := by decide +kernel
theorem dX4_begin_18 : decode cX4_begin 18 = .ok (.iload 4, 2) := by decide +kernel
theorem dX4_begin_20 : decode cX4_begin 20 = .ok (.iload_n 3, 1) := by decide +kernel
theorem dX4_begin_21 : decode cX4_begin 21 = .ok (.invokevirtual 26, 3) := by decide +kernel
theorem dX4_begin_24 : decode cX4_begin 24 = .ok (.iinc 4 1, 3) := by decide +kernel
theorem dX4_begin_27 : decode cX4_begin 27 = .ok (.goto (-17), 3) := by decide +kernel
theorem dX4_begin_30 : decode cX4_begin 30 = .ok (.return_, 1) := by decide +kernel
def p4_begin_10 (b : Nat) (k10 : Int32 → Int32 → Int32 → Int32 → SX → Option SX) (v1 : Int32) (v2 : Int32) (v3 : Int32) (v4 : Int32) (M : SX) : Option SX :=
  if v2 ≤ v4 then (some M)
  else (bv (p4_setValue b v1 v4 v3 M) (fun M3 => lt_ (v4 + 1) (fun x4 => k10 v1 v2 v3 x4 M3)))
set_option maxHeartbeats 4000000 in
set_option maxRecDepth 100000 in
theorem w4_begin_10 {G : XG} {p : Program} {l : Launch} {e : Env} {s : State} {m : MethodId} {args : Array Value} {below : List Frame} {meth : Method} {c : Code} (F : Fx G ZX p m c cX4_begin 5 s args RX4) (hr : meth.sig.returnType = none) (hk : meth.locks = false) {M' : SX} (b : Nat) (qb : isS b) (k10 : Int32 → Int32 → Int32 → Int32 → SX → Option SX) (hk10 : ∀ (v1 : Int32) (v2 : Int32) (v3 : Int32) (v4 : Int32) (M : SX) (H : Heap) (locs : List Loc) (ls : Array Slot), Wld G ZX M s.heap H locs → lv_has ls 5 [(0, .ref (G.2.1 b)), (1, .int v1), (2, .int v2), (3, .int v3), (4, .int v4)] → k10 v1 v2 v3 v4 M = some M' → WXv G ZX p l e 1 s m args below meth c M' H locs (F0 m 10 ls [])) : ∀ (v1 : Int32) (v2 : Int32) (v3 : Int32) (v4 : Int32) (M : SX) (H : Heap) (locs : List Loc) (ls : Array Slot), Wld G ZX M s.heap H locs → lv_has ls 5 [(0, .ref (G.2.1 b)), (1, .int v1), (2, .int v2), (3, .int v3), (4, .int v4)] → p4_begin_10 b k10 v1 v2 v3 v4 M = some M' → WXv G ZX p l e 1 s m args below meth c M' H locs (F0 m 10 ls []) := by
  intro v1 v2 v3 v4 M H locs ls hw hl hf
  have hx := F.1.1
  have hb := F.1.2.1
  unfold p4_begin_10 at hf
  refine lv_iload hx hb dX4_begin_10 (lv_at hl 4 rfl) ?_
  refine lv_iload_n hx hb dX4_begin_12 rfl (lv_at hl 2 rfl) ?_
  refine lv_icmp_ge (tgt := 30) hx hb dX4_begin_13 (by decide) (fun c1 => ?_) (fun c1 => ?_)
  · have hf := it_t hf c1
    exact x_vret F hw hr hk hf dX4_begin_30
  · have hf := it_f hf c1
    refine lv_aload_n hx hb dX4_begin_16 rfl (lv_at hl 0 rfl) ?_
    refine lv_iload_n hx hb dX4_begin_17 rfl (lv_at hl 1 rfl) ?_
    refine lv_iload hx hb dX4_begin_18 (lv_at hl 4 rfl) ?_
    refine lv_iload_n hx hb dX4_begin_20 rfl (lv_at hl 3 rfl) ?_
    obtain ⟨M3, hc2, hf⟩ := bv_some hf
    refine x_aftV hw (x_runV (rest := []) F hw hl.1 vw_RX4_26 (sS qb) rfl (c4_setValue b qb v1 v4 v3 hc2) rfl rfl (Nat.le_of_ble_eq_true rfl) ⟨Nat.le_of_ble_eq_true rfl, Nat.le_of_ble_eq_true rfl⟩ dX4_begin_21) (fun H locs hw => ?_)
    obtain ⟨x4, ex4, hf⟩ := lt_elim hf
    refine lv_iinc (v := x4) (lv' := [(4, .int x4), (0, .ref (G.2.1 b)), (1, .int v1), (2, .int v2), (3, .int v3)]) hx hb dX4_begin_24 hl (k := 4) rfl (by rw [ex4]; rfl) (by decide) rfl (fun ls hl => ?_)
    refine lv_goto (tgt := 10) hx hb dX4_begin_27 (by decide) ?_
    exact hk10 v1 v2 v3 x4 M3 _ _ ls hw (lv_sub hl [1, 2, 3, 4, 0] rfl) hf
theorem z4_begin_10 {G : XG} {p : Program} {l : Launch} {e : Env} {s : State} {m : MethodId} {args : Array Value} {below : List Frame} {meth : Method} {c : Code} (F : Fx G ZX p m c cX4_begin 5 s args RX4) (hr : meth.sig.returnType = none) (hk : meth.locks = false) {M' : SX} (b : Nat) (qb : isS b) : ∀ n : Nat, ∀ (v1 : Int32) (v2 : Int32) (v3 : Int32) (v4 : Int32) (M : SX) (H : Heap) (locs : List Loc) (ls : Array Slot), Wld G ZX M s.heap H locs → lv_has ls 5 [(0, .ref (G.2.1 b)), (1, .int v1), (2, .int v2), (3, .int v3), (4, .int v4)] → xlp4 (p4_begin_10 b) n v1 v2 v3 v4 M = some M' → WXv G ZX p l e 1 s m args below meth c M' H locs (F0 m 10 ls []) := by
  intro n
  induction n with
  | zero => intro _ _ _ _ _ _ _ _ _ _ hf; cases hf
  | succ n ih => exact w4_begin_10 F hr hk b qb (xlp4 (p4_begin_10 b) n) ih
def p4_begin (b : Nat) (a1 : Int32) (a2 : Int32) (a3 : Int32) (M : SX) : Option SX :=
  gd (bIn a1 (szS b)) ( lt_ (wI M (b + 1) (Int32.toNatClampNeg a1) a2) (fun M2 => xlp4 (p4_begin_10 b) FU a1 a2 a3 0 M2))
set_option maxHeartbeats 4000000 in
set_option maxRecDepth 100000 in
theorem c4_begin {l : Launch} {G : XG} {M' : SX} {M : SX} (b : Nat) (qb : isS b) (a1 : Int32) (a2 : Int32) (a3 : Int32) (hf : p4_begin b a1 a2 a3 M = some M') : Met l yX4_begin (.code yX4_begin cX4_begin 5 none :: TBL) (rmX 1) (xPc G ZX M [.ref (G.2.1 b), .int a1, .int a2, .int a3]) (xQv G ZX M') 0 0 (inA G ZX) := by
  refine x_met (cc := cX4_begin) (by decide) (Nat.le_of_ble_eq_true rfl) ?_
  intro p e s m below meth c ls F hr hk hl hw
  have F : Fx G ZX p m c cX4_begin 5 s [.ref (G.2.1 b), .int a1, .int a2, .int a3].toArray RX4 := F
  have hl : lv_has ls 5 [(0, .ref (G.2.1 b)), (1, .int a1), (2, .int a2), (3, .int a3)] := hl
  have hx := F.1.1
  have hb := F.1.2.1
  unfold p4_begin at hf
  refine lv_aload_n hx hb dX4_begin_0 rfl (lv_at hl 0 rfl) ?_
  refine g4_1 qb F hw tw_20 dX4_begin_1 ?_
  refine lv_iload_n hx hb dX4_begin_4 rfl (lv_at hl 1 rfl) ?_
  refine lv_iload_n hx hb dX4_begin_5 rfl (lv_at hl 2 rfl) ?_
  obtain ⟨g1, hf⟩ := gd_some hf
  refine x_iast F hw (sS1 qb) g1 dX4_begin_6 (fun H locs hw => ?_)
  obtain ⟨M2, eM2, hf⟩ := lt_elim hf
  rw [← eM2] at hw
  refine lv_iconst (v := 0) hx hb dX4_begin_7 (by decide) ?_
  refine lv_istore (lv' := [(4, .int 0), (0, .ref (G.2.1 b)), (1, .int a1), (2, .int a2), (3, .int a3)]) hx hb dX4_begin_8 hl (by decide) rfl (fun ls hl => ?_)
  exact z4_begin_10 F hr hk b qb FU a1 a2 a3 0 M2 _ _ ls hw (lv_sub hl [1, 2, 3, 4, 0] rfl) hf
theorem dX4_move_0 : decode cX4_move 0 = .ok (.aload_n 0, 1) := by decide +kernel
theorem dX4_move_1 : decode cX4_move 1 = .ok (.getfield 17, 3) := by decide +kernel
theorem dX4_move_4 : decode cX4_move 4 = .ok (.iload_n 1, 1) := by decide +kernel
theorem dX4_move_5 : decode cX4_move 5 = .ok (.aload_n 0, 1) := by decide +kernel
theorem dX4_move_6 : decode cX4_move 6 = .ok (.getfield 7, 3) := by decide +kernel
theorem dX4_move_9 : decode cX4_move 9 = .ok (.imul, 1) := by decide +kernel
theorem dX4_move_10 : decode cX4_move 10 = .ok (.iload_n 2, 1) := by decide +kernel
theorem dX4_move_11 : decode cX4_move 11 = .ok (.iadd, 1) := by decide +kernel
theorem dX4_move_12 : decode cX4_move 12 = .ok (.aload_n 0, 1) := by decide +kernel
theorem dX4_move_13 : decode cX4_move 13 = .ok (.getfield 17, 3) := by decide +kernel
theorem dX4_move_16 : decode cX4_move 16 = .ok (.iload_n 3, 1) := by decide +kernel
theorem dX4_move_17 : decode cX4_move 17 = .ok (.aload_n 0, 1) := by decide +kernel
theorem dX4_move_18 : decode cX4_move 18 = .ok (.getfield 7, 3) := by decide +kernel
theorem dX4_move_21 : decode cX4_move 21 = .ok (.imul, 1) := by decide +kernel
theorem dX4_move_22 : decode cX4_move 22 = .ok (.iload 4, 2) := by decide +kernel
theorem dX4_move_24 : decode cX4_move 24 = .ok (.iadd, 1) := by decide +kernel
theorem dX4_move_25 : decode cX4_move 25 = .ok (.iload 5, 2) := by decide +kernel
theorem dX4_move_27 : decode cX4_move 27 = .ok (.invokestatic 30, 3) := by decide +kernel
theorem dX4_move_30 : decode cX4_move 30 = .ok (.return_, 1) := by decide +kernel
def p4_move (b : Nat) (a1 : Int32) (a2 : Int32) (a3 : Int32) (a4 : Int32) (a5 : Int32) (M : SX) : Option SX :=
  gd (cpOk ((a1 * (M.1 b 0)) + a2) ((a3 * (M.1 b 0)) + a4) a5 240 240) ( lt_ (wR M (b + 2) (va_cpy (M.1 (b + 2)) (M.1 (b + 2)) (Int32.toNatClampNeg ((a1 * (M.1 b 0)) + a2)) (Int32.toNatClampNeg ((a3 * (M.1 b 0)) + a4)) (Int32.toNatClampNeg a5))) (fun M2 => some M2))
set_option maxHeartbeats 4000000 in
set_option maxRecDepth 100000 in
theorem c4_move {l : Launch} {G : XG} {M' : SX} {M : SX} (b : Nat) (qb : isS b) (a1 : Int32) (a2 : Int32) (a3 : Int32) (a4 : Int32) (a5 : Int32) (hf : p4_move b a1 a2 a3 a4 a5 M = some M') : Met l yX4_move (.code yX4_move cX4_move 6 none :: TBL) (rmX 1) (xPc G ZX M [.ref (G.2.1 b), .int a1, .int a2, .int a3, .int a4, .int a5]) (xQv G ZX M') 0 0 (inA G ZX) := by
  refine x_met (cc := cX4_move) (by decide) (Nat.le_of_ble_eq_true rfl) ?_
  intro p e s m below meth c ls F hr hk hl hw
  have F : Fx G ZX p m c cX4_move 6 s [.ref (G.2.1 b), .int a1, .int a2, .int a3, .int a4, .int a5].toArray RX4 := F
  have hl : lv_has ls 6 [(0, .ref (G.2.1 b)), (1, .int a1), (2, .int a2), (3, .int a3), (4, .int a4), (5, .int a5)] := hl
  have hx := F.1.1
  have hb := F.1.2.1
  unfold p4_move at hf
  refine lv_aload_n hx hb dX4_move_0 rfl (lv_at hl 0 rfl) ?_
  refine g4_2 qb F hw tw_21 dX4_move_1 ?_
  refine lv_iload_n hx hb dX4_move_4 rfl (lv_at hl 1 rfl) ?_
  refine lv_aload_n hx hb dX4_move_5 rfl (lv_at hl 0 rfl) ?_
  refine g4_0 qb F hw tw_22 dX4_move_6 ?_
  refine lv_imul hx hb dX4_move_9 ?_
  refine lv_iload_n hx hb dX4_move_10 rfl (lv_at hl 2 rfl) ?_
  refine lv_iadd hx hb dX4_move_11 ?_
  refine lv_aload_n hx hb dX4_move_12 rfl (lv_at hl 0 rfl) ?_
  refine g4_2 qb F hw tw_21 dX4_move_13 ?_
  refine lv_iload_n hx hb dX4_move_16 rfl (lv_at hl 3 rfl) ?_
  refine lv_aload_n hx hb dX4_move_17 rfl (lv_at hl 0 rfl) ?_
  refine g4_0 qb F hw tw_22 dX4_move_18 ?_
  refine lv_imul hx hb dX4_move_21 ?_
  refine lv_iload hx hb dX4_move_22 (lv_at hl 4 rfl) ?_
  refine lv_iadd hx hb dX4_move_24 ?_
  refine lv_iload hx hb dX4_move_25 (lv_at hl 5 rfl) ?_
  obtain ⟨g1, hf⟩ := gd_some hf
  refine x_copy F hw hl.1 (sS2 qb) (sS2 qb) g1 tw_29 tw_17 tw_18 tw_19 (Nat.le_of_ble_eq_true rfl) (Nat.le_of_ble_eq_true rfl) dX4_move_27 (fun H locs hw => ?_)
  obtain ⟨M2, eM2, hf⟩ := lt_elim hf
  rw [← eM2] at hw
  exact x_vret F hw hr hk hf dX4_move_30
theorem dX4_sumOf_0 : decode cX4_sumOf 0 = .ok (.lconst 0, 1) := by decide +kernel
theorem dX4_sumOf_1 : decode cX4_sumOf 1 = .ok (.lstore_n 2, 1) := by decide +kernel
theorem dX4_sumOf_2 : decode cX4_sumOf 2 = .ok (.iconst 0, 1) := by decide +kernel
theorem dX4_sumOf_3 : decode cX4_sumOf 3 = .ok (.istore 4, 2) := by decide +kernel
theorem dX4_sumOf_5 : decode cX4_sumOf 5 = .ok (.iload 4, 2) := by decide +kernel
theorem dX4_sumOf_7 : decode cX4_sumOf 7 = .ok (.aload_n 0, 1) := by decide +kernel
theorem dX4_sumOf_8 : decode cX4_sumOf 8 = .ok (.getfield 13, 3) := by decide +kernel
theorem dX4_sumOf_11 : decode cX4_sumOf 11 = .ok (.iload_n 1, 1) := by decide +kernel
theorem dX4_sumOf_12 : decode cX4_sumOf 12 = .ok (.iaload, 1) := by decide +kernel
theorem dX4_sumOf_13 : decode cX4_sumOf 13 = .ok (.if_icmp .ge 20, 3) := by decide +kernel
theorem dX4_sumOf_16 : decode cX4_sumOf 16 = .ok (.lload_n 2, 1) := by decide +kernel
theorem dX4_sumOf_17 : decode cX4_sumOf 17 = .ok (.aload_n 0, 1) := by decide +kernel
theorem dX4_sumOf_18 : decode cX4_sumOf 18 = .ok (.iload_n 1, 1) := by decide +kernel
theorem dX4_sumOf_19 : decode cX4_sumOf 19 = .ok (.iload 4, 2) := by decide +kernel
theorem dX4_sumOf_21 : decode cX4_sumOf 21 = .ok (.invokevirtual 36, 3) := by decide +kernel
theorem dX4_sumOf_24 : decode cX4_sumOf 24 = .ok (.i2l, 1) := by decide +kernel
theorem dX4_sumOf_25 : decode cX4_sumOf 25 = .ok (.ladd, 1) := by decide +kernel
theorem dX4_sumOf_26 : decode cX4_sumOf 26 = .ok (.lstore_n 2, 1) := by decide +kernel
theorem dX4_sumOf_27 : decode cX4_sumOf 27 = .ok (.iinc 4 1, 3) := by decide +kernel
theorem dX4_sumOf_30 : decode cX4_sumOf 30 = .ok (.goto (-25), 3) := by decide +kernel
theorem dX4_sumOf_33 : decode cX4_sumOf 33 = .ok (.lload_n 2, 1) := by decide +kernel
theorem dX4_sumOf_34 : decode cX4_sumOf 34 = .ok (.lreturn, 1) := by decide +kernel
def p4_sumOf_5 (b : Nat) (k5 : Int32 → Int64 → Int32 → SX → Option (Int64 × SX)) (v1 : Int32) (v2 : Int64) (v4 : Int32) (M : SX) : Option (Int64 × SX) :=
  gd (bIn v1 (szS b)) ( if (M.1 (b + 1) (Int32.toNatClampNeg v1)) ≤ v4 then (some (v2, M))
  else (bd (p4_valueAt b v1 v4 M) (fun r5 M4 => lt_ (v2 + (Int32.toInt64 r5)) (fun x6 => lt_ (v4 + 1) (fun x7 => k5 v1 x6 x7 M4)))))
set_option maxHeartbeats 4000000 in
set_option maxRecDepth 100000 in
theorem w4_sumOf_5 {G : XG} {p : Program} {l : Launch} {e : Env} {s : State} {m : MethodId} {args : Array Value} {below : List Frame} {meth : Method} {c : Code} (F : Fx G ZX p m c cX4_sumOf 5 s args RX4) (hr : meth.sig.returnType = some .long) (hk : meth.locks = false) {r : Int64} {M' : SX} (b : Nat) (qb : isS b) (k5 : Int32 → Int64 → Int32 → SX → Option (Int64 × SX)) (hk5 : ∀ (v1 : Int32) (v2 : Int64) (v4 : Int32) (M : SX) (H : Heap) (locs : List Loc) (ls : Array Slot), Wld G ZX M s.heap H locs → lv_has ls 5 [(0, .ref (G.2.1 b)), (1, .int v1), (2, .long v2), (4, .int v4)] → k5 v1 v2 v4 M = some (r, M') → WXl G ZX p l e 1 s m args below meth c r M' H locs (F0 m 5 ls [])) : ∀ (v1 : Int32) (v2 : Int64) (v4 : Int32) (M : SX) (H : Heap) (locs : List Loc) (ls : Array Slot), Wld G ZX M s.heap H locs → lv_has ls 5 [(0, .ref (G.2.1 b)), (1, .int v1), (2, .long v2), (4, .int v4)] → p4_sumOf_5 b k5 v1 v2 v4 M = some (r, M') → WXl G ZX p l e 1 s m args below meth c r M' H locs (F0 m 5 ls []) := by
  intro v1 v2 v4 M H locs ls hw hl hf
  have hx := F.1.1
  have hb := F.1.2.1
  unfold p4_sumOf_5 at hf
  refine lv_iload hx hb dX4_sumOf_5 (lv_at hl 3 rfl) ?_
  refine lv_aload_n hx hb dX4_sumOf_7 rfl (lv_at hl 0 rfl) ?_
  refine g4_1 qb F hw tw_20 dX4_sumOf_8 ?_
  refine lv_iload_n hx hb dX4_sumOf_11 rfl (lv_at hl 1 rfl) ?_
  obtain ⟨g1, hf⟩ := gd_some hf
  refine x_iald F hw (sS1 qb) g1 dX4_sumOf_12 ?_
  refine lv_icmp_ge (tgt := 33) hx hb dX4_sumOf_13 (by decide) (fun c2 => ?_) (fun c2 => ?_)
  · have hf := it_t hf c2
    refine lv_lload_n hx hb dX4_sumOf_33 rfl (lv_at hl 2 rfl) ?_
    exact x_lret F hw hr hk hf dX4_sumOf_34
  · have hf := it_f hf c2
    refine lv_lload_n hx hb dX4_sumOf_16 rfl (lv_at hl 2 rfl) ?_
    refine lv_aload_n hx hb dX4_sumOf_17 rfl (lv_at hl 0 rfl) ?_
    refine lv_iload_n hx hb dX4_sumOf_18 rfl (lv_at hl 1 rfl) ?_
    refine lv_iload hx hb dX4_sumOf_19 (lv_at hl 3 rfl) ?_
    obtain ⟨r5, M4, hc3, hf⟩ := bd_some hf
    refine x_aftI hw (x_runV (rest := [.long v2]) F hw hl.1 vw_RX4_36 (sS qb) rfl (c4_valueAt b qb v1 v4 hc3) rfl rfl (Nat.le_of_ble_eq_true rfl) ⟨Nat.le_of_ble_eq_true rfl, Nat.le_of_ble_eq_true rfl⟩ dX4_sumOf_21) (fun H locs hw => ?_)
    refine lv_i2l (v := Int32.toInt64 r5) hx hb dX4_sumOf_24 rfl ?_
    refine lv_ladd hx hb dX4_sumOf_25 ?_
    obtain ⟨x6, ex6, hf⟩ := lt_elim hf
    refine x_letL ex6 ?_
    refine lv_lstore_n (lv' := [(2, .long x6), (0, .ref (G.2.1 b)), (1, .int v1), (4, .int v4)]) hx hb dX4_sumOf_26 rfl hl (by decide) rfl (fun ls hl => ?_)
    obtain ⟨x7, ex7, hf⟩ := lt_elim hf
    refine lv_iinc (v := x7) (lv' := [(4, .int x7), (2, .long x6), (0, .ref (G.2.1 b)), (1, .int v1)]) hx hb dX4_sumOf_27 hl (k := 3) rfl (by rw [ex7]; rfl) (by decide) rfl (fun ls hl => ?_)
    refine lv_goto (tgt := 5) hx hb dX4_sumOf_30 (by decide) ?_
    exact hk5 v1 x6 x7 M4 _ _ ls hw (lv_sub hl [2, 3, 1, 0] rfl) hf
theorem z4_sumOf_5 {G : XG} {p : Program} {l : Launch} {e : Env} {s : State} {m : MethodId} {args : Array Value} {below : List Frame} {meth : Method} {c : Code} (F : Fx G ZX p m c cX4_sumOf 5 s args RX4) (hr : meth.sig.returnType = some .long) (hk : meth.locks = false) {r : Int64} {M' : SX} (b : Nat) (qb : isS b) : ∀ n : Nat, ∀ (v1 : Int32) (v2 : Int64) (v4 : Int32) (M : SX) (H : Heap) (locs : List Loc) (ls : Array Slot), Wld G ZX M s.heap H locs → lv_has ls 5 [(0, .ref (G.2.1 b)), (1, .int v1), (2, .long v2), (4, .int v4)] → xlp3 (p4_sumOf_5 b) n v1 v2 v4 M = some (r, M') → WXl G ZX p l e 1 s m args below meth c r M' H locs (F0 m 5 ls []) := by
  intro n
  induction n with
  | zero => intro _ _ _ _ _ _ _ _ _ hf; cases hf
  | succ n ih => exact w4_sumOf_5 F hr hk b qb (xlp3 (p4_sumOf_5 b) n) ih
def p4_sumOf (b : Nat) (a1 : Int32) (M : SX) : Option (Int64 × SX) :=
  xlp3 (p4_sumOf_5 b) FU a1 0 0 M
set_option maxHeartbeats 4000000 in
set_option maxRecDepth 100000 in
theorem c4_sumOf {l : Launch} {G : XG} {r : Int64} {M' : SX} {M : SX} (b : Nat) (qb : isS b) (a1 : Int32) (hf : p4_sumOf b a1 M = some (r, M')) : Met l yX4_sumOf (.code yX4_sumOf cX4_sumOf 5 (some .long) :: TBL) (rmX 1) (xPc G ZX M [.ref (G.2.1 b), .int a1]) (xQl G ZX r M') 0 0 (inA G ZX) := by
  refine x_met (cc := cX4_sumOf) (by decide) (Nat.le_of_ble_eq_true rfl) ?_
  intro p e s m below meth c ls F hr hk hl hw
  have F : Fx G ZX p m c cX4_sumOf 5 s [.ref (G.2.1 b), .int a1].toArray RX4 := F
  have hl : lv_has ls 5 [(0, .ref (G.2.1 b)), (1, .int a1)] := hl
  have hx := F.1.1
  have hb := F.1.2.1
  unfold p4_sumOf at hf
  refine lv_lconst (v := 0) hx hb dX4_sumOf_0 (by decide) ?_
  refine lv_lstore_n (lv' := [(2, .long 0), (0, .ref (G.2.1 b)), (1, .int a1)]) hx hb dX4_sumOf_1 rfl hl (by decide) rfl (fun ls hl => ?_)
  refine lv_iconst (v := 0) hx hb dX4_sumOf_2 (by decide) ?_
  refine lv_istore (lv' := [(4, .int 0), (2, .long 0), (0, .ref (G.2.1 b)), (1, .int a1)]) hx hb dX4_sumOf_3 hl (by decide) rfl (fun ls hl => ?_)
  exact z4_sumOf_5 F hr hk b qb FU a1 0 0 M _ _ ls hw (lv_sub hl [2, 3, 1, 0] rfl) hf
theorem dX4_allBelow_0 : decode cX4_allBelow 0 = .ok (.iconst 0, 1) := by decide +kernel
theorem dX4_allBelow_1 : decode cX4_allBelow 1 = .ok (.istore_n 3, 1) := by decide +kernel
theorem dX4_allBelow_2 : decode cX4_allBelow 2 = .ok (.iload_n 3, 1) := by decide +kernel
theorem dX4_allBelow_3 : decode cX4_allBelow 3 = .ok (.aload_n 0, 1) := by decide +kernel
theorem dX4_allBelow_4 : decode cX4_allBelow 4 = .ok (.getfield 13, 3) := by decide +kernel
theorem dX4_allBelow_7 : decode cX4_allBelow 7 = .ok (.iload_n 1, 1) := by decide +kernel
theorem dX4_allBelow_8 : decode cX4_allBelow 8 = .ok (.iaload, 1) := by decide +kernel
theorem dX4_allBelow_9 : decode cX4_allBelow 9 = .ok (.if_icmp .ge 30, 3) := by decide +kernel
theorem dX4_allBelow_12 : decode cX4_allBelow 12 = .ok (.aload_n 0, 1) := by decide +kernel
theorem dX4_allBelow_13 : decode cX4_allBelow 13 = .ok (.iload_n 1, 1) := by decide +kernel
theorem dX4_allBelow_14 : decode cX4_allBelow 14 = .ok (.iload_n 3, 1) := by decide +kernel
theorem dX4_allBelow_15 : decode cX4_allBelow 15 = .ok (.invokevirtual 36, 3) := by decide +kernel
theorem dX4_allBelow_18 : decode cX4_allBelow 18 = .ok (.istore 4, 2) := by decide +kernel
theorem dX4_allBelow_20 : decode cX4_allBelow 20 = .ok (.iload 4, 2) := by decide +kernel
theorem dX4_allBelow_22 : decode cX4_allBelow 22 = .ok (.ifCond .lt 9, 3) := by decide +kernel
theorem dX4_allBelow_25 : decode cX4_allBelow 25 = .ok (.iload 4, 2) := by decide +kernel
theorem dX4_allBelow_27 : decode cX4_allBelow 27 = .ok (.iload_n 2, 1) := by decide +kernel
theorem dX4_allBelow_28 : decode cX4_allBelow 28 = .ok (.if_icmp .lt 5, 3) := by decide +kernel
theorem dX4_allBelow_31 : decode cX4_allBelow 31 = .ok (.iconst 0, 1) := by decide +kernel
theorem dX4_allBelow_32 : decode cX4_allBelow 32 = .ok (.ireturn, 1) := by decide +kernel
theorem dX4_allBelow_33 : decode cX4_allBelow 33 = .ok (.iinc 3 1, 3) := by decide +kernel
theorem dX4_allBelow_36 : decode cX4_allBelow 36 = .ok (.goto (-34), 3) := by decide +kernel
theorem dX4_allBelow_39 : decode cX4_allBelow 39 = .ok (.iconst 1, 1) := by decide +kernel
theorem dX4_allBelow_40 : decode cX4_allBelow 40 = .ok (.ireturn, 1) := by decide +kernel
def p4_allBelow_2 (b : Nat) (k2 : Int32 → Int32 → Int32 → SX → Option (Int32 × SX)) (v1 : Int32) (v2 : Int32) (v3 : Int32) (M : SX) : Option (Int32 × SX) :=
  gd (bIn v1 (szS b)) ( if (M.1 (b + 1) (Int32.toNatClampNeg v1)) ≤ v3 then (some (1, M))
  else (bd (p4_valueAt b v1 v3 M) (fun r5 M4 => if r5 < 0 then (some (0, M4))
  else (if r5 < v2 then (lt_ (v3 + 1) (fun x8 => k2 v1 v2 x8 M4))
  else (some (0, M4))))))
set_option maxHeartbeats 4000000 in
set_option maxRecDepth 100000 in
theorem w4_allBelow_2 {G : XG} {p : Program} {l : Launch} {e : Env} {s : State} {m : MethodId} {args : Array Value} {below : List Frame} {meth : Method} {c : Code} (F : Fx G ZX p m c cX4_allBelow 5 s args RX4) (hr : meth.sig.returnType = some .boolean) (hk : meth.locks = false) {r : Int32} {M' : SX} (b : Nat) (qb : isS b) (k2 : Int32 → Int32 → Int32 → SX → Option (Int32 × SX)) (hk2 : ∀ (v1 : Int32) (v2 : Int32) (v3 : Int32) (M : SX) (H : Heap) (locs : List Loc) (ls : Array Slot), Wld G ZX M s.heap H locs → lv_has ls 5 [(0, .ref (G.2.1 b)), (1, .int v1), (2, .int v2), (3, .int v3)] → k2 v1 v2 v3 M = some (r, M') → WXi G ZX p l e 1 s m args below meth c r M' H locs (F0 m 2 ls [])) : ∀ (v1 : Int32) (v2 : Int32) (v3 : Int32) (M : SX) (H : Heap) (locs : List Loc) (ls : Array Slot), Wld G ZX M s.heap H locs → lv_has ls 5 [(0, .ref (G.2.1 b)), (1, .int v1), (2, .int v2), (3, .int v3)] → p4_allBelow_2 b k2 v1 v2 v3 M = some (r, M') → WXi G ZX p l e 1 s m args below meth c r M' H locs (F0 m 2 ls []) := by
  intro v1 v2 v3 M H locs ls hw hl hf
  have hx := F.1.1
  have hb := F.1.2.1
  unfold p4_allBelow_2 at hf
  refine lv_iload_n hx hb dX4_allBelow_2 rfl (lv_at hl 3 rfl) ?_
  refine lv_aload_n hx hb dX4_allBelow_3 rfl (lv_at hl 0 rfl) ?_
  refine g4_1 qb F hw tw_20 dX4_allBelow_4 ?_
  refine lv_iload_n hx hb dX4_allBelow_7 rfl (lv_at hl 1 rfl) ?_
  obtain ⟨g1, hf⟩ := gd_some hf
  refine x_iald F hw (sS1 qb) g1 dX4_allBelow_8 ?_
  refine lv_icmp_ge (tgt := 39) hx hb dX4_allBelow_9 (by decide) (fun c2 => ?_) (fun c2 => ?_)
  · have hf := it_t hf c2
    refine lv_iconst (v := 1) hx hb dX4_allBelow_39 (by decide) ?_
    exact x_zret F hw hr hk (by decide) hf dX4_allBelow_40
  · have hf := it_f hf c2
    refine lv_aload_n hx hb dX4_allBelow_12 rfl (lv_at hl 0 rfl) ?_
    refine lv_iload_n hx hb dX4_allBelow_13 rfl (lv_at hl 1 rfl) ?_
    refine lv_iload_n hx hb dX4_allBelow_14 rfl (lv_at hl 3 rfl) ?_
    obtain ⟨r5, M4, hc3, hf⟩ := bd_some hf
    refine x_aftI hw (x_runV (rest := []) F hw hl.1 vw_RX4_36 (sS qb) rfl (c4_valueAt b qb v1 v3 hc3) rfl rfl (Nat.le_of_ble_eq_true rfl) ⟨Nat.le_of_ble_eq_true rfl, Nat.le_of_ble_eq_true rfl⟩ dX4_allBelow_15) (fun H locs hw => ?_)
    refine lv_istore (lv' := [(4, .int r5), (0, .ref (G.2.1 b)), (1, .int v1), (2, .int v2), (3, .int v3)]) hx hb dX4_allBelow_18 hl (by decide) rfl (fun ls hl => ?_)
    refine lv_iload hx hb dX4_allBelow_20 (lv_at hl 0 rfl) ?_
    refine lv_if_lt (tgt := 31) hx hb dX4_allBelow_22 (by decide) (fun c6 => ?_) (fun c6 => ?_)
    · have hf := it_t hf c6
      refine lv_iconst (v := 0) hx hb dX4_allBelow_31 (by decide) ?_
      exact x_zret F hw hr hk (by decide) hf dX4_allBelow_32
    · have hf := it_f hf c6
      refine lv_iload hx hb dX4_allBelow_25 (lv_at hl 0 rfl) ?_
      refine lv_iload_n hx hb dX4_allBelow_27 rfl (lv_at hl 3 rfl) ?_
      refine lv_icmp_lt (tgt := 33) hx hb dX4_allBelow_28 (by decide) (fun c7 => ?_) (fun c7 => ?_)
      · have hf := it_t hf c7
        obtain ⟨x8, ex8, hf⟩ := lt_elim hf
        refine lv_iinc (v := x8) (lv' := [(3, .int x8), (4, .int r5), (0, .ref (G.2.1 b)), (1, .int v1), (2, .int v2)]) hx hb dX4_allBelow_33 hl (k := 4) rfl (by rw [ex8]; rfl) (by decide) rfl (fun ls hl => ?_)
        refine lv_goto (tgt := 2) hx hb dX4_allBelow_36 (by decide) ?_
        exact hk2 v1 v2 x8 M4 _ _ ls hw (lv_sub hl [2, 3, 4, 0] rfl) hf
      · have hf := it_f hf c7
        refine lv_iconst (v := 0) hx hb dX4_allBelow_31 (by decide) ?_
        exact x_zret F hw hr hk (by decide) hf dX4_allBelow_32
theorem z4_allBelow_2 {G : XG} {p : Program} {l : Launch} {e : Env} {s : State} {m : MethodId} {args : Array Value} {below : List Frame} {meth : Method} {c : Code} (F : Fx G ZX p m c cX4_allBelow 5 s args RX4) (hr : meth.sig.returnType = some .boolean) (hk : meth.locks = false) {r : Int32} {M' : SX} (b : Nat) (qb : isS b) : ∀ n : Nat, ∀ (v1 : Int32) (v2 : Int32) (v3 : Int32) (M : SX) (H : Heap) (locs : List Loc) (ls : Array Slot), Wld G ZX M s.heap H locs → lv_has ls 5 [(0, .ref (G.2.1 b)), (1, .int v1), (2, .int v2), (3, .int v3)] → xlp3 (p4_allBelow_2 b) n v1 v2 v3 M = some (r, M') → WXi G ZX p l e 1 s m args below meth c r M' H locs (F0 m 2 ls []) := by
  intro n
  induction n with
  | zero => intro _ _ _ _ _ _ _ _ _ hf; cases hf
  | succ n ih => exact w4_allBelow_2 F hr hk b qb (xlp3 (p4_allBelow_2 b) n) ih
def p4_allBelow (b : Nat) (a1 : Int32) (a2 : Int32) (M : SX) : Option (Int32 × SX) :=
  xlp3 (p4_allBelow_2 b) FU a1 a2 0 M
set_option maxHeartbeats 4000000 in
set_option maxRecDepth 100000 in
theorem c4_allBelow {l : Launch} {G : XG} {r : Int32} {M' : SX} {M : SX} (b : Nat) (qb : isS b) (a1 : Int32) (a2 : Int32) (hf : p4_allBelow b a1 a2 M = some (r, M')) : Met l yX4_allBelow (.code yX4_allBelow cX4_allBelow 5 (some .boolean) :: TBL) (rmX 1) (xPc G ZX M [.ref (G.2.1 b), .int a1, .int a2]) (xQi G ZX r M') 0 0 (inA G ZX) := by
  refine x_met (cc := cX4_allBelow) (by decide) (Nat.le_of_ble_eq_true rfl) ?_
  intro p e s m below meth c ls F hr hk hl hw
  have F : Fx G ZX p m c cX4_allBelow 5 s [.ref (G.2.1 b), .int a1, .int a2].toArray RX4 := F
  have hl : lv_has ls 5 [(0, .ref (G.2.1 b)), (1, .int a1), (2, .int a2)] := hl
  have hx := F.1.1
  have hb := F.1.2.1
  unfold p4_allBelow at hf
  refine lv_iconst (v := 0) hx hb dX4_allBelow_0 (by decide) ?_
  refine lv_istore_n (lv' := [(3, .int 0), (0, .ref (G.2.1 b)), (1, .int a1), (2, .int a2)]) hx hb dX4_allBelow_1 rfl hl (by decide) rfl (fun ls hl => ?_)
  exact z4_allBelow_2 F hr hk b qb FU a1 a2 0 M _ _ ls hw (lv_sub hl [1, 2, 3, 0] rfl) hf
theorem dX4_howMany_0 : decode cX4_howMany 0 = .ok (.iconst 0, 1) := by decide +kernel
theorem dX4_howMany_1 : decode cX4_howMany 1 = .ok (.istore_n 1, 1) := by decide +kernel
theorem dX4_howMany_2 : decode cX4_howMany 2 = .ok (.iconst 0, 1) := by decide +kernel
theorem dX4_howMany_3 : decode cX4_howMany 3 = .ok (.istore_n 2, 1) := by decide +kernel
theorem dX4_howMany_4 : decode cX4_howMany 4 = .ok (.iload_n 2, 1) := by decide +kernel
theorem dX4_howMany_5 : decode cX4_howMany 5 = .ok (.aload_n 0, 1) := by decide +kernel
theorem dX4_howMany_6 : decode cX4_howMany 6 = .ok (.getfield 13, 3) := by decide +kernel
theorem dX4_howMany_9 : decode cX4_howMany 9 = .ok (.arraylength, 1) := by decide +kernel
theorem dX4_howMany_10 : decode cX4_howMany 10 = .ok (.if_icmp .ge 20, 3) := by decide +kernel
theorem dX4_howMany_13 : decode cX4_howMany 13 = .ok (.aload_n 0, 1) := by decide +kernel
theorem dX4_howMany_14 : decode cX4_howMany 14 = .ok (.iload_n 2, 1) := by decide +kernel
theorem dX4_howMany_15 : decode cX4_howMany 15 = .ok (.invokevirtual 40, 3) := by decide +kernel
theorem dX4_howMany_18 : decode cX4_howMany 18 = .ok (.ifCond .eq 6, 3) := by decide +kernel
theorem dX4_howMany_21 : decode cX4_howMany 21 = .ok (.iinc 1 1, 3) := by decide +kernel
theorem dX4_howMany_24 : decode cX4_howMany 24 = .ok (.iinc 2 1, 3) := by decide +kernel
theorem dX4_howMany_27 : decode cX4_howMany 27 = .ok (.goto (-23), 3) := by decide +kernel
theorem dX4_howMany_30 : decode cX4_howMany 30 = .ok (.iload_n 1, 1) := by decide +kernel
theorem dX4_howMany_31 : decode cX4_howMany 31 = .ok (.ireturn, 1) := by decide +kernel
def p4_howMany_24 (b : Nat) (k4 : Int32 → Int32 → SX → Option (Int32 × SX)) (v1 : Int32) (v2 : Int32) (M : SX) : Option (Int32 × SX) :=
  lt_ (v2 + 1) (fun x1 => k4 v1 x1 M)
set_option maxHeartbeats 4000000 in
set_option maxRecDepth 100000 in
theorem w4_howMany_24 {G : XG} {p : Program} {l : Launch} {e : Env} {s : State} {m : MethodId} {args : Array Value} {below : List Frame} {meth : Method} {c : Code} (F : Fx G ZX p m c cX4_howMany 3 s args RX4) (hr : meth.sig.returnType = some .int) (hk : meth.locks = false) {r : Int32} {M' : SX} (b : Nat) (qb : isS b) (k4 : Int32 → Int32 → SX → Option (Int32 × SX)) (hk4 : ∀ (v1 : Int32) (v2 : Int32) (M : SX) (H : Heap) (locs : List Loc) (ls : Array Slot), Wld G ZX M s.heap H locs → lv_has ls 3 [(0, .ref (G.2.1 b)), (1, .int v1), (2, .int v2)] → k4 v1 v2 M = some (r, M') → WXi G ZX p l e 1 s m args below meth c r M' H locs (F0 m 4 ls [])) : ∀ (v1 : Int32) (v2 : Int32) (M : SX) (H : Heap) (locs : List Loc) (ls : Array Slot), Wld G ZX M s.heap H locs → lv_has ls 3 [(0, .ref (G.2.1 b)), (1, .int v1), (2, .int v2)] → p4_howMany_24 b k4 v1 v2 M = some (r, M') → WXi G ZX p l e 1 s m args below meth c r M' H locs (F0 m 24 ls []) := by
  intro v1 v2 M H locs ls hw hl hf
  have hx := F.1.1
  have hb := F.1.2.1
  unfold p4_howMany_24 at hf
  obtain ⟨x1, ex1, hf⟩ := lt_elim hf
  refine lv_iinc (v := x1) (lv' := [(2, .int x1), (0, .ref (G.2.1 b)), (1, .int v1)]) hx hb dX4_howMany_24 hl (k := 2) rfl (by rw [ex1]; rfl) (by decide) rfl (fun ls hl => ?_)
  refine lv_goto (tgt := 4) hx hb dX4_howMany_27 (by decide) ?_
  exact hk4 v1 x1 M _ _ ls hw (lv_sub hl [1, 2, 0] rfl) hf
def p4_howMany_4 (b : Nat) (k4 : Int32 → Int32 → SX → Option (Int32 × SX)) (v1 : Int32) (v2 : Int32) (M : SX) : Option (Int32 × SX) :=
  if (Int32.ofNat (szS b)) ≤ v2 then (some (v1, M))
  else (bd (p4_isThere b v2 M) (fun r4 M3 => if r4 = 0 then (p4_howMany_24 b k4 v1 v2 M3)
  else (lt_ (v1 + 1) (fun x6 => p4_howMany_24 b k4 x6 v2 M3))))
set_option maxHeartbeats 4000000 in
set_option maxRecDepth 100000 in
theorem w4_howMany_4 {G : XG} {p : Program} {l : Launch} {e : Env} {s : State} {m : MethodId} {args : Array Value} {below : List Frame} {meth : Method} {c : Code} (F : Fx G ZX p m c cX4_howMany 3 s args RX4) (hr : meth.sig.returnType = some .int) (hk : meth.locks = false) {r : Int32} {M' : SX} (b : Nat) (qb : isS b) (k4 : Int32 → Int32 → SX → Option (Int32 × SX)) (hk4 : ∀ (v1 : Int32) (v2 : Int32) (M : SX) (H : Heap) (locs : List Loc) (ls : Array Slot), Wld G ZX M s.heap H locs → lv_has ls 3 [(0, .ref (G.2.1 b)), (1, .int v1), (2, .int v2)] → k4 v1 v2 M = some (r, M') → WXi G ZX p l e 1 s m args below meth c r M' H locs (F0 m 4 ls [])) : ∀ (v1 : Int32) (v2 : Int32) (M : SX) (H : Heap) (locs : List Loc) (ls : Array Slot), Wld G ZX M s.heap H locs → lv_has ls 3 [(0, .ref (G.2.1 b)), (1, .int v1), (2, .int v2)] → p4_howMany_4 b k4 v1 v2 M = some (r, M') → WXi G ZX p l e 1 s m args below meth c r M' H locs (F0 m 4 ls []) := by
  intro v1 v2 M H locs ls hw hl hf
  have hx := F.1.1
  have hb := F.1.2.1
  unfold p4_howMany_4 at hf
  refine lv_iload_n hx hb dX4_howMany_4 rfl (lv_at hl 2 rfl) ?_
  refine lv_aload_n hx hb dX4_howMany_5 rfl (lv_at hl 0 rfl) ?_
  refine g4_1 qb F hw tw_20 dX4_howMany_6 ?_
  refine x_alenI F hw (sS1 qb) dX4_howMany_9 ?_
  refine lv_icmp_ge (tgt := 30) hx hb dX4_howMany_10 (by decide) (fun c1 => ?_) (fun c1 => ?_)
  · have hf := it_t hf c1
    refine lv_iload_n hx hb dX4_howMany_30 rfl (lv_at hl 1 rfl) ?_
    exact x_iret F hw hr hk hf dX4_howMany_31
  · have hf := it_f hf c1
    refine lv_aload_n hx hb dX4_howMany_13 rfl (lv_at hl 0 rfl) ?_
    refine lv_iload_n hx hb dX4_howMany_14 rfl (lv_at hl 2 rfl) ?_
    obtain ⟨r4, M3, hc2, hf⟩ := bd_some hf
    refine x_aftI hw (x_runV (rest := []) F hw hl.1 vw_RX4_40 (sS qb) rfl (c4_isThere b qb v2 hc2) rfl rfl (Nat.le_of_ble_eq_true rfl) ⟨Nat.le_of_ble_eq_true rfl, Nat.le_of_ble_eq_true rfl⟩ dX4_howMany_15) (fun H locs hw => ?_)
    refine lv_if_eq (tgt := 24) hx hb dX4_howMany_18 (by decide) (fun c5 => ?_) (fun c5 => ?_)
    · have hf := it_t hf c5
      exact w4_howMany_24 F hr hk b qb k4 hk4 v1 v2 M3 _ _ ls hw (lv_sub hl [0, 1, 2] rfl) hf
    · have hf := it_f hf c5
      obtain ⟨x6, ex6, hf⟩ := lt_elim hf
      refine lv_iinc (v := x6) (lv' := [(1, .int x6), (0, .ref (G.2.1 b)), (2, .int v2)]) hx hb dX4_howMany_21 hl (k := 1) rfl (by rw [ex6]; rfl) (by decide) rfl (fun ls hl => ?_)
      exact w4_howMany_24 F hr hk b qb k4 hk4 x6 v2 M3 _ _ ls hw (lv_sub hl [1, 0, 2] rfl) hf
theorem z4_howMany_4 {G : XG} {p : Program} {l : Launch} {e : Env} {s : State} {m : MethodId} {args : Array Value} {below : List Frame} {meth : Method} {c : Code} (F : Fx G ZX p m c cX4_howMany 3 s args RX4) (hr : meth.sig.returnType = some .int) (hk : meth.locks = false) {r : Int32} {M' : SX} (b : Nat) (qb : isS b) : ∀ n : Nat, ∀ (v1 : Int32) (v2 : Int32) (M : SX) (H : Heap) (locs : List Loc) (ls : Array Slot), Wld G ZX M s.heap H locs → lv_has ls 3 [(0, .ref (G.2.1 b)), (1, .int v1), (2, .int v2)] → xlp2 (p4_howMany_4 b) n v1 v2 M = some (r, M') → WXi G ZX p l e 1 s m args below meth c r M' H locs (F0 m 4 ls []) := by
  intro n
  induction n with
  | zero => intro _ _ _ _ _ _ _ _ hf; cases hf
  | succ n ih => exact w4_howMany_4 F hr hk b qb (xlp2 (p4_howMany_4 b) n) ih
def p4_howMany (b : Nat) (M : SX) : Option (Int32 × SX) :=
  xlp2 (p4_howMany_4 b) FU 0 0 M
set_option maxHeartbeats 4000000 in
set_option maxRecDepth 100000 in
theorem c4_howMany {l : Launch} {G : XG} {r : Int32} {M' : SX} {M : SX} (b : Nat) (qb : isS b) (hf : p4_howMany b M = some (r, M')) : Met l yX4_howMany (.code yX4_howMany cX4_howMany 3 (some .int) :: TBL) (rmX 1) (xPc G ZX M [.ref (G.2.1 b)]) (xQi G ZX r M') 0 0 (inA G ZX) := by
  refine x_met (cc := cX4_howMany) (by decide) (Nat.le_of_ble_eq_true rfl) ?_
  intro p e s m below meth c ls F hr hk hl hw
  have F : Fx G ZX p m c cX4_howMany 3 s [.ref (G.2.1 b)].toArray RX4 := F
  have hl : lv_has ls 3 [(0, .ref (G.2.1 b))] := hl
  have hx := F.1.1
  have hb := F.1.2.1
  unfold p4_howMany at hf
  refine lv_iconst (v := 0) hx hb dX4_howMany_0 (by decide) ?_
  refine lv_istore_n (lv' := [(1, .int 0), (0, .ref (G.2.1 b))]) hx hb dX4_howMany_1 rfl hl (by decide) rfl (fun ls hl => ?_)
  refine lv_iconst (v := 0) hx hb dX4_howMany_2 (by decide) ?_
  refine lv_istore_n (lv' := [(2, .int 0), (1, .int 0), (0, .ref (G.2.1 b))]) hx hb dX4_howMany_3 rfl hl (by decide) rfl (fun ls hl => ?_)
  exact z4_howMany_4 F hr hk b qb FU 0 0 M _ _ ls hw (lv_sub hl [2, 1, 0] rfl) hf
theorem dX4_digestOnto_0 : decode cX4_digestOnto 0 = .ok (.lload_n 1, 1) := by decide +kernel
theorem dX4_digestOnto_1 : decode cX4_digestOnto 1 = .ok (.lstore_n 3, 1) := by decide +kernel
theorem dX4_digestOnto_2 : decode cX4_digestOnto 2 = .ok (.iconst 0, 1) := by decide +kernel
theorem dX4_digestOnto_3 : decode cX4_digestOnto 3 = .ok (.istore 5, 2) := by decide +kernel
theorem dX4_digestOnto_5 : decode cX4_digestOnto 5 = .ok (.iload 5, 2) := by decide +kernel
theorem dX4_digestOnto_7 : decode cX4_digestOnto 7 = .ok (.aload_n 0, 1) := by decide +kernel
theorem dX4_digestOnto_8 : decode cX4_digestOnto 8 = .ok (.getfield 13, 3) := by decide +kernel
theorem dX4_digestOnto_11 : decode cX4_digestOnto 11 = .ok (.arraylength, 1) := by decide +kernel
theorem dX4_digestOnto_12 : decode cX4_digestOnto 12 = .ok (.if_icmp .ge 61, 3) := by decide +kernel
theorem dX4_digestOnto_15 : decode cX4_digestOnto 15 = .ok (.ldc2_w 44, 3) := by decide +kernel
theorem dX4_digestOnto_18 : decode cX4_digestOnto 18 = .ok (.lload_n 3, 1) := by decide +kernel
theorem dX4_digestOnto_19 : decode cX4_digestOnto 19 = .ok (.lmul, 1) := by decide +kernel
theorem dX4_digestOnto_20 : decode cX4_digestOnto 20 = .ok (.aload_n 0, 1) := by decide +kernel
theorem dX4_digestOnto_21 : decode cX4_digestOnto 21 = .ok (.getfield 13, 3) := by decide +kernel
theorem dX4_digestOnto_24 : decode cX4_digestOnto 24 = .ok (.iload 5, 2) := by decide +kernel
theorem dX4_digestOnto_26 : decode cX4_digestOnto 26 = .ok (.iaload, 1) := by decide +kernel
theorem dX4_digestOnto_27 : decode cX4_digestOnto 27 = .ok (.i2l, 1) := by decide +kernel
theorem dX4_digestOnto_28 : decode cX4_digestOnto 28 = .ok (.ladd, 1) := by decide +kernel
theorem dX4_digestOnto_29 : decode cX4_digestOnto 29 = .ok (.lstore_n 3, 1) := by decide +kernel
theorem dX4_digestOnto_30 : decode cX4_digestOnto 30 = .ok (.iconst 0, 1) := by decide +kernel
theorem dX4_digestOnto_31 : decode cX4_digestOnto 31 = .ok (.istore 6, 2) := by decide +kernel
theorem dX4_digestOnto_33 : decode cX4_digestOnto 33 = .ok (.iload 6, 2) := by decide +kernel
theorem dX4_digestOnto_35 : decode cX4_digestOnto 35 = .ok (.aload_n 0, 1) := by decide +kernel
theorem dX4_digestOnto_36 : decode cX4_digestOnto 36 = .ok (.getfield 13, 3) := by decide +kernel
theorem dX4_digestOnto_39 : decode cX4_digestOnto 39 = .ok (.iload 5, 2) := by decide +kernel
theorem dX4_digestOnto_41 : decode cX4_digestOnto 41 = .ok (.iaload, 1) := by decide +kernel
theorem dX4_digestOnto_42 : decode cX4_digestOnto 42 = .ok (.if_icmp .ge 25, 3) := by decide +kernel
theorem dX4_digestOnto_45 : decode cX4_digestOnto 45 = .ok (.ldc2_w 44, 3) := by decide +kernel
theorem dX4_digestOnto_48 : decode cX4_digestOnto 48 = .ok (.lload_n 3, 1) := by decide +kernel
theorem dX4_digestOnto_49 : decode cX4_digestOnto 49 = .ok (.lmul, 1) := by decide +kernel
theorem dX4_digestOnto_50 : decode cX4_digestOnto 50 = .ok (.aload_n 0, 1) := by decide +kernel
theorem dX4_digestOnto_51 : decode cX4_digestOnto 51 = .ok (.iload 5, 2) := by decide +kernel
theorem dX4_digestOnto_53 : decode cX4_digestOnto 53 = .ok (.iload 6, 2) := by decide +kernel
theorem dX4_digestOnto_55 : decode cX4_digestOnto 55 = .ok (.invokevirtual 36, 3) := by decide +kernel
theorem dX4_digestOnto_58 : decode cX4_digestOnto 58 = .ok (.i2l, 1) := by decide +kernel
theorem dX4_digestOnto_59 : decode cX4_digestOnto 59 = .ok (.ladd, 1) := by decide +kernel
theorem dX4_digestOnto_60 : decode cX4_digestOnto 60 = .ok (.lstore_n 3, 1) := by decide +kernel
theorem dX4_digestOnto_61 : decode cX4_digestOnto 61 = .ok (.iinc 6 1, 3) := by decide +kernel
theorem dX4_digestOnto_64 : decode cX4_digestOnto 64 = .ok (.goto (-31), 3) := by decide +kernel
theorem dX4_digestOnto_67 : decode cX4_digestOnto 67 = .ok (.iinc 5 1, 3) := by decide +kernel
theorem dX4_digestOnto_70 : decode cX4_digestOnto 70 = .ok (.goto (-65), 3) := by decide +kernel
theorem dX4_digestOnto_73 : decode cX4_digestOnto 73 = .ok (.lload_n 3, 1) := by decide +kernel
theorem dX4_digestOnto_74 : decode cX4_digestOnto 74 = .ok (.lreturn, 1) := by decide +kernel
def p4_digestOnto_33 (b : Nat) (k5 : Int64 → Int32 → SX → Option (Int64 × SX)) (k33 : Int64 → Int32 → Int32 → SX → Option (Int64 × SX)) (v3 : Int64) (v5 : Int32) (v6 : Int32) (M : SX) : Option (Int64 × SX) :=
  gd (bIn v5 (szS b)) ( if (M.1 (b + 1) (Int32.toNatClampNeg v5)) ≤ v6 then (lt_ (v5 + 1) (fun x3 => k5 v3 x3 M))
  else (bd (p4_valueAt b v5 v6 M) (fun r6 M5 => lt_ ((31 * v3) + (Int32.toInt64 r6)) (fun x7 => lt_ (v6 + 1) (fun x8 => k33 x7 v5 x8 M5)))))
set_option maxHeartbeats 4000000 in
set_option maxRecDepth 100000 in
theorem w4_digestOnto_33 {G : XG} {p : Program} {l : Launch} {e : Env} {s : State} {m : MethodId} {args : Array Value} {below : List Frame} {meth : Method} {c : Code} (F : Fx G ZX p m c cX4_digestOnto 7 s args RX4) (hr : meth.sig.returnType = some .long) (hk : meth.locks = false) {r : Int64} {M' : SX} (b : Nat) (qb : isS b) (k5 : Int64 → Int32 → SX → Option (Int64 × SX)) (hk5 : ∀ (v3 : Int64) (v5 : Int32) (M : SX) (H : Heap) (locs : List Loc) (ls : Array Slot), Wld G ZX M s.heap H locs → lv_has ls 7 [(0, .ref (G.2.1 b)), (3, .long v3), (5, .int v5)] → k5 v3 v5 M = some (r, M') → WXl G ZX p l e 1 s m args below meth c r M' H locs (F0 m 5 ls [])) (k33 : Int64 → Int32 → Int32 → SX → Option (Int64 × SX)) (hk33 : ∀ (v3 : Int64) (v5 : Int32) (v6 : Int32) (M : SX) (H : Heap) (locs : List Loc) (ls : Array Slot), Wld G ZX M s.heap H locs → lv_has ls 7 [(0, .ref (G.2.1 b)), (3, .long v3), (5, .int v5), (6, .int v6)] → k33 v3 v5 v6 M = some (r, M') → WXl G ZX p l e 1 s m args below meth c r M' H locs (F0 m 33 ls [])) : ∀ (v3 : Int64) (v5 : Int32) (v6 : Int32) (M : SX) (H : Heap) (locs : List Loc) (ls : Array Slot), Wld G ZX M s.heap H locs → lv_has ls 7 [(0, .ref (G.2.1 b)), (3, .long v3), (5, .int v5), (6, .int v6)] → p4_digestOnto_33 b k5 k33 v3 v5 v6 M = some (r, M') → WXl G ZX p l e 1 s m args below meth c r M' H locs (F0 m 33 ls []) := by
  intro v3 v5 v6 M H locs ls hw hl hf
  have hx := F.1.1
  have hb := F.1.2.1
  unfold p4_digestOnto_33 at hf
  refine lv_iload hx hb dX4_digestOnto_33 (lv_at hl 3 rfl) ?_
  refine lv_aload_n hx hb dX4_digestOnto_35 rfl (lv_at hl 0 rfl) ?_
  refine g4_1 qb F hw tw_20 dX4_digestOnto_36 ?_
  refine lv_iload hx hb dX4_digestOnto_39 (lv_at hl 2 rfl) ?_
  obtain ⟨g1, hf⟩ := gd_some hf
  refine x_iald F hw (sS1 qb) g1 dX4_digestOnto_41 ?_
  refine lv_icmp_ge (tgt := 67) hx hb dX4_digestOnto_42 (by decide) (fun c2 => ?_) (fun c2 => ?_)
  · have hf := it_t hf c2
    obtain ⟨x3, ex3, hf⟩ := lt_elim hf
    refine lv_iinc (v := x3) (lv' := [(5, .int x3), (0, .ref (G.2.1 b)), (3, .long v3), (6, .int v6)]) hx hb dX4_digestOnto_67 hl (k := 2) rfl (by rw [ex3]; rfl) (by decide) rfl (fun ls hl => ?_)
    refine lv_goto (tgt := 5) hx hb dX4_digestOnto_70 (by decide) ?_
    exact hk5 v3 x3 M _ _ ls hw (lv_sub hl [1, 2, 0] rfl) hf
  · have hf := it_f hf c2
    refine lv_ldc2 (v := 31) hx hb F.1.2.2.2.1 (F.1.2.2.2.2 _ tw_40) dX4_digestOnto_45 ?_
    refine lv_lload_n hx hb dX4_digestOnto_48 rfl (lv_at hl 1 rfl) ?_
    refine lv_lmul hx hb dX4_digestOnto_49 ?_
    refine lv_aload_n hx hb dX4_digestOnto_50 rfl (lv_at hl 0 rfl) ?_
    refine lv_iload hx hb dX4_digestOnto_51 (lv_at hl 2 rfl) ?_
    refine lv_iload hx hb dX4_digestOnto_53 (lv_at hl 3 rfl) ?_
    obtain ⟨r6, M5, hc4, hf⟩ := bd_some hf
    refine x_aftI hw (x_runV (rest := [.long (31 * v3)]) F hw hl.1 vw_RX4_36 (sS qb) rfl (c4_valueAt b qb v5 v6 hc4) rfl rfl (Nat.le_of_ble_eq_true rfl) ⟨Nat.le_of_ble_eq_true rfl, Nat.le_of_ble_eq_true rfl⟩ dX4_digestOnto_55) (fun H locs hw => ?_)
    refine lv_i2l (v := Int32.toInt64 r6) hx hb dX4_digestOnto_58 rfl ?_
    refine lv_ladd hx hb dX4_digestOnto_59 ?_
    obtain ⟨x7, ex7, hf⟩ := lt_elim hf
    refine x_letL ex7 ?_
    refine lv_lstore_n (lv' := [(3, .long x7), (0, .ref (G.2.1 b)), (5, .int v5), (6, .int v6)]) hx hb dX4_digestOnto_60 rfl hl (by decide) rfl (fun ls hl => ?_)
    obtain ⟨x8, ex8, hf⟩ := lt_elim hf
    refine lv_iinc (v := x8) (lv' := [(6, .int x8), (3, .long x7), (0, .ref (G.2.1 b)), (5, .int v5)]) hx hb dX4_digestOnto_61 hl (k := 3) rfl (by rw [ex8]; rfl) (by decide) rfl (fun ls hl => ?_)
    refine lv_goto (tgt := 33) hx hb dX4_digestOnto_64 (by decide) ?_
    exact hk33 x7 v5 x8 M5 _ _ ls hw (lv_sub hl [2, 1, 3, 0] rfl) hf
theorem z4_digestOnto_33 {G : XG} {p : Program} {l : Launch} {e : Env} {s : State} {m : MethodId} {args : Array Value} {below : List Frame} {meth : Method} {c : Code} (F : Fx G ZX p m c cX4_digestOnto 7 s args RX4) (hr : meth.sig.returnType = some .long) (hk : meth.locks = false) {r : Int64} {M' : SX} (b : Nat) (qb : isS b) (k5 : Int64 → Int32 → SX → Option (Int64 × SX)) (hk5 : ∀ (v3 : Int64) (v5 : Int32) (M : SX) (H : Heap) (locs : List Loc) (ls : Array Slot), Wld G ZX M s.heap H locs → lv_has ls 7 [(0, .ref (G.2.1 b)), (3, .long v3), (5, .int v5)] → k5 v3 v5 M = some (r, M') → WXl G ZX p l e 1 s m args below meth c r M' H locs (F0 m 5 ls [])) : ∀ n : Nat, ∀ (v3 : Int64) (v5 : Int32) (v6 : Int32) (M : SX) (H : Heap) (locs : List Loc) (ls : Array Slot), Wld G ZX M s.heap H locs → lv_has ls 7 [(0, .ref (G.2.1 b)), (3, .long v3), (5, .int v5), (6, .int v6)] → xlp3 (p4_digestOnto_33 b k5) n v3 v5 v6 M = some (r, M') → WXl G ZX p l e 1 s m args below meth c r M' H locs (F0 m 33 ls []) := by
  intro n
  induction n with
  | zero => intro _ _ _ _ _ _ _ _ _ hf; cases hf
  | succ n ih => exact w4_digestOnto_33 F hr hk b qb k5 hk5 (xlp3 (p4_digestOnto_33 b k5) n) ih
def p4_digestOnto_5 (b : Nat) (k5 : Int64 → Int32 → SX → Option (Int64 × SX)) (v3 : Int64) (v5 : Int32) (M : SX) : Option (Int64 × SX) :=
  if (Int32.ofNat (szS b)) ≤ v5 then (some (v3, M))
  else (gd (bIn v5 (szS b)) ( lt_ ((31 * v3) + (Int32.toInt64 (M.1 (b + 1) (Int32.toNatClampNeg v5)))) (fun x3 => xlp3 (p4_digestOnto_33 b k5) FU x3 v5 0 M)))
set_option maxHeartbeats 4000000 in
set_option maxRecDepth 100000 in
theorem w4_digestOnto_5 {G : XG} {p : Program} {l : Launch} {e : Env} {s : State} {m : MethodId} {args : Array Value} {below : List Frame} {meth : Method} {c : Code} (F : Fx G ZX p m c cX4_digestOnto 7 s args RX4) (hr : meth.sig.returnType = some .long) (hk : meth.locks = false) {r : Int64} {M' : SX} (b : Nat) (qb : isS b) (k5 : Int64 → Int32 → SX → Option (Int64 × SX)) (hk5 : ∀ (v3 : Int64) (v5 : Int32) (M : SX) (H : Heap) (locs : List Loc) (ls : Array Slot), Wld G ZX M s.heap H locs → lv_has ls 7 [(0, .ref (G.2.1 b)), (3, .long v3), (5, .int v5)] → k5 v3 v5 M = some (r, M') → WXl G ZX p l e 1 s m args below meth c r M' H locs (F0 m 5 ls [])) : ∀ (v3 : Int64) (v5 : Int32) (M : SX) (H : Heap) (locs : List Loc) (ls : Array Slot), Wld G ZX M s.heap H locs → lv_has ls 7 [(0, .ref (G.2.1 b)), (3, .long v3), (5, .int v5)] → p4_digestOnto_5 b k5 v3 v5 M = some (r, M') → WXl G ZX p l e 1 s m args below meth c r M' H locs (F0 m 5 ls []) := by
  intro v3 v5 M H locs ls hw hl hf
  have hx := F.1.1
  have hb := F.1.2.1
  unfold p4_digestOnto_5 at hf
  refine lv_iload hx hb dX4_digestOnto_5 (lv_at hl 2 rfl) ?_
  refine lv_aload_n hx hb dX4_digestOnto_7 rfl (lv_at hl 0 rfl) ?_
  refine g4_1 qb F hw tw_20 dX4_digestOnto_8 ?_
  refine x_alenI F hw (sS1 qb) dX4_digestOnto_11 ?_
  refine lv_icmp_ge (tgt := 73) hx hb dX4_digestOnto_12 (by decide) (fun c1 => ?_) (fun c1 => ?_)
  · have hf := it_t hf c1
    refine lv_lload_n hx hb dX4_digestOnto_73 rfl (lv_at hl 1 rfl) ?_
    exact x_lret F hw hr hk hf dX4_digestOnto_74
  · have hf := it_f hf c1
    refine lv_ldc2 (v := 31) hx hb F.1.2.2.2.1 (F.1.2.2.2.2 _ tw_40) dX4_digestOnto_15 ?_
    refine lv_lload_n hx hb dX4_digestOnto_18 rfl (lv_at hl 1 rfl) ?_
    refine lv_lmul hx hb dX4_digestOnto_19 ?_
    refine lv_aload_n hx hb dX4_digestOnto_20 rfl (lv_at hl 0 rfl) ?_
    refine g4_1 qb F hw tw_20 dX4_digestOnto_21 ?_
    refine lv_iload hx hb dX4_digestOnto_24 (lv_at hl 2 rfl) ?_
    obtain ⟨g2, hf⟩ := gd_some hf
    refine x_iald F hw (sS1 qb) g2 dX4_digestOnto_26 ?_
    refine lv_i2l (v := Int32.toInt64 (M.1 (b + 1) (Int32.toNatClampNeg v5))) hx hb dX4_digestOnto_27 rfl ?_
    refine lv_ladd hx hb dX4_digestOnto_28 ?_
    obtain ⟨x3, ex3, hf⟩ := lt_elim hf
    refine x_letL ex3 ?_
    refine lv_lstore_n (lv' := [(3, .long x3), (0, .ref (G.2.1 b)), (5, .int v5)]) hx hb dX4_digestOnto_29 rfl hl (by decide) rfl (fun ls hl => ?_)
    refine lv_iconst (v := 0) hx hb dX4_digestOnto_30 (by decide) ?_
    refine lv_istore (lv' := [(6, .int 0), (3, .long x3), (0, .ref (G.2.1 b)), (5, .int v5)]) hx hb dX4_digestOnto_31 hl (by decide) rfl (fun ls hl => ?_)
    exact z4_digestOnto_33 F hr hk b qb k5 hk5 FU x3 v5 0 M _ _ ls hw (lv_sub hl [2, 1, 3, 0] rfl) hf
theorem z4_digestOnto_5 {G : XG} {p : Program} {l : Launch} {e : Env} {s : State} {m : MethodId} {args : Array Value} {below : List Frame} {meth : Method} {c : Code} (F : Fx G ZX p m c cX4_digestOnto 7 s args RX4) (hr : meth.sig.returnType = some .long) (hk : meth.locks = false) {r : Int64} {M' : SX} (b : Nat) (qb : isS b) : ∀ n : Nat, ∀ (v3 : Int64) (v5 : Int32) (M : SX) (H : Heap) (locs : List Loc) (ls : Array Slot), Wld G ZX M s.heap H locs → lv_has ls 7 [(0, .ref (G.2.1 b)), (3, .long v3), (5, .int v5)] → xlp2 (p4_digestOnto_5 b) n v3 v5 M = some (r, M') → WXl G ZX p l e 1 s m args below meth c r M' H locs (F0 m 5 ls []) := by
  intro n
  induction n with
  | zero => intro _ _ _ _ _ _ _ _ hf; cases hf
  | succ n ih => exact w4_digestOnto_5 F hr hk b qb (xlp2 (p4_digestOnto_5 b) n) ih
def p4_digestOnto (b : Nat) (a1 : Int64) (M : SX) : Option (Int64 × SX) :=
  xlp2 (p4_digestOnto_5 b) FU a1 0 M
set_option maxHeartbeats 4000000 in
set_option maxRecDepth 100000 in
theorem c4_digestOnto {l : Launch} {G : XG} {r : Int64} {M' : SX} {M : SX} (b : Nat) (qb : isS b) (a1 : Int64) (hf : p4_digestOnto b a1 M = some (r, M')) : Met l yX4_digestOnto (.code yX4_digestOnto cX4_digestOnto 7 (some .long) :: TBL) (rmX 1) (xPc G ZX M [.ref (G.2.1 b), .long a1]) (xQl G ZX r M') 0 0 (inA G ZX) := by
  refine x_met (cc := cX4_digestOnto) (by decide) (Nat.le_of_ble_eq_true rfl) ?_
  intro p e s m below meth c ls F hr hk hl hw
  have F : Fx G ZX p m c cX4_digestOnto 7 s [.ref (G.2.1 b), .long a1].toArray RX4 := F
  have hl : lv_has ls 7 [(0, .ref (G.2.1 b)), (1, .long a1)] := hl
  have hx := F.1.1
  have hb := F.1.2.1
  unfold p4_digestOnto at hf
  refine lv_lload_n hx hb dX4_digestOnto_0 rfl (lv_at hl 1 rfl) ?_
  refine lv_lstore_n (lv' := [(3, .long a1), (0, .ref (G.2.1 b)), (1, .long a1)]) hx hb dX4_digestOnto_1 rfl hl (by decide) rfl (fun ls hl => ?_)
  refine lv_iconst (v := 0) hx hb dX4_digestOnto_2 (by decide) ?_
  refine lv_istore (lv' := [(5, .int 0), (3, .long a1), (0, .ref (G.2.1 b)), (1, .long a1)]) hx hb dX4_digestOnto_3 hl (by decide) rfl (fun ls hl => ?_)
  exact z4_digestOnto_5 F hr hk b qb FU a1 0 M _ _ ls hw (lv_sub hl [2, 1, 0] rfl) hf
