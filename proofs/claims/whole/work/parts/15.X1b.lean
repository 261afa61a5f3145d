theorem dX1_addShop_0 : decode cX1_addShop 0 = .ok (.aload_n 0, 1) := by decide +kernel
theorem dX1_addShop_1 : decode cX1_addShop 1 = .ok (.getfield 9, 3) := by decide +kernel
theorem dX1_addShop_4 : decode cX1_addShop 4 = .ok (.bipush 6, 2) := by decide +kernel
theorem dX1_addShop_6 : decode cX1_addShop 6 = .ok (.if_icmp .ge 31, 3) := by decide +kernel
theorem dX1_addShop_9 : decode cX1_addShop 9 = .ok (.aload_n 0, 1) := by decide +kernel
theorem dX1_addShop_10 : decode cX1_addShop 10 = .ok (.getfield 15, 3) := by decide +kernel
theorem dX1_addShop_13 : decode cX1_addShop 13 = .ok (.aload_n 0, 1) := by decide +kernel
theorem dX1_addShop_14 : decode cX1_addShop 14 = .ok (.getfield 9, 3) := by decide +kernel
theorem dX1_addShop_17 : decode cX1_addShop 17 = .ok (.iload_n 1, 1) := by decide +kernel
theorem dX1_addShop_18 : decode cX1_addShop 18 = .ok (.iastore, 1) := by decide +kernel
theorem dX1_addShop_19 : decode cX1_addShop 19 = .ok (.aload_n 0, 1) := by decide +kernel
theorem dX1_addShop_20 : decode cX1_addShop 20 = .ok (.aload_n 0, 1) := by decide +kernel
theorem dX1_addShop_21 : decode cX1_addShop 21 = .ok (.getfield 9, 3) := by decide +kernel
theorem dX1_addShop_24 : decode cX1_addShop 24 = .ok (.invokevirtual 54, 3) := by decide +kernel
theorem dX1_addShop_27 : decode cX1_addShop 27 = .ok (.aload_n 0, 1) := by decide +kernel
theorem dX1_addShop_28 : decode cX1_addShop 28 = .ok (.dup, 1) := by decide +kernel
theorem dX1_addShop_29 : decode cX1_addShop 29 = .ok (.getfield 9, 3) := by decide +kernel
theorem dX1_addShop_32 : decode cX1_addShop 32 = .ok (.iconst 1, 1) := by decide +kernel
theorem dX1_addShop_33 : decode cX1_addShop 33 = .ok (.iadd, 1) := by decide +kernel
theorem dX1_addShop_34 : decode cX1_addShop 34 = .ok (.putfield 9, 3) := by decide +kernel
theorem dX1_addShop_37 : decode cX1_addShop 37 = .ok (.return_, 1) := by decide +kernel
def p1_addShop (b : Nat) (a1 : Int32) (M : SX) : Option SX :=
  if (6 : Int32) ≤ (M.1 b 0) then (some M)
  else (gd (bIn (M.1 b 0) 6) ( lt_ (wI M (b + 1) (Int32.toNatClampNeg (M.1 b 0)) a1) (fun M3 => bv (p1_removeTicket b (M3.1 b 0) M3) (fun M5 => lt_ (wI M5 b 0 ((M5.1 b 0) + 1)) (fun M6 => some M6)))))
set_option maxHeartbeats 4000000 in
set_option maxRecDepth 100000 in
theorem c1_addShop {l : Launch} {G : XG} {M' : SX} {M : SX} (b : Nat) (qb : isL b) (a1 : Int32) (hf : p1_addShop b a1 M = some M') : Met l yX1_addShop (.code yX1_addShop cX1_addShop 2 none :: TBL) (rmX 2) (xPc G ZX M [.ref (G.2.1 b), .int a1]) (xQv G ZX M') 0 0 (inA G ZX) := by
  refine x_met (cc := cX1_addShop) (by decide) (Nat.le_of_ble_eq_true rfl) ?_
  intro p e s m below meth c ls F hr hk hl hw
  have F : Fx G ZX p m c cX1_addShop 2 s [.ref (G.2.1 b), .int a1].toArray RX1 := F
  have hl : lv_has ls 2 [(0, .ref (G.2.1 b)), (1, .int a1)] := hl
  have hx := F.1.1
  have hb := F.1.2.1
  unfold p1_addShop at hf
  refine lv_aload_n hx hb dX1_addShop_0 rfl (lv_at hl 0 rfl) ?_
  refine g1_0 qb F hw tw_41 dX1_addShop_1 ?_
  refine lv_bipush (v := 6) hx hb dX1_addShop_4 (by decide) ?_
  refine lv_icmp_ge (tgt := 37) hx hb dX1_addShop_6 (by decide) (fun c1 => ?_) (fun c1 => ?_)
  · have hf := it_t hf c1
    exact x_vret F hw hr hk hf dX1_addShop_37
  · have hf := it_f hf c1
    refine lv_aload_n hx hb dX1_addShop_9 rfl (lv_at hl 0 rfl) ?_
    refine g1_1 qb F hw tw_64 dX1_addShop_10 ?_
    refine lv_aload_n hx hb dX1_addShop_13 rfl (lv_at hl 0 rfl) ?_
    refine g1_0 qb F hw tw_41 dX1_addShop_14 ?_
    refine lv_iload_n hx hb dX1_addShop_17 rfl (lv_at hl 1 rfl) ?_
    obtain ⟨g2, hf⟩ := gd_some hf
    refine x_iast F hw (sL1 qb) g2 dX1_addShop_18 (fun H locs hw => ?_)
    obtain ⟨M3, eM3, hf⟩ := lt_elim hf
    rw [← eM3] at hw
    refine lv_aload_n hx hb dX1_addShop_19 rfl (lv_at hl 0 rfl) ?_
    refine lv_aload_n hx hb dX1_addShop_20 rfl (lv_at hl 0 rfl) ?_
    refine g1_0 qb F hw tw_41 dX1_addShop_21 ?_
    obtain ⟨M5, hc4, hf⟩ := bv_some hf
    refine x_aftV hw (x_runV (rest := []) F hw hl.1 vw_RX1_54 (sL qb) rfl (c1_removeTicket b qb (M3.1 b 0) hc4) rfl rfl (Nat.le_of_ble_eq_true rfl) ⟨Nat.le_of_ble_eq_true rfl, Nat.le_of_ble_eq_true rfl⟩ dX1_addShop_24) (fun H locs hw => ?_)
    refine lv_aload_n hx hb dX1_addShop_27 rfl (lv_at hl 0 rfl) ?_
    refine lv_dup hx hb dX1_addShop_28 rfl ?_
    refine g1_0 qb F hw tw_41 dX1_addShop_29 ?_
    refine lv_iconst (v := 1) hx hb dX1_addShop_32 (by decide) ?_
    refine lv_iadd hx hb dX1_addShop_33 ?_
    refine s1_0 qb F hw tw_41 dX1_addShop_34 (fun H locs hw => ?_)
    obtain ⟨M6, eM6, hf⟩ := lt_elim hf
    rw [← eM6] at hw
    exact x_vret F hw hr hk hf dX1_addShop_37
theorem dX1_dueOf_0 : decode cX1_dueOf 0 = .ok (.aload_n 0, 1) := by decide +kernel
theorem dX1_dueOf_1 : decode cX1_dueOf 1 = .ok (.iload_n 1, 1) := by decide +kernel
theorem dX1_dueOf_2 : decode cX1_dueOf 2 = .ok (.invokevirtual 62, 3) := by decide +kernel
theorem dX1_dueOf_5 : decode cX1_dueOf 5 = .ok (.ifCond .eq 34, 3) := by decide +kernel
theorem dX1_dueOf_8 : decode cX1_dueOf 8 = .ok (.aload_n 0, 1) := by decide +kernel
theorem dX1_dueOf_9 : decode cX1_dueOf 9 = .ok (.getfield 15, 3) := by decide +kernel
theorem dX1_dueOf_12 : decode cX1_dueOf 12 = .ok (.aload_n 0, 1) := by decide +kernel
theorem dX1_dueOf_13 : decode cX1_dueOf 13 = .ok (.getfield 25, 3) := by decide +kernel
theorem dX1_dueOf_16 : decode cX1_dueOf 16 = .ok (.iload_n 1, 1) := by decide +kernel
theorem dX1_dueOf_17 : decode cX1_dueOf 17 = .ok (.iaload, 1) := by decide +kernel
theorem dX1_dueOf_18 : decode cX1_dueOf 18 = .ok (.iaload, 1) := by decide +kernel
theorem dX1_dueOf_19 : decode cX1_dueOf 19 = .ok (.aload_n 0, 1) := by decide +kernel
theorem dX1_dueOf_20 : decode cX1_dueOf 20 = .ok (.getfield 28, 3) := by decide +kernel
theorem dX1_dueOf_23 : decode cX1_dueOf 23 = .ok (.iload_n 1, 1) := by decide +kernel
theorem dX1_dueOf_24 : decode cX1_dueOf 24 = .ok (.iaload, 1) := by decide +kernel
theorem dX1_dueOf_25 : decode cX1_dueOf 25 = .ok (.aload_n 0, 1) := by decide +kernel
theorem dX1_dueOf_26 : decode cX1_dueOf 26 = .ok (.getfield 31, 3) := by decide +kernel
theorem dX1_dueOf_29 : decode cX1_dueOf 29 = .ok (.iload_n 1, 1) := by decide +kernel
theorem dX1_dueOf_30 : decode cX1_dueOf 30 = .ok (.iaload, 1) := by decide +kernel
theorem dX1_dueOf_31 : decode cX1_dueOf 31 = .ok (.iload_n 2, 1) := by decide +kernel
theorem dX1_dueOf_32 : decode cX1_dueOf 32 = .ok (.iadd, 1) := by decide +kernel
theorem dX1_dueOf_33 : decode cX1_dueOf 33 = .ok (.invokestatic 70, 3) := by decide +kernel
theorem dX1_dueOf_36 : decode cX1_dueOf 36 = .ok (.goto 4, 3) := by decide +kernel
theorem dX1_dueOf_39 : decode cX1_dueOf 39 = .ok (.iconst 0, 1) := by decide +kernel
theorem dX1_dueOf_40 : decode cX1_dueOf 40 = .ok (.ireturn, 1) := by decide +kernel
def p1_dueOf (b : Nat) (a1 : Int32) (a2 : Int32) (M : SX) : Option (Int32 × SX) :=
  bd (p1_isPawned b a1 M) (fun r3 M2 => if r3 = 0 then (some (0, M2))
  else (gd (bIn a1 6) ( gd (bIn (M2.1 (b + 4) (Int32.toNatClampNeg a1)) 6) ( bd (p5_dueWith (M2.1 (b + 1) (Int32.toNatClampNeg (M2.1 (b + 4) (Int32.toNatClampNeg a1)))) (M2.1 (b + 5) (Int32.toNatClampNeg a1)) ((M2.1 (b + 6) (Int32.toNatClampNeg a1)) + a2) M2) (fun r9 M8 => some (r9, M8))))))
set_option maxHeartbeats 4000000 in
set_option maxRecDepth 100000 in
theorem c1_dueOf {l : Launch} {G : XG} {r : Int32} {M' : SX} {M : SX} (b : Nat) (qb : isL b) (a1 : Int32) (a2 : Int32) (hf : p1_dueOf b a1 a2 M = some (r, M')) : Met l yX1_dueOf (.code yX1_dueOf cX1_dueOf 3 (some .int) :: TBL) (rmX 2) (xPc G ZX M [.ref (G.2.1 b), .int a1, .int a2]) (xQi G ZX r M') 0 0 (inA G ZX) := by
  refine x_met (cc := cX1_dueOf) (by decide) (Nat.le_of_ble_eq_true rfl) ?_
  intro p e s m below meth c ls F hr hk hl hw
  have F : Fx G ZX p m c cX1_dueOf 3 s [.ref (G.2.1 b), .int a1, .int a2].toArray RX1 := F
  have hl : lv_has ls 3 [(0, .ref (G.2.1 b)), (1, .int a1), (2, .int a2)] := hl
  have hx := F.1.1
  have hb := F.1.2.1
  unfold p1_dueOf at hf
  refine lv_aload_n hx hb dX1_dueOf_0 rfl (lv_at hl 0 rfl) ?_
  refine lv_iload_n hx hb dX1_dueOf_1 rfl (lv_at hl 1 rfl) ?_
  obtain ⟨r3, M2, hc1, hf⟩ := bd_some hf
  refine x_aftI hw (x_runV (rest := []) F hw hl.1 vw_RX1_62 (sL qb) rfl (c1_isPawned b qb a1 hc1) rfl rfl (Nat.le_of_ble_eq_true rfl) ⟨Nat.le_of_ble_eq_true rfl, Nat.le_of_ble_eq_true rfl⟩ dX1_dueOf_2) (fun H locs hw => ?_)
  refine lv_if_eq (tgt := 39) hx hb dX1_dueOf_5 (by decide) (fun c4 => ?_) (fun c4 => ?_)
  · have hf := it_t hf c4
    refine lv_iconst (v := 0) hx hb dX1_dueOf_39 (by decide) ?_
    exact x_iret F hw hr hk hf dX1_dueOf_40
  · have hf := it_f hf c4
    refine lv_aload_n hx hb dX1_dueOf_8 rfl (lv_at hl 0 rfl) ?_
    refine g1_1 qb F hw tw_64 dX1_dueOf_9 ?_
    refine lv_aload_n hx hb dX1_dueOf_12 rfl (lv_at hl 0 rfl) ?_
    refine g1_4 qb F hw tw_44 dX1_dueOf_13 ?_
    refine lv_iload_n hx hb dX1_dueOf_16 rfl (lv_at hl 1 rfl) ?_
    obtain ⟨g5, hf⟩ := gd_some hf
    refine x_iald F hw (sL4 qb) g5 dX1_dueOf_17 ?_
    obtain ⟨g6, hf⟩ := gd_some hf
    refine x_iald F hw (sL1 qb) g6 dX1_dueOf_18 ?_
    refine lv_aload_n hx hb dX1_dueOf_19 rfl (lv_at hl 0 rfl) ?_
    refine g1_5 qb F hw tw_45 dX1_dueOf_20 ?_
    refine lv_iload_n hx hb dX1_dueOf_23 rfl (lv_at hl 1 rfl) ?_
    refine x_iald F hw (sL5 qb) g5 dX1_dueOf_24 ?_
    refine lv_aload_n hx hb dX1_dueOf_25 rfl (lv_at hl 0 rfl) ?_
    refine g1_6 qb F hw tw_46 dX1_dueOf_26 ?_
    refine lv_iload_n hx hb dX1_dueOf_29 rfl (lv_at hl 1 rfl) ?_
    refine x_iald F hw (sL6 qb) g5 dX1_dueOf_30 ?_
    refine lv_iload_n hx hb dX1_dueOf_31 rfl (lv_at hl 2 rfl) ?_
    refine lv_iadd hx hb dX1_dueOf_32 ?_
    obtain ⟨r9, M8, hc7, hf⟩ := bd_some hf
    refine x_aftI hw (x_runN (rest := []) F hw hl.1 nn_RX1_70 (c5_dueWith (M2.1 (b + 1) (Int32.toNatClampNeg (M2.1 (b + 4) (Int32.toNatClampNeg a1)))) (M2.1 (b + 5) (Int32.toNatClampNeg a1)) ((M2.1 (b + 6) (Int32.toNatClampNeg a1)) + a2) hc7) rfl rfl (Nat.le_of_ble_eq_true rfl) ⟨Nat.le_of_ble_eq_true rfl, Nat.le_of_ble_eq_true rfl⟩ dX1_dueOf_33) (fun H locs hw => ?_)
    refine lv_goto (tgt := 40) hx hb dX1_dueOf_36 (by decide) ?_
    exact x_iret F hw hr hk hf dX1_dueOf_40
theorem dX1_insideOf_0 : decode cX1_insideOf 0 = .ok (.iconst 1, 1) := by decide +kernel
theorem dX1_insideOf_1 : decode cX1_insideOf 1 = .ok (.iload_n 1, 1) := by decide +kernel
theorem dX1_insideOf_2 : decode cX1_insideOf 2 = .ok (.ishl, 1) := by decide +kernel
theorem dX1_insideOf_3 : decode cX1_insideOf 3 = .ok (.istore_n 2, 1) := by decide +kernel
theorem dX1_insideOf_4 : decode cX1_insideOf 4 = .ok (.iconst 1, 1) := by decide +kernel
theorem dX1_insideOf_5 : decode cX1_insideOf 5 = .ok (.istore_n 3, 1) := by decide +kernel
theorem dX1_insideOf_6 : decode cX1_insideOf 6 = .ok (.iload_n 3, 1) := by decide +kernel
theorem dX1_insideOf_7 : decode cX1_insideOf 7 = .ok (.aload_n 0, 1) := by decide +kernel
theorem dX1_insideOf_8 : decode cX1_insideOf 8 = .ok (.getfield 9, 3) := by decide +kernel
theorem dX1_insideOf_11 : decode cX1_insideOf 11 = .ok (.if_icmp .ge 44, 3) := by decide +kernel
theorem dX1_insideOf_14 : decode cX1_insideOf 14 = .ok (.iconst 0, 1) := by decide +kernel
theorem dX1_insideOf_15 : decode cX1_insideOf 15 = .ok (.istore 4, 2) := by decide +kernel
theorem dX1_insideOf_17 : decode cX1_insideOf 17 = .ok (.iload 4, 2) := by decide +kernel
theorem dX1_insideOf_19 : decode cX1_insideOf 19 = .ok (.aload_n 0, 1) := by decide +kernel
theorem dX1_insideOf_20 : decode cX1_insideOf 20 = .ok (.getfield 9, 3) := by decide +kernel
theorem dX1_insideOf_23 : decode cX1_insideOf 23 = .ok (.if_icmp .ge 26, 3) := by decide +kernel
theorem dX1_insideOf_26 : decode cX1_insideOf 26 = .ok (.aload_n 0, 1) := by decide +kernel
theorem dX1_insideOf_27 : decode cX1_insideOf 27 = .ok (.iload 4, 2) := by decide +kernel
theorem dX1_insideOf_29 : decode cX1_insideOf 29 = .ok (.iload_n 2, 1) := by decide +kernel
theorem dX1_insideOf_30 : decode cX1_insideOf 30 = .ok (.invokevirtual 86, 3) := by decide +kernel
theorem dX1_insideOf_33 : decode cX1_insideOf 33 = .ok (.ifCond .eq 10, 3) := by decide +kernel
theorem dX1_insideOf_36 : decode cX1_insideOf 36 = .ok (.iload_n 2, 1) := by decide +kernel
theorem dX1_insideOf_37 : decode cX1_insideOf 37 = .ok (.iconst 1, 1) := by decide +kernel
theorem dX1_insideOf_38 : decode cX1_insideOf 38 = .ok (.iload 4, 2) := by decide +kernel
theorem dX1_insideOf_40 : decode cX1_insideOf 40 = .ok (.ishl, 1) := by decide +kernel
theorem dX1_insideOf_41 : decode cX1_insideOf 41 = .ok (.ior, 1) := by decide +kernel
theorem dX1_insideOf_42 : decode cX1_insideOf 42 = .ok (.istore_n 2, 1) := by decide +kernel
theorem dX1_insideOf_43 : decode cX1_insideOf 43 = .ok (.iinc 4 1, 3) := by decide +kernel
theorem dX1_insideOf_46 : decode cX1_insideOf 46 = .ok (.goto (-29), 3) := by decide +kernel
theorem dX1_insideOf_49 : decode cX1_insideOf 49 = .ok (.iinc 3 1, 3) := by decide +kernel
theorem dX1_insideOf_52 : decode cX1_insideOf 52 = .ok (.goto (-46), 3) := by decide +kernel
theorem dX1_insideOf_55 : decode cX1_insideOf 55 = .ok (.iload_n 2, 1) := by decide +kernel
theorem dX1_insideOf_56 : decode cX1_insideOf 56 = .ok (.ireturn, 1) := by decide +kernel
def p1_insideOf_43 (b : Nat) (k6 : Int32 → Int32 → SX → Option (Int32 × SX)) (k17 : Int32 → Int32 → Int32 → SX → Option (Int32 × SX)) (v2 : Int32) (v3 : Int32) (v4 : Int32) (M : SX) : Option (Int32 × SX) :=
  lt_ (v4 + 1) (fun x1 => k17 v2 v3 x1 M)
set_option maxHeartbeats 4000000 in
set_option maxRecDepth 100000 in
theorem w1_insideOf_43 {G : XG} {p : Program} {l : Launch} {e : Env} {s : State} {m : MethodId} {args : Array Value} {below : List Frame} {meth : Method} {c : Code} (F : Fx G ZX p m c cX1_insideOf 5 s args RX1) (hr : meth.sig.returnType = some .int) (hk : meth.locks = false) {r : Int32} {M' : SX} (b : Nat) (qb : isL b) (k6 : Int32 → Int32 → SX → Option (Int32 × SX)) (hk6 : ∀ (v2 : Int32) (v3 : Int32) (M : SX) (H : Heap) (locs : List Loc) (ls : Array Slot), Wld G ZX M s.heap H locs → lv_has ls 5 [(0, .ref (G.2.1 b)), (2, .int v2), (3, .int v3)] → k6 v2 v3 M = some (r, M') → WXi G ZX p l e 2 s m args below meth c r M' H locs (F0 m 6 ls [])) (k17 : Int32 → Int32 → Int32 → SX → Option (Int32 × SX)) (hk17 : ∀ (v2 : Int32) (v3 : Int32) (v4 : Int32) (M : SX) (H : Heap) (locs : List Loc) (ls : Array Slot), Wld G ZX M s.heap H locs → lv_has ls 5 [(0, .ref (G.2.1 b)), (2, .int v2), (3, .int v3), (4, .int v4)] → k17 v2 v3 v4 M = some (r, M') → WXi G ZX p l e 2 s m args below meth c r M' H locs (F0 m 17 ls [])) : ∀ (v2 : Int32) (v3 : Int32) (v4 : Int32) (M : SX) (H : Heap) (locs : List Loc) (ls : Array Slot), Wld G ZX M s.heap H locs → lv_has ls 5 [(0, .ref (G.2.1 b)), (2, .int v2), (3, .int v3), (4, .int v4)] → p1_insideOf_43 b k6 k17 v2 v3 v4 M = some (r, M') → WXi G ZX p l e 2 s m args below meth c r M' H locs (F0 m 43 ls []) := by
  intro v2 v3 v4 M H locs ls hw hl hf
  have hx := F.1.1
  have hb := F.1.2.1
  unfold p1_insideOf_43 at hf
  obtain ⟨x1, ex1, hf⟩ := lt_elim hf
  refine lv_iinc (v := x1) (lv' := [(4, .int x1), (0, .ref (G.2.1 b)), (2, .int v2), (3, .int v3)]) hx hb dX1_insideOf_43 hl (k := 3) rfl (by rw [ex1]; rfl) (by decide) rfl (fun ls hl => ?_)
  refine lv_goto (tgt := 17) hx hb dX1_insideOf_46 (by decide) ?_
  exact hk17 v2 v3 x1 M _ _ ls hw (lv_sub hl [1, 2, 3, 0] rfl) hf
def p1_insideOf_17 (b : Nat) (k6 : Int32 → Int32 → SX → Option (Int32 × SX)) (k17 : Int32 → Int32 → Int32 → SX → Option (Int32 × SX)) (v2 : Int32) (v3 : Int32) (v4 : Int32) (M : SX) : Option (Int32 × SX) :=
  if (M.1 b 0) ≤ v4 then (lt_ (v3 + 1) (fun x2 => k6 v2 x2 M))
  else (bd (p1_isHeldIn b v4 v2 M) (fun r5 M4 => if r5 = 0 then (p1_insideOf_43 b k6 k17 v2 v3 v4 M4)
  else (lt_ (v2 ||| ((1 : Int32) <<< (v4 &&& 31))) (fun x7 => p1_insideOf_43 b k6 k17 x7 v3 v4 M4))))
set_option maxHeartbeats 4000000 in
set_option maxRecDepth 100000 in
theorem w1_insideOf_17 {G : XG} {p : Program} {l : Launch} {e : Env} {s : State} {m : MethodId} {args : Array Value} {below : List Frame} {meth : Method} {c : Code} (F : Fx G ZX p m c cX1_insideOf 5 s args RX1) (hr : meth.sig.returnType = some .int) (hk : meth.locks = false) {r : Int32} {M' : SX} (b : Nat) (qb : isL b) (k6 : Int32 → Int32 → SX → Option (Int32 × SX)) (hk6 : ∀ (v2 : Int32) (v3 : Int32) (M : SX) (H : Heap) (locs : List Loc) (ls : Array Slot), Wld G ZX M s.heap H locs → lv_has ls 5 [(0, .ref (G.2.1 b)), (2, .int v2), (3, .int v3)] → k6 v2 v3 M = some (r, M') → WXi G ZX p l e 2 s m args below meth c r M' H locs (F0 m 6 ls [])) (k17 : Int32 → Int32 → Int32 → SX → Option (Int32 × SX)) (hk17 : ∀ (v2 : Int32) (v3 : Int32) (v4 : Int32) (M : SX) (H : Heap) (locs : List Loc) (ls : Array Slot), Wld G ZX M s.heap H locs → lv_has ls 5 [(0, .ref (G.2.1 b)), (2, .int v2), (3, .int v3), (4, .int v4)] → k17 v2 v3 v4 M = some (r, M') → WXi G ZX p l e 2 s m args below meth c r M' H locs (F0 m 17 ls [])) : ∀ (v2 : Int32) (v3 : Int32) (v4 : Int32) (M : SX) (H : Heap) (locs : List Loc) (ls : Array Slot), Wld G ZX M s.heap H locs → lv_has ls 5 [(0, .ref (G.2.1 b)), (2, .int v2), (3, .int v3), (4, .int v4)] → p1_insideOf_17 b k6 k17 v2 v3 v4 M = some (r, M') → WXi G ZX p l e 2 s m args below meth c r M' H locs (F0 m 17 ls []) := by
  intro v2 v3 v4 M H locs ls hw hl hf
  have hx := F.1.1
  have hb := F.1.2.1
  unfold p1_insideOf_17 at hf
  refine lv_iload hx hb dX1_insideOf_17 (lv_at hl 3 rfl) ?_
  refine lv_aload_n hx hb dX1_insideOf_19 rfl (lv_at hl 0 rfl) ?_
  refine g1_0 qb F hw tw_41 dX1_insideOf_20 ?_
  refine lv_icmp_ge (tgt := 49) hx hb dX1_insideOf_23 (by decide) (fun c1 => ?_) (fun c1 => ?_)
  · have hf := it_t hf c1
    obtain ⟨x2, ex2, hf⟩ := lt_elim hf
    refine lv_iinc (v := x2) (lv' := [(3, .int x2), (0, .ref (G.2.1 b)), (2, .int v2), (4, .int v4)]) hx hb dX1_insideOf_49 hl (k := 2) rfl (by rw [ex2]; rfl) (by decide) rfl (fun ls hl => ?_)
    refine lv_goto (tgt := 6) hx hb dX1_insideOf_52 (by decide) ?_
    exact hk6 v2 x2 M _ _ ls hw (lv_sub hl [1, 2, 0] rfl) hf
  · have hf := it_f hf c1
    refine lv_aload_n hx hb dX1_insideOf_26 rfl (lv_at hl 0 rfl) ?_
    refine lv_iload hx hb dX1_insideOf_27 (lv_at hl 3 rfl) ?_
    refine lv_iload_n hx hb dX1_insideOf_29 rfl (lv_at hl 1 rfl) ?_
    obtain ⟨r5, M4, hc3, hf⟩ := bd_some hf
    refine x_aftI hw (x_runV (rest := []) F hw hl.1 vw_RX1_86 (sL qb) rfl (c1_isHeldIn b qb v4 v2 hc3) rfl rfl (Nat.le_of_ble_eq_true rfl) ⟨Nat.le_of_ble_eq_true rfl, Nat.le_of_ble_eq_true rfl⟩ dX1_insideOf_30) (fun H locs hw => ?_)
    refine lv_if_eq (tgt := 43) hx hb dX1_insideOf_33 (by decide) (fun c6 => ?_) (fun c6 => ?_)
    · have hf := it_t hf c6
      exact w1_insideOf_43 F hr hk b qb k6 hk6 k17 hk17 v2 v3 v4 M4 _ _ ls hw (lv_sub hl [0, 1, 2, 3] rfl) hf
    · have hf := it_f hf c6
      refine lv_iload_n hx hb dX1_insideOf_36 rfl (lv_at hl 1 rfl) ?_
      refine lv_iconst (v := 1) hx hb dX1_insideOf_37 (by decide) ?_
      refine lv_iload hx hb dX1_insideOf_38 (lv_at hl 3 rfl) ?_
      refine lv_ishl hx hb dX1_insideOf_40 ?_
      refine lv_ior hx hb dX1_insideOf_41 ?_
      obtain ⟨x7, ex7, hf⟩ := lt_elim hf
      refine x_let ex7 ?_
      refine lv_istore_n (lv' := [(2, .int x7), (0, .ref (G.2.1 b)), (3, .int v3), (4, .int v4)]) hx hb dX1_insideOf_42 rfl hl (by decide) rfl (fun ls hl => ?_)
      exact w1_insideOf_43 F hr hk b qb k6 hk6 k17 hk17 x7 v3 v4 M4 _ _ ls hw (lv_sub hl [1, 0, 2, 3] rfl) hf
theorem z1_insideOf_17 {G : XG} {p : Program} {l : Launch} {e : Env} {s : State} {m : MethodId} {args : Array Value} {below : List Frame} {meth : Method} {c : Code} (F : Fx G ZX p m c cX1_insideOf 5 s args RX1) (hr : meth.sig.returnType = some .int) (hk : meth.locks = false) {r : Int32} {M' : SX} (b : Nat) (qb : isL b) (k6 : Int32 → Int32 → SX → Option (Int32 × SX)) (hk6 : ∀ (v2 : Int32) (v3 : Int32) (M : SX) (H : Heap) (locs : List Loc) (ls : Array Slot), Wld G ZX M s.heap H locs → lv_has ls 5 [(0, .ref (G.2.1 b)), (2, .int v2), (3, .int v3)] → k6 v2 v3 M = some (r, M') → WXi G ZX p l e 2 s m args below meth c r M' H locs (F0 m 6 ls [])) : ∀ n : Nat, ∀ (v2 : Int32) (v3 : Int32) (v4 : Int32) (M : SX) (H : Heap) (locs : List Loc) (ls : Array Slot), Wld G ZX M s.heap H locs → lv_has ls 5 [(0, .ref (G.2.1 b)), (2, .int v2), (3, .int v3), (4, .int v4)] → xlp3 (p1_insideOf_17 b k6) n v2 v3 v4 M = some (r, M') → WXi G ZX p l e 2 s m args below meth c r M' H locs (F0 m 17 ls []) := by
  intro n
  induction n with
  | zero => intro _ _ _ _ _ _ _ _ _ hf; cases hf
  | succ n ih => exact w1_insideOf_17 F hr hk b qb k6 hk6 (xlp3 (p1_insideOf_17 b k6) n) ih
def p1_insideOf_6 (b : Nat) (k6 : Int32 → Int32 → SX → Option (Int32 × SX)) (v2 : Int32) (v3 : Int32) (M : SX) : Option (Int32 × SX) :=
  if (M.1 b 0) ≤ v3 then (some (v2, M))
  else (xlp3 (p1_insideOf_17 b k6) FU v2 v3 0 M)
set_option maxHeartbeats 4000000 in
set_option maxRecDepth 100000 in
theorem w1_insideOf_6 {G : XG} {p : Program} {l : Launch} {e : Env} {s : State} {m : MethodId} {args : Array Value} {below : List Frame} {meth : Method} {c : Code} (F : Fx G ZX p m c cX1_insideOf 5 s args RX1) (hr : meth.sig.returnType = some .int) (hk : meth.locks = false) {r : Int32} {M' : SX} (b : Nat) (qb : isL b) (k6 : Int32 → Int32 → SX → Option (Int32 × SX)) (hk6 : ∀ (v2 : Int32) (v3 : Int32) (M : SX) (H : Heap) (locs : List Loc) (ls : Array Slot), Wld G ZX M s.heap H locs → lv_has ls 5 [(0, .ref (G.2.1 b)), (2, .int v2), (3, .int v3)] → k6 v2 v3 M = some (r, M') → WXi G ZX p l e 2 s m args below meth c r M' H locs (F0 m 6 ls [])) : ∀ (v2 : Int32) (v3 : Int32) (M : SX) (H : Heap) (locs : List Loc) (ls : Array Slot), Wld G ZX M s.heap H locs → lv_has ls 5 [(0, .ref (G.2.1 b)), (2, .int v2), (3, .int v3)] → p1_insideOf_6 b k6 v2 v3 M = some (r, M') → WXi G ZX p l e 2 s m args below meth c r M' H locs (F0 m 6 ls []) := by
  intro v2 v3 M H locs ls hw hl hf
  have hx := F.1.1
  have hb := F.1.2.1
  unfold p1_insideOf_6 at hf
  refine lv_iload_n hx hb dX1_insideOf_6 rfl (lv_at hl 2 rfl) ?_
  refine lv_aload_n hx hb dX1_insideOf_7 rfl (lv_at hl 0 rfl) ?_
  refine g1_0 qb F hw tw_41 dX1_insideOf_8 ?_
  refine lv_icmp_ge (tgt := 55) hx hb dX1_insideOf_11 (by decide) (fun c1 => ?_) (fun c1 => ?_)
  · have hf := it_t hf c1
    refine lv_iload_n hx hb dX1_insideOf_55 rfl (lv_at hl 1 rfl) ?_
    exact x_iret F hw hr hk hf dX1_insideOf_56
  · have hf := it_f hf c1
    refine lv_iconst (v := 0) hx hb dX1_insideOf_14 (by decide) ?_
    refine lv_istore (lv' := [(4, .int 0), (0, .ref (G.2.1 b)), (2, .int v2), (3, .int v3)]) hx hb dX1_insideOf_15 hl (by decide) rfl (fun ls hl => ?_)
    exact z1_insideOf_17 F hr hk b qb k6 hk6 FU v2 v3 0 M _ _ ls hw (lv_sub hl [1, 2, 3, 0] rfl) hf
theorem z1_insideOf_6 {G : XG} {p : Program} {l : Launch} {e : Env} {s : State} {m : MethodId} {args : Array Value} {below : List Frame} {meth : Method} {c : Code} (F : Fx G ZX p m c cX1_insideOf 5 s args RX1) (hr : meth.sig.returnType = some .int) (hk : meth.locks = false) {r : Int32} {M' : SX} (b : Nat) (qb : isL b) : ∀ n : Nat, ∀ (v2 : Int32) (v3 : Int32) (M : SX) (H : Heap) (locs : List Loc) (ls : Array Slot), Wld G ZX M s.heap H locs → lv_has ls 5 [(0, .ref (G.2.1 b)), (2, .int v2), (3, .int v3)] → xlp2 (p1_insideOf_6 b) n v2 v3 M = some (r, M') → WXi G ZX p l e 2 s m args below meth c r M' H locs (F0 m 6 ls []) := by
  intro n
  induction n with
  | zero => intro _ _ _ _ _ _ _ _ hf; cases hf
  | succ n ih => exact w1_insideOf_6 F hr hk b qb (xlp2 (p1_insideOf_6 b) n) ih
def p1_insideOf (b : Nat) (a1 : Int32) (M : SX) : Option (Int32 × SX) :=
  lt_ ((1 : Int32) <<< (a1 &&& 31)) (fun x1 => xlp2 (p1_insideOf_6 b) FU x1 1 M)
set_option maxHeartbeats 4000000 in
set_option maxRecDepth 100000 in
theorem c1_insideOf {l : Launch} {G : XG} {r : Int32} {M' : SX} {M : SX} (b : Nat) (qb : isL b) (a1 : Int32) (hf : p1_insideOf b a1 M = some (r, M')) : Met l yX1_insideOf (.code yX1_insideOf cX1_insideOf 5 (some .int) :: TBL) (rmX 2) (xPc G ZX M [.ref (G.2.1 b), .int a1]) (xQi G ZX r M') 0 0 (inA G ZX) := by
  refine x_met (cc := cX1_insideOf) (by decide) (Nat.le_of_ble_eq_true rfl) ?_
  intro p e s m below meth c ls F hr hk hl hw
  have F : Fx G ZX p m c cX1_insideOf 5 s [.ref (G.2.1 b), .int a1].toArray RX1 := F
  have hl : lv_has ls 5 [(0, .ref (G.2.1 b)), (1, .int a1)] := hl
  have hx := F.1.1
  have hb := F.1.2.1
  unfold p1_insideOf at hf
  refine lv_iconst (v := 1) hx hb dX1_insideOf_0 (by decide) ?_
  refine lv_iload_n hx hb dX1_insideOf_1 rfl (lv_at hl 1 rfl) ?_
  refine lv_ishl hx hb dX1_insideOf_2 ?_
  obtain ⟨x1, ex1, hf⟩ := lt_elim hf
  refine x_let ex1 ?_
  refine lv_istore_n (lv' := [(2, .int x1), (0, .ref (G.2.1 b)), (1, .int a1)]) hx hb dX1_insideOf_3 rfl hl (by decide) rfl (fun ls hl => ?_)
  refine lv_iconst (v := 1) hx hb dX1_insideOf_4 (by decide) ?_
  refine lv_istore_n (lv' := [(3, .int 1), (2, .int x1), (0, .ref (G.2.1 b)), (1, .int a1)]) hx hb dX1_insideOf_5 rfl hl (by decide) rfl (fun ls hl => ?_)
  exact z1_insideOf_6 F hr hk b qb FU x1 1 M _ _ ls hw (lv_sub hl [2, 1, 0] rfl) hf
theorem dX1_doPawn_0 : decode cX1_doPawn 0 = .ok (.aload_n 0, 1) := by decide +kernel
theorem dX1_doPawn_1 : decode cX1_doPawn 1 = .ok (.getfield 37, 3) := by decide +kernel
theorem dX1_doPawn_4 : decode cX1_doPawn 4 = .ok (.iconst 1, 1) := by decide +kernel
theorem dX1_doPawn_5 : decode cX1_doPawn 5 = .ok (.iload_n 1, 1) := by decide +kernel
theorem dX1_doPawn_6 : decode cX1_doPawn 6 = .ok (.iload_n 2, 1) := by decide +kernel
theorem dX1_doPawn_7 : decode cX1_doPawn 7 = .ok (.iload_n 3, 1) := by decide +kernel
theorem dX1_doPawn_8 : decode cX1_doPawn 8 = .ok (.iconst 0, 1) := by decide +kernel
theorem dX1_doPawn_9 : decode cX1_doPawn 9 = .ok (.invokevirtual 92, 3) := by decide +kernel
theorem dX1_doPawn_12 : decode cX1_doPawn 12 = .ok (.aload_n 0, 1) := by decide +kernel
theorem dX1_doPawn_13 : decode cX1_doPawn 13 = .ok (.iload_n 2, 1) := by decide +kernel
theorem dX1_doPawn_14 : decode cX1_doPawn 14 = .ok (.iload_n 1, 1) := by decide +kernel
theorem dX1_doPawn_15 : decode cX1_doPawn 15 = .ok (.iload_n 3, 1) := by decide +kernel
theorem dX1_doPawn_16 : decode cX1_doPawn 16 = .ok (.invokevirtual 96, 3) := by decide +kernel
theorem dX1_doPawn_19 : decode cX1_doPawn 19 = .ok (.aload_n 0, 1) := by decide +kernel
theorem dX1_doPawn_20 : decode cX1_doPawn 20 = .ok (.iload_n 1, 1) := by decide +kernel
theorem dX1_doPawn_21 : decode cX1_doPawn 21 = .ok (.iload_n 2, 1) := by decide +kernel
theorem dX1_doPawn_22 : decode cX1_doPawn 22 = .ok (.iload_n 3, 1) := by decide +kernel
theorem dX1_doPawn_23 : decode cX1_doPawn 23 = .ok (.iconst 0, 1) := by decide +kernel
theorem dX1_doPawn_24 : decode cX1_doPawn 24 = .ok (.invokevirtual 58, 3) := by decide +kernel
theorem dX1_doPawn_27 : decode cX1_doPawn 27 = .ok (.return_, 1) := by decide +kernel
def p1_doPawn (b : Nat) (a1 : Int32) (a2 : Int32) (a3 : Int32) (M : SX) : Option SX :=
  bv (p0_add (b + 7) 1 a1 a2 a3 0 M) (fun M2 => bv (p1_pay b a2 a1 a3 M2) (fun M4 => bv (p1_setTicket b a1 a2 a3 0 M4) (fun M6 => some M6)))
set_option maxHeartbeats 4000000 in
set_option maxRecDepth 100000 in
theorem c1_doPawn {l : Launch} {G : XG} {M' : SX} {M : SX} (b : Nat) (qb : isL b) (a1 : Int32) (a2 : Int32) (a3 : Int32) (hf : p1_doPawn b a1 a2 a3 M = some M') : Met l yX1_doPawn (.code yX1_doPawn cX1_doPawn 4 none :: TBL) (rmX 2) (xPc G ZX M [.ref (G.2.1 b), .int a1, .int a2, .int a3]) (xQv G ZX M') 0 0 (inA G ZX) := by
  refine x_met (cc := cX1_doPawn) (by decide) (Nat.le_of_ble_eq_true rfl) ?_
  intro p e s m below meth c ls F hr hk hl hw
  have F : Fx G ZX p m c cX1_doPawn 4 s [.ref (G.2.1 b), .int a1, .int a2, .int a3].toArray RX1 := F
  have hl : lv_has ls 4 [(0, .ref (G.2.1 b)), (1, .int a1), (2, .int a2), (3, .int a3)] := hl
  have hx := F.1.1
  have hb := F.1.2.1
  unfold p1_doPawn at hf
  refine lv_aload_n hx hb dX1_doPawn_0 rfl (lv_at hl 0 rfl) ?_
  refine g1_7 qb F hw tw_42 dX1_doPawn_1 ?_
  refine lv_iconst (v := 1) hx hb dX1_doPawn_4 (by decide) ?_
  refine lv_iload_n hx hb dX1_doPawn_5 rfl (lv_at hl 1 rfl) ?_
  refine lv_iload_n hx hb dX1_doPawn_6 rfl (lv_at hl 2 rfl) ?_
  refine lv_iload_n hx hb dX1_doPawn_7 rfl (lv_at hl 3 rfl) ?_
  refine lv_iconst (v := 0) hx hb dX1_doPawn_8 (by decide) ?_
  obtain ⟨M2, hc1, hf⟩ := bv_some hf
  refine x_aftV hw (x_runV (rest := []) F hw hl.1 vw_RX1_92 (sD (isD_of qb)) rfl (c0_add (b + 7) (isD_of qb) 1 a1 a2 a3 0 hc1) rfl rfl (Nat.le_of_ble_eq_true rfl) ⟨Nat.le_of_ble_eq_true rfl, Nat.le_of_ble_eq_true rfl⟩ dX1_doPawn_9) (fun H locs hw => ?_)
  refine lv_aload_n hx hb dX1_doPawn_12 rfl (lv_at hl 0 rfl) ?_
  refine lv_iload_n hx hb dX1_doPawn_13 rfl (lv_at hl 2 rfl) ?_
  refine lv_iload_n hx hb dX1_doPawn_14 rfl (lv_at hl 1 rfl) ?_
  refine lv_iload_n hx hb dX1_doPawn_15 rfl (lv_at hl 3 rfl) ?_
  obtain ⟨M4, hc3, hf⟩ := bv_some hf
  refine x_aftV hw (x_runV (rest := []) F hw hl.1 vw_RX1_96 (sL qb) rfl (c1_pay b qb a2 a1 a3 hc3) rfl rfl (Nat.le_of_ble_eq_true rfl) ⟨Nat.le_of_ble_eq_true rfl, Nat.le_of_ble_eq_true rfl⟩ dX1_doPawn_16) (fun H locs hw => ?_)
  refine lv_aload_n hx hb dX1_doPawn_19 rfl (lv_at hl 0 rfl) ?_
  refine lv_iload_n hx hb dX1_doPawn_20 rfl (lv_at hl 1 rfl) ?_
  refine lv_iload_n hx hb dX1_doPawn_21 rfl (lv_at hl 2 rfl) ?_
  refine lv_iload_n hx hb dX1_doPawn_22 rfl (lv_at hl 3 rfl) ?_
  refine lv_iconst (v := 0) hx hb dX1_doPawn_23 (by decide) ?_
  obtain ⟨M6, hc5, hf⟩ := bv_some hf
  refine x_aftV hw (x_runV (rest := []) F hw hl.1 vw_RX1_58 (sL qb) rfl (c1_setTicket b qb a1 a2 a3 0 hc5) rfl rfl (Nat.le_of_ble_eq_true rfl) ⟨Nat.le_of_ble_eq_true rfl, Nat.le_of_ble_eq_true rfl⟩ dX1_doPawn_24) (fun H locs hw => ?_)
  exact x_vret F hw hr hk hf dX1_doPawn_27
theorem dX1_doWeek_0 : decode cX1_doWeek 0 = .ok (.aload_n 0, 1) := by decide +kernel
theorem dX1_doWeek_1 : decode cX1_doWeek 1 = .ok (.getfield 37, 3) := by decide +kernel
theorem dX1_doWeek_4 : decode cX1_doWeek 4 = .ok (.iconst 2, 1) := by decide +kernel
theorem dX1_doWeek_5 : decode cX1_doWeek 5 = .ok (.iconst 0, 1) := by decide +kernel
theorem dX1_doWeek_6 : decode cX1_doWeek 6 = .ok (.iconst 0, 1) := by decide +kernel
theorem dX1_doWeek_7 : decode cX1_doWeek 7 = .ok (.iconst 0, 1) := by decide +kernel
theorem dX1_doWeek_8 : decode cX1_doWeek 8 = .ok (.iconst 0, 1) := by decide +kernel
theorem dX1_doWeek_9 : decode cX1_doWeek 9 = .ok (.invokevirtual 92, 3) := by decide +kernel
theorem dX1_doWeek_12 : decode cX1_doWeek 12 = .ok (.aload_n 0, 1) := by decide +kernel
theorem dX1_doWeek_13 : decode cX1_doWeek 13 = .ok (.iconst 1, 1) := by decide +kernel
theorem dX1_doWeek_14 : decode cX1_doWeek 14 = .ok (.invokevirtual 100, 3) := by decide +kernel
theorem dX1_doWeek_17 : decode cX1_doWeek 17 = .ok (.return_, 1) := by decide +kernel
def p1_doWeek (b : Nat) (M : SX) : Option SX :=
  bv (p0_add (b + 7) 2 0 0 0 0 M) (fun M2 => bv (p1_ageTickets b 1 M2) (fun M4 => some M4))
set_option maxHeartbeats 4000000 in
set_option maxRecDepth 100000 in
theorem c1_doWeek {l : Launch} {G : XG} {M' : SX} {M : SX} (b : Nat) (qb : isL b) (hf : p1_doWeek b M = some M') : Met l yX1_doWeek (.code yX1_doWeek cX1_doWeek 1 none :: TBL) (rmX 2) (xPc G ZX M [.ref (G.2.1 b)]) (xQv G ZX M') 0 0 (inA G ZX) := by
  refine x_met (cc := cX1_doWeek) (by decide) (Nat.le_of_ble_eq_true rfl) ?_
  intro p e s m below meth c ls F hr hk hl hw
  have F : Fx G ZX p m c cX1_doWeek 1 s [.ref (G.2.1 b)].toArray RX1 := F
  have hl : lv_has ls 1 [(0, .ref (G.2.1 b))] := hl
  have hx := F.1.1
  have hb := F.1.2.1
  unfold p1_doWeek at hf
  refine lv_aload_n hx hb dX1_doWeek_0 rfl (lv_at hl 0 rfl) ?_
  refine g1_7 qb F hw tw_42 dX1_doWeek_1 ?_
  refine lv_iconst (v := 2) hx hb dX1_doWeek_4 (by decide) ?_
  refine lv_iconst (v := 0) hx hb dX1_doWeek_5 (by decide) ?_
  refine lv_iconst (v := 0) hx hb dX1_doWeek_6 (by decide) ?_
  refine lv_iconst (v := 0) hx hb dX1_doWeek_7 (by decide) ?_
  refine lv_iconst (v := 0) hx hb dX1_doWeek_8 (by decide) ?_
  obtain ⟨M2, hc1, hf⟩ := bv_some hf
  refine x_aftV hw (x_runV (rest := []) F hw hl.1 vw_RX1_92 (sD (isD_of qb)) rfl (c0_add (b + 7) (isD_of qb) 2 0 0 0 0 hc1) rfl rfl (Nat.le_of_ble_eq_true rfl) ⟨Nat.le_of_ble_eq_true rfl, Nat.le_of_ble_eq_true rfl⟩ dX1_doWeek_9) (fun H locs hw => ?_)
  refine lv_aload_n hx hb dX1_doWeek_12 rfl (lv_at hl 0 rfl) ?_
  refine lv_iconst (v := 1) hx hb dX1_doWeek_13 (by decide) ?_
  obtain ⟨M4, hc3, hf⟩ := bv_some hf
  refine x_aftV hw (x_runV (rest := []) F hw hl.1 vw_RX1_100 (sL qb) rfl (c1_ageTickets b qb 1 hc3) rfl rfl (Nat.le_of_ble_eq_true rfl) ⟨Nat.le_of_ble_eq_true rfl, Nat.le_of_ble_eq_true rfl⟩ dX1_doWeek_14) (fun H locs hw => ?_)
  exact x_vret F hw hr hk hf dX1_doWeek_17
theorem dX1_doGive_0 : decode cX1_doGive 0 = .ok (.aload_n 0, 1) := by decide +kernel
theorem dX1_doGive_1 : decode cX1_doGive 1 = .ok (.getfield 37, 3) := by decide +kernel
theorem dX1_doGive_4 : decode cX1_doGive 4 = .ok (.iconst 3, 1) := by decide +kernel
theorem dX1_doGive_5 : decode cX1_doGive 5 = .ok (.iload_n 1, 1) := by decide +kernel
theorem dX1_doGive_6 : decode cX1_doGive 6 = .ok (.iconst 0, 1) := by decide +kernel
theorem dX1_doGive_7 : decode cX1_doGive 7 = .ok (.iload_n 2, 1) := by decide +kernel
theorem dX1_doGive_8 : decode cX1_doGive 8 = .ok (.iconst 0, 1) := by decide +kernel
theorem dX1_doGive_9 : decode cX1_doGive 9 = .ok (.invokevirtual 92, 3) := by decide +kernel
theorem dX1_doGive_12 : decode cX1_doGive 12 = .ok (.aload_n 0, 1) := by decide +kernel
theorem dX1_doGive_13 : decode cX1_doGive 13 = .ok (.getfield 19, 3) := by decide +kernel
theorem dX1_doGive_16 : decode cX1_doGive 16 = .ok (.iload_n 1, 1) := by decide +kernel
theorem dX1_doGive_17 : decode cX1_doGive 17 = .ok (.dup2, 1) := by decide +kernel
theorem dX1_doGive_18 : decode cX1_doGive 18 = .ok (.iaload, 1) := by decide +kernel
theorem dX1_doGive_19 : decode cX1_doGive 19 = .ok (.iload_n 2, 1) := by decide +kernel
theorem dX1_doGive_20 : decode cX1_doGive 20 = .ok (.iadd, 1) := by decide +kernel
theorem dX1_doGive_21 : decode cX1_doGive 21 = .ok (.iastore, 1) := by decide +kernel
theorem dX1_doGive_22 : decode cX1_doGive 22 = .ok (.return_, 1) := by decide +kernel
def p1_doGive (b : Nat) (a1 : Int32) (a2 : Int32) (M : SX) : Option SX :=
  bv (p0_add (b + 7) 3 a1 0 a2 0 M) (fun M2 => gd (bIn a1 6) ( lt_ (wI M2 (b + 2) (Int32.toNatClampNeg a1) ((M2.1 (b + 2) (Int32.toNatClampNeg a1)) + a2)) (fun M4 => some M4)))
set_option maxHeartbeats 4000000 in
set_option maxRecDepth 100000 in
theorem c1_doGive {l : Launch} {G : XG} {M' : SX} {M : SX} (b : Nat) (qb : isL b) (a1 : Int32) (a2 : Int32) (hf : p1_doGive b a1 a2 M = some M') : Met l yX1_doGive (.code yX1_doGive cX1_doGive 3 none :: TBL) (rmX 2) (xPc G ZX M [.ref (G.2.1 b), .int a1, .int a2]) (xQv G ZX M') 0 0 (inA G ZX) := by
  refine x_met (cc := cX1_doGive) (by decide) (Nat.le_of_ble_eq_true rfl) ?_
  intro p e s m below meth c ls F hr hk hl hw
  have F : Fx G ZX p m c cX1_doGive 3 s [.ref (G.2.1 b), .int a1, .int a2].toArray RX1 := F
  have hl : lv_has ls 3 [(0, .ref (G.2.1 b)), (1, .int a1), (2, .int a2)] := hl
  have hx := F.1.1
  have hb := F.1.2.1
  unfold p1_doGive at hf
  refine lv_aload_n hx hb dX1_doGive_0 rfl (lv_at hl 0 rfl) ?_
  refine g1_7 qb F hw tw_42 dX1_doGive_1 ?_
  refine lv_iconst (v := 3) hx hb dX1_doGive_4 (by decide) ?_
  refine lv_iload_n hx hb dX1_doGive_5 rfl (lv_at hl 1 rfl) ?_
  refine lv_iconst (v := 0) hx hb dX1_doGive_6 (by decide) ?_
  refine lv_iload_n hx hb dX1_doGive_7 rfl (lv_at hl 2 rfl) ?_
  refine lv_iconst (v := 0) hx hb dX1_doGive_8 (by decide) ?_
  obtain ⟨M2, hc1, hf⟩ := bv_some hf
  refine x_aftV hw (x_runV (rest := []) F hw hl.1 vw_RX1_92 (sD (isD_of qb)) rfl (c0_add (b + 7) (isD_of qb) 3 a1 0 a2 0 hc1) rfl rfl (Nat.le_of_ble_eq_true rfl) ⟨Nat.le_of_ble_eq_true rfl, Nat.le_of_ble_eq_true rfl⟩ dX1_doGive_9) (fun H locs hw => ?_)
  refine lv_aload_n hx hb dX1_doGive_12 rfl (lv_at hl 0 rfl) ?_
  refine g1_2 qb F hw tw_47 dX1_doGive_13 ?_
  refine lv_iload_n hx hb dX1_doGive_16 rfl (lv_at hl 1 rfl) ?_
  refine lv_dup2_11 hx hb dX1_doGive_17 rfl rfl ?_
  obtain ⟨g3, hf⟩ := gd_some hf
  refine x_iald F hw (sL2 qb) g3 dX1_doGive_18 ?_
  refine lv_iload_n hx hb dX1_doGive_19 rfl (lv_at hl 2 rfl) ?_
  refine lv_iadd hx hb dX1_doGive_20 ?_
  refine x_iast F hw (sL2 qb) g3 dX1_doGive_21 (fun H locs hw => ?_)
  obtain ⟨M4, eM4, hf⟩ := lt_elim hf
  rw [← eM4] at hw
  exact x_vret F hw hr hk hf dX1_doGive_22
theorem dX1_dueTo_0 : decode cX1_dueTo 0 = .ok (.iconst 0, 1) := by decide +kernel
theorem dX1_dueTo_1 : decode cX1_dueTo 1 = .ok (.istore_n 3, 1) := by decide +kernel
theorem dX1_dueTo_2 : decode cX1_dueTo 2 = .ok (.iconst 0, 1) := by decide +kernel
theorem dX1_dueTo_3 : decode cX1_dueTo 3 = .ok (.istore 4, 2) := by decide +kernel
theorem dX1_dueTo_5 : decode cX1_dueTo 5 = .ok (.iload 4, 2) := by decide +kernel
theorem dX1_dueTo_7 : decode cX1_dueTo 7 = .ok (.aload_n 0, 1) := by decide +kernel
theorem dX1_dueTo_8 : decode cX1_dueTo 8 = .ok (.getfield 9, 3) := by decide +kernel
theorem dX1_dueTo_11 : decode cX1_dueTo 11 = .ok (.if_icmp .ge 30, 3) := by decide +kernel
theorem dX1_dueTo_14 : decode cX1_dueTo 14 = .ok (.aload_n 0, 1) := by decide +kernel
theorem dX1_dueTo_15 : decode cX1_dueTo 15 = .ok (.getfield 25, 3) := by decide +kernel
theorem dX1_dueTo_18 : decode cX1_dueTo 18 = .ok (.iload 4, 2) := by decide +kernel
theorem dX1_dueTo_20 : decode cX1_dueTo 20 = .ok (.iaload, 1) := by decide +kernel
theorem dX1_dueTo_21 : decode cX1_dueTo 21 = .ok (.iload_n 1, 1) := by decide +kernel
theorem dX1_dueTo_22 : decode cX1_dueTo 22 = .ok (.if_icmp .ne 13, 3) := by decide +kernel
theorem dX1_dueTo_25 : decode cX1_dueTo 25 = .ok (.iload_n 3, 1) := by decide +kernel
theorem dX1_dueTo_26 : decode cX1_dueTo 26 = .ok (.aload_n 0, 1) := by decide +kernel
theorem dX1_dueTo_27 : decode cX1_dueTo 27 = .ok (.iload 4, 2) := by decide +kernel
theorem dX1_dueTo_29 : decode cX1_dueTo 29 = .ok (.iload_n 2, 1) := by decide +kernel
theorem dX1_dueTo_30 : decode cX1_dueTo 30 = .ok (.invokevirtual 74, 3) := by decide +kernel
theorem dX1_dueTo_33 : decode cX1_dueTo 33 = .ok (.iadd, 1) := by decide +kernel
theorem dX1_dueTo_34 : decode cX1_dueTo 34 = .ok (.istore_n 3, 1) := by decide +kernel
theorem dX1_dueTo_35 : decode cX1_dueTo 35 = .ok (.iinc 4 1, 3) := by decide +kernel
theorem dX1_dueTo_38 : decode cX1_dueTo 38 = .ok (.goto (-33), 3) := by decide +kernel
theorem dX1_dueTo_41 : decode cX1_dueTo 41 = .ok (.iload_n 3, 1) := by decide +kernel
theorem dX1_dueTo_42 : decode cX1_dueTo 42 = .ok (.ireturn, 1) := by decide +kernel
def p1_dueTo_35 (b : Nat) (k5 : Int32 → Int32 → Int32 → Int32 → SX → Option (Int32 × SX)) (v1 : Int32) (v2 : Int32) (v3 : Int32) (v4 : Int32) (M : SX) : Option (Int32 × SX) :=
  lt_ (v4 + 1) (fun x1 => k5 v1 v2 v3 x1 M)
set_option maxHeartbeats 4000000 in
set_option maxRecDepth 100000 in
theorem w1_dueTo_35 {G : XG} {p : Program} {l : Launch} {e : Env} {s : State} {m : MethodId} {args : Array Value} {below : List Frame} {meth : Method} {c : Code} (F : Fx G ZX p m c cX1_dueTo 5 s args RX1) (hr : meth.sig.returnType = some .int) (hk : meth.locks = false) {r : Int32} {M' : SX} (b : Nat) (qb : isL b) (k5 : Int32 → Int32 → Int32 → Int32 → SX → Option (Int32 × SX)) (hk5 : ∀ (v1 : Int32) (v2 : Int32) (v3 : Int32) (v4 : Int32) (M : SX) (H : Heap) (locs : List Loc) (ls : Array Slot), Wld G ZX M s.heap H locs → lv_has ls 5 [(0, .ref (G.2.1 b)), (1, .int v1), (2, .int v2), (3, .int v3), (4, .int v4)] → k5 v1 v2 v3 v4 M = some (r, M') → WXi G ZX p l e 3 s m args below meth c r M' H locs (F0 m 5 ls [])) : ∀ (v1 : Int32) (v2 : Int32) (v3 : Int32) (v4 : Int32) (M : SX) (H : Heap) (locs : List Loc) (ls : Array Slot), Wld G ZX M s.heap H locs → lv_has ls 5 [(0, .ref (G.2.1 b)), (1, .int v1), (2, .int v2), (3, .int v3), (4, .int v4)] → p1_dueTo_35 b k5 v1 v2 v3 v4 M = some (r, M') → WXi G ZX p l e 3 s m args below meth c r M' H locs (F0 m 35 ls []) := by
  intro v1 v2 v3 v4 M H locs ls hw hl hf
  have hx := F.1.1
  have hb := F.1.2.1
  unfold p1_dueTo_35 at hf
  obtain ⟨x1, ex1, hf⟩ := lt_elim hf
  refine lv_iinc (v := x1) (lv' := [(4, .int x1), (0, .ref (G.2.1 b)), (1, .int v1), (2, .int v2), (3, .int v3)]) hx hb dX1_dueTo_35 hl (k := 4) rfl (by rw [ex1]; rfl) (by decide) rfl (fun ls hl => ?_)
  refine lv_goto (tgt := 5) hx hb dX1_dueTo_38 (by decide) ?_
  exact hk5 v1 v2 v3 x1 M _ _ ls hw (lv_sub hl [1, 2, 3, 4, 0] rfl) hf
def p1_dueTo_5 (b : Nat) (k5 : Int32 → Int32 → Int32 → Int32 → SX → Option (Int32 × SX)) (v1 : Int32) (v2 : Int32) (v3 : Int32) (v4 : Int32) (M : SX) : Option (Int32 × SX) :=
  if (M.1 b 0) ≤ v4 then (some (v3, M))
  else (gd (bIn v4 6) ( if (M.1 (b + 4) (Int32.toNatClampNeg v4)) = v1 then (bd (p1_dueOf b v4 v2 M) (fun r6 M5 => lt_ (v3 + r6) (fun x7 => p1_dueTo_35 b k5 v1 v2 x7 v4 M5)))
  else (p1_dueTo_35 b k5 v1 v2 v3 v4 M)))
set_option maxHeartbeats 4000000 in
set_option maxRecDepth 100000 in
theorem w1_dueTo_5 {G : XG} {p : Program} {l : Launch} {e : Env} {s : State} {m : MethodId} {args : Array Value} {below : List Frame} {meth : Method} {c : Code} (F : Fx G ZX p m c cX1_dueTo 5 s args RX1) (hr : meth.sig.returnType = some .int) (hk : meth.locks = false) {r : Int32} {M' : SX} (b : Nat) (qb : isL b) (k5 : Int32 → Int32 → Int32 → Int32 → SX → Option (Int32 × SX)) (hk5 : ∀ (v1 : Int32) (v2 : Int32) (v3 : Int32) (v4 : Int32) (M : SX) (H : Heap) (locs : List Loc) (ls : Array Slot), Wld G ZX M s.heap H locs → lv_has ls 5 [(0, .ref (G.2.1 b)), (1, .int v1), (2, .int v2), (3, .int v3), (4, .int v4)] → k5 v1 v2 v3 v4 M = some (r, M') → WXi G ZX p l e 3 s m args below meth c r M' H locs (F0 m 5 ls [])) : ∀ (v1 : Int32) (v2 : Int32) (v3 : Int32) (v4 : Int32) (M : SX) (H : Heap) (locs : List Loc) (ls : Array Slot), Wld G ZX M s.heap H locs → lv_has ls 5 [(0, .ref (G.2.1 b)), (1, .int v1), (2, .int v2), (3, .int v3), (4, .int v4)] → p1_dueTo_5 b k5 v1 v2 v3 v4 M = some (r, M') → WXi G ZX p l e 3 s m args below meth c r M' H locs (F0 m 5 ls []) := by
  intro v1 v2 v3 v4 M H locs ls hw hl hf
  have hx := F.1.1
  have hb := F.1.2.1
  unfold p1_dueTo_5 at hf
  refine lv_iload hx hb dX1_dueTo_5 (lv_at hl 4 rfl) ?_
  refine lv_aload_n hx hb dX1_dueTo_7 rfl (lv_at hl 0 rfl) ?_
  refine g1_0 qb F hw tw_41 dX1_dueTo_8 ?_
  refine lv_icmp_ge (tgt := 41) hx hb dX1_dueTo_11 (by decide) (fun c1 => ?_) (fun c1 => ?_)
  · have hf := it_t hf c1
    refine lv_iload_n hx hb dX1_dueTo_41 rfl (lv_at hl 3 rfl) ?_
    exact x_iret F hw hr hk hf dX1_dueTo_42
  · have hf := it_f hf c1
    refine lv_aload_n hx hb dX1_dueTo_14 rfl (lv_at hl 0 rfl) ?_
    refine g1_4 qb F hw tw_44 dX1_dueTo_15 ?_
    refine lv_iload hx hb dX1_dueTo_18 (lv_at hl 4 rfl) ?_
    obtain ⟨g2, hf⟩ := gd_some hf
    refine x_iald F hw (sL4 qb) g2 dX1_dueTo_20 ?_
    refine lv_iload_n hx hb dX1_dueTo_21 rfl (lv_at hl 1 rfl) ?_
    refine lv_icmp_ne (tgt := 35) hx hb dX1_dueTo_22 (by decide) (fun c3 => ?_) (fun c3 => ?_)
    · have hf := it_f hf c3
      exact w1_dueTo_35 F hr hk b qb k5 hk5 v1 v2 v3 v4 M _ _ ls hw (lv_sub hl [0, 1, 2, 3, 4] rfl) hf
    · have hf := it_t hf c3
      refine lv_iload_n hx hb dX1_dueTo_25 rfl (lv_at hl 3 rfl) ?_
      refine lv_aload_n hx hb dX1_dueTo_26 rfl (lv_at hl 0 rfl) ?_
      refine lv_iload hx hb dX1_dueTo_27 (lv_at hl 4 rfl) ?_
      refine lv_iload_n hx hb dX1_dueTo_29 rfl (lv_at hl 2 rfl) ?_
      obtain ⟨r6, M5, hc4, hf⟩ := bd_some hf
      refine x_aftI hw (x_runV (rest := [.int v3]) F hw hl.1 vw_RX1_74 (sL qb) rfl (c1_dueOf b qb v4 v2 hc4) rfl rfl (Nat.le_of_ble_eq_true rfl) ⟨Nat.le_of_ble_eq_true rfl, Nat.le_of_ble_eq_true rfl⟩ dX1_dueTo_30) (fun H locs hw => ?_)
      refine lv_iadd hx hb dX1_dueTo_33 ?_
      obtain ⟨x7, ex7, hf⟩ := lt_elim hf
      refine x_let ex7 ?_
      refine lv_istore_n (lv' := [(3, .int x7), (0, .ref (G.2.1 b)), (1, .int v1), (2, .int v2), (4, .int v4)]) hx hb dX1_dueTo_34 rfl hl (by decide) rfl (fun ls hl => ?_)
      exact w1_dueTo_35 F hr hk b qb k5 hk5 v1 v2 x7 v4 M5 _ _ ls hw (lv_sub hl [1, 2, 3, 0, 4] rfl) hf
theorem z1_dueTo_5 {G : XG} {p : Program} {l : Launch} {e : Env} {s : State} {m : MethodId} {args : Array Value} {below : List Frame} {meth : Method} {c : Code} (F : Fx G ZX p m c cX1_dueTo 5 s args RX1) (hr : meth.sig.returnType = some .int) (hk : meth.locks = false) {r : Int32} {M' : SX} (b : Nat) (qb : isL b) : ∀ n : Nat, ∀ (v1 : Int32) (v2 : Int32) (v3 : Int32) (v4 : Int32) (M : SX) (H : Heap) (locs : List Loc) (ls : Array Slot), Wld G ZX M s.heap H locs → lv_has ls 5 [(0, .ref (G.2.1 b)), (1, .int v1), (2, .int v2), (3, .int v3), (4, .int v4)] → xlp4 (p1_dueTo_5 b) n v1 v2 v3 v4 M = some (r, M') → WXi G ZX p l e 3 s m args below meth c r M' H locs (F0 m 5 ls []) := by
  intro n
  induction n with
  | zero => intro _ _ _ _ _ _ _ _ _ _ hf; cases hf
  | succ n ih => exact w1_dueTo_5 F hr hk b qb (xlp4 (p1_dueTo_5 b) n) ih
def p1_dueTo (b : Nat) (a1 : Int32) (a2 : Int32) (M : SX) : Option (Int32 × SX) :=
  xlp4 (p1_dueTo_5 b) FU a1 a2 0 0 M
set_option maxHeartbeats 4000000 in
set_option maxRecDepth 100000 in
theorem c1_dueTo {l : Launch} {G : XG} {r : Int32} {M' : SX} {M : SX} (b : Nat) (qb : isL b) (a1 : Int32) (a2 : Int32) (hf : p1_dueTo b a1 a2 M = some (r, M')) : Met l yX1_dueTo (.code yX1_dueTo cX1_dueTo 5 (some .int) :: TBL) (rmX 3) (xPc G ZX M [.ref (G.2.1 b), .int a1, .int a2]) (xQi G ZX r M') 0 0 (inA G ZX) := by
  refine x_met (cc := cX1_dueTo) (by decide) (Nat.le_of_ble_eq_true rfl) ?_
  intro p e s m below meth c ls F hr hk hl hw
  have F : Fx G ZX p m c cX1_dueTo 5 s [.ref (G.2.1 b), .int a1, .int a2].toArray RX1 := F
  have hl : lv_has ls 5 [(0, .ref (G.2.1 b)), (1, .int a1), (2, .int a2)] := hl
  have hx := F.1.1
  have hb := F.1.2.1
  unfold p1_dueTo at hf
  refine lv_iconst (v := 0) hx hb dX1_dueTo_0 (by decide) ?_
  refine lv_istore_n (lv' := [(3, .int 0), (0, .ref (G.2.1 b)), (1, .int a1), (2, .int a2)]) hx hb dX1_dueTo_1 rfl hl (by decide) rfl (fun ls hl => ?_)
  refine lv_iconst (v := 0) hx hb dX1_dueTo_2 (by decide) ?_
  refine lv_istore (lv' := [(4, .int 0), (3, .int 0), (0, .ref (G.2.1 b)), (1, .int a1), (2, .int a2)]) hx hb dX1_dueTo_3 hl (by decide) rfl (fun ls hl => ?_)
  exact z1_dueTo_5 F hr hk b qb FU a1 a2 0 0 M _ _ ls hw (lv_sub hl [2, 3, 4, 1, 0] rfl) hf
theorem dX1_dueInAll_0 : decode cX1_dueInAll 0 = .ok (.iconst 0, 1) := by decide +kernel
theorem dX1_dueInAll_1 : decode cX1_dueInAll 1 = .ok (.istore_n 1, 1) := by decide +kernel
theorem dX1_dueInAll_2 : decode cX1_dueInAll 2 = .ok (.iconst 0, 1) := by decide +kernel
theorem dX1_dueInAll_3 : decode cX1_dueInAll 3 = .ok (.istore_n 2, 1) := by decide +kernel
theorem dX1_dueInAll_4 : decode cX1_dueInAll 4 = .ok (.iload_n 2, 1) := by decide +kernel
theorem dX1_dueInAll_5 : decode cX1_dueInAll 5 = .ok (.aload_n 0, 1) := by decide +kernel
theorem dX1_dueInAll_6 : decode cX1_dueInAll 6 = .ok (.getfield 9, 3) := by decide +kernel
theorem dX1_dueInAll_9 : decode cX1_dueInAll 9 = .ok (.if_icmp .ge 18, 3) := by decide +kernel
theorem dX1_dueInAll_12 : decode cX1_dueInAll 12 = .ok (.iload_n 1, 1) := by decide +kernel
theorem dX1_dueInAll_13 : decode cX1_dueInAll 13 = .ok (.aload_n 0, 1) := by decide +kernel
theorem dX1_dueInAll_14 : decode cX1_dueInAll 14 = .ok (.iload_n 2, 1) := by decide +kernel
theorem dX1_dueInAll_15 : decode cX1_dueInAll 15 = .ok (.iconst 0, 1) := by decide +kernel
theorem dX1_dueInAll_16 : decode cX1_dueInAll 16 = .ok (.invokevirtual 74, 3) := by decide +kernel
theorem dX1_dueInAll_19 : decode cX1_dueInAll 19 = .ok (.iadd, 1) := by decide +kernel
theorem dX1_dueInAll_20 : decode cX1_dueInAll 20 = .ok (.istore_n 1, 1) := by decide +kernel
theorem dX1_dueInAll_21 : decode cX1_dueInAll 21 = .ok (.iinc 2 1, 3) := by decide +kernel
theorem dX1_dueInAll_24 : decode cX1_dueInAll 24 = .ok (.goto (-20), 3) := by decide +kernel
theorem dX1_dueInAll_27 : decode cX1_dueInAll 27 = .ok (.iload_n 1, 1) := by decide +kernel
theorem dX1_dueInAll_28 : decode cX1_dueInAll 28 = .ok (.ireturn, 1) := by decide +kernel
def p1_dueInAll_4 (b : Nat) (k4 : Int32 → Int32 → SX → Option (Int32 × SX)) (v1 : Int32) (v2 : Int32) (M : SX) : Option (Int32 × SX) :=
  if (M.1 b 0) ≤ v2 then (some (v1, M))
  else (bd (p1_dueOf b v2 0 M) (fun r4 M3 => lt_ (v1 + r4) (fun x5 => lt_ (v2 + 1) (fun x6 => k4 x5 x6 M3))))
set_option maxHeartbeats 4000000 in
set_option maxRecDepth 100000 in
theorem w1_dueInAll_4 {G : XG} {p : Program} {l : Launch} {e : Env} {s : State} {m : MethodId} {args : Array Value} {below : List Frame} {meth : Method} {c : Code} (F : Fx G ZX p m c cX1_dueInAll 3 s args RX1) (hr : meth.sig.returnType = some .int) (hk : meth.locks = false) {r : Int32} {M' : SX} (b : Nat) (qb : isL b) (k4 : Int32 → Int32 → SX → Option (Int32 × SX)) (hk4 : ∀ (v1 : Int32) (v2 : Int32) (M : SX) (H : Heap) (locs : List Loc) (ls : Array Slot), Wld G ZX M s.heap H locs → lv_has ls 3 [(0, .ref (G.2.1 b)), (1, .int v1), (2, .int v2)] → k4 v1 v2 M = some (r, M') → WXi G ZX p l e 3 s m args below meth c r M' H locs (F0 m 4 ls [])) : ∀ (v1 : Int32) (v2 : Int32) (M : SX) (H : Heap) (locs : List Loc) (ls : Array Slot), Wld G ZX M s.heap H locs → lv_has ls 3 [(0, .ref (G.2.1 b)), (1, .int v1), (2, .int v2)] → p1_dueInAll_4 b k4 v1 v2 M = some (r, M') → WXi G ZX p l e 3 s m args below meth c r M' H locs (F0 m 4 ls []) := by
  intro v1 v2 M H locs ls hw hl hf
  have hx := F.1.1
  have hb := F.1.2.1
  unfold p1_dueInAll_4 at hf
  refine lv_iload_n hx hb dX1_dueInAll_4 rfl (lv_at hl 2 rfl) ?_
  refine lv_aload_n hx hb dX1_dueInAll_5 rfl (lv_at hl 0 rfl) ?_
  refine g1_0 qb F hw tw_41 dX1_dueInAll_6 ?_
  refine lv_icmp_ge (tgt := 27) hx hb dX1_dueInAll_9 (by decide) (fun c1 => ?_) (fun c1 => ?_)
  · have hf := it_t hf c1
    refine lv_iload_n hx hb dX1_dueInAll_27 rfl (lv_at hl 1 rfl) ?_
    exact x_iret F hw hr hk hf dX1_dueInAll_28
  · have hf := it_f hf c1
    refine lv_iload_n hx hb dX1_dueInAll_12 rfl (lv_at hl 1 rfl) ?_
    refine lv_aload_n hx hb dX1_dueInAll_13 rfl (lv_at hl 0 rfl) ?_
    refine lv_iload_n hx hb dX1_dueInAll_14 rfl (lv_at hl 2 rfl) ?_
    refine lv_iconst (v := 0) hx hb dX1_dueInAll_15 (by decide) ?_
    obtain ⟨r4, M3, hc2, hf⟩ := bd_some hf
    refine x_aftI hw (x_runV (rest := [.int v1]) F hw hl.1 vw_RX1_74 (sL qb) rfl (c1_dueOf b qb v2 0 hc2) rfl rfl (Nat.le_of_ble_eq_true rfl) ⟨Nat.le_of_ble_eq_true rfl, Nat.le_of_ble_eq_true rfl⟩ dX1_dueInAll_16) (fun H locs hw => ?_)
    refine lv_iadd hx hb dX1_dueInAll_19 ?_
    obtain ⟨x5, ex5, hf⟩ := lt_elim hf
    refine x_let ex5 ?_
    refine lv_istore_n (lv' := [(1, .int x5), (0, .ref (G.2.1 b)), (2, .int v2)]) hx hb dX1_dueInAll_20 rfl hl (by decide) rfl (fun ls hl => ?_)
    obtain ⟨x6, ex6, hf⟩ := lt_elim hf
    refine lv_iinc (v := x6) (lv' := [(2, .int x6), (1, .int x5), (0, .ref (G.2.1 b))]) hx hb dX1_dueInAll_21 hl (k := 2) rfl (by rw [ex6]; rfl) (by decide) rfl (fun ls hl => ?_)
    refine lv_goto (tgt := 4) hx hb dX1_dueInAll_24 (by decide) ?_
    exact hk4 x5 x6 M3 _ _ ls hw (lv_sub hl [2, 1, 0] rfl) hf
theorem z1_dueInAll_4 {G : XG} {p : Program} {l : Launch} {e : Env} {s : State} {m : MethodId} {args : Array Value} {below : List Frame} {meth : Method} {c : Code} (F : Fx G ZX p m c cX1_dueInAll 3 s args RX1) (hr : meth.sig.returnType = some .int) (hk : meth.locks = false) {r : Int32} {M' : SX} (b : Nat) (qb : isL b) : ∀ n : Nat, ∀ (v1 : Int32) (v2 : Int32) (M : SX) (H : Heap) (locs : List Loc) (ls : Array Slot), Wld G ZX M s.heap H locs → lv_has ls 3 [(0, .ref (G.2.1 b)), (1, .int v1), (2, .int v2)] → xlp2 (p1_dueInAll_4 b) n v1 v2 M = some (r, M') → WXi G ZX p l e 3 s m args below meth c r M' H locs (F0 m 4 ls []) := by
  intro n
  induction n with
  | zero => intro _ _ _ _ _ _ _ _ hf; cases hf
  | succ n ih => exact w1_dueInAll_4 F hr hk b qb (xlp2 (p1_dueInAll_4 b) n) ih
def p1_dueInAll (b : Nat) (M : SX) : Option (Int32 × SX) :=
  xlp2 (p1_dueInAll_4 b) FU 0 0 M
set_option maxHeartbeats 4000000 in
set_option maxRecDepth 100000 in
theorem c1_dueInAll {l : Launch} {G : XG} {r : Int32} {M' : SX} {M : SX} (b : Nat) (qb : isL b) (hf : p1_dueInAll b M = some (r, M')) : Met l yX1_dueInAll (.code yX1_dueInAll cX1_dueInAll 3 (some .int) :: TBL) (rmX 3) (xPc G ZX M [.ref (G.2.1 b)]) (xQi G ZX r M') 0 0 (inA G ZX) := by
  refine x_met (cc := cX1_dueInAll) (by decide) (Nat.le_of_ble_eq_true rfl) ?_
  intro p e s m below meth c ls F hr hk hl hw
  have F : Fx G ZX p m c cX1_dueInAll 3 s [.ref (G.2.1 b)].toArray RX1 := F
  have hl : lv_has ls 3 [(0, .ref (G.2.1 b))] := hl
  have hx := F.1.1
  have hb := F.1.2.1
  unfold p1_dueInAll at hf
  refine lv_iconst (v := 0) hx hb dX1_dueInAll_0 (by decide) ?_
  refine lv_istore_n (lv' := [(1, .int 0), (0, .ref (G.2.1 b))]) hx hb dX1_dueInAll_1 rfl hl (by decide) rfl (fun ls hl => ?_)
  refine lv_iconst (v := 0) hx hb dX1_dueInAll_2 (by decide) ?_
  refine lv_istore_n (lv' := [(2, .int 0), (1, .int 0), (0, .ref (G.2.1 b))]) hx hb dX1_dueInAll_3 rfl hl (by decide) rfl (fun ls hl => ?_)
  exact z1_dueInAll_4 F hr hk b qb FU 0 0 M _ _ ls hw (lv_sub hl [2, 1, 0] rfl) hf
theorem dX1_ruinsHolder_0 : decode cX1_ruinsHolder 0 = .ok (.aload_n 0, 1) := by decide +kernel
theorem dX1_ruinsHolder_1 : decode cX1_ruinsHolder 1 = .ok (.iload_n 1, 1) := by decide +kernel
theorem dX1_ruinsHolder_2 : decode cX1_ruinsHolder 2 = .ok (.invokevirtual 62, 3) := by decide +kernel
theorem dX1_ruinsHolder_5 : decode cX1_ruinsHolder 5 = .ok (.ifCond .eq 27, 3) := by decide +kernel
theorem dX1_ruinsHolder_8 : decode cX1_ruinsHolder 8 = .ok (.aload_n 0, 1) := by decide +kernel
theorem dX1_ruinsHolder_9 : decode cX1_ruinsHolder 9 = .ok (.iload_n 1, 1) := by decide +kernel
theorem dX1_ruinsHolder_10 : decode cX1_ruinsHolder 10 = .ok (.iconst 0, 1) := by decide +kernel
theorem dX1_ruinsHolder_11 : decode cX1_ruinsHolder 11 = .ok (.invokevirtual 74, 3) := by decide +kernel
theorem dX1_ruinsHolder_14 : decode cX1_ruinsHolder 14 = .ok (.aload_n 0, 1) := by decide +kernel
theorem dX1_ruinsHolder_15 : decode cX1_ruinsHolder 15 = .ok (.getfield 19, 3) := by decide +kernel
theorem dX1_ruinsHolder_18 : decode cX1_ruinsHolder 18 = .ok (.aload_n 0, 1) := by decide +kernel
theorem dX1_ruinsHolder_19 : decode cX1_ruinsHolder 19 = .ok (.getfield 25, 3) := by decide +kernel
theorem dX1_ruinsHolder_22 : decode cX1_ruinsHolder 22 = .ok (.iload_n 1, 1) := by decide +kernel
theorem dX1_ruinsHolder_23 : decode cX1_ruinsHolder 23 = .ok (.iaload, 1) := by decide +kernel
theorem dX1_ruinsHolder_24 : decode cX1_ruinsHolder 24 = .ok (.iaload, 1) := by decide +kernel
theorem dX1_ruinsHolder_25 : decode cX1_ruinsHolder 25 = .ok (.if_icmp .le 7, 3) := by decide +kernel
theorem dX1_ruinsHolder_28 : decode cX1_ruinsHolder 28 = .ok (.iconst 1, 1) := by decide +kernel
theorem dX1_ruinsHolder_29 : decode cX1_ruinsHolder 29 = .ok (.goto 4, 3) := by decide +kernel
theorem dX1_ruinsHolder_32 : decode cX1_ruinsHolder 32 = .ok (.iconst 0, 1) := by decide +kernel
theorem dX1_ruinsHolder_33 : decode cX1_ruinsHolder 33 = .ok (.ireturn, 1) := by decide +kernel
def p1_ruinsHolder (b : Nat) (a1 : Int32) (M : SX) : Option (Int32 × SX) :=
  bd (p1_isPawned b a1 M) (fun r3 M2 => if r3 = 0 then (some (0, M2))
  else (bd (p1_dueOf b a1 0 M2) (fun r7 M6 => gd (bIn a1 6) ( gd (bIn (M6.1 (b + 4) (Int32.toNatClampNeg a1)) 6) ( if r7 ≤ (M6.1 (b + 2) (Int32.toNatClampNeg (M6.1 (b + 4) (Int32.toNatClampNeg a1)))) then (some (0, M6))
  else (some (1, M6)))))))
set_option maxHeartbeats 4000000 in
set_option maxRecDepth 100000 in
theorem c1_ruinsHolder {l : Launch} {G : XG} {r : Int32} {M' : SX} {M : SX} (b : Nat) (qb : isL b) (a1 : Int32) (hf : p1_ruinsHolder b a1 M = some (r, M')) : Met l yX1_ruinsHolder (.code yX1_ruinsHolder cX1_ruinsHolder 2 (some .boolean) :: TBL) (rmX 3) (xPc G ZX M [.ref (G.2.1 b), .int a1]) (xQi G ZX r M') 0 0 (inA G ZX) := by
  refine x_met (cc := cX1_ruinsHolder) (by decide) (Nat.le_of_ble_eq_true rfl) ?_
  intro p e s m below meth c ls F hr hk hl hw
  have F : Fx G ZX p m c cX1_ruinsHolder 2 s [.ref (G.2.1 b), .int a1].toArray RX1 := F
  have hl : lv_has ls 2 [(0, .ref (G.2.1 b)), (1, .int a1)] := hl
  have hx := F.1.1
  have hb := F.1.2.1
  unfold p1_ruinsHolder at hf
  refine lv_aload_n hx hb dX1_ruinsHolder_0 rfl (lv_at hl 0 rfl) ?_
  refine lv_iload_n hx hb dX1_ruinsHolder_1 rfl (lv_at hl 1 rfl) ?_
  obtain ⟨r3, M2, hc1, hf⟩ := bd_some hf
  refine x_aftI hw (x_runV (rest := []) F hw hl.1 vw_RX1_62 (sL qb) rfl (c1_isPawned b qb a1 hc1) rfl rfl (Nat.le_of_ble_eq_true rfl) ⟨Nat.le_of_ble_eq_true rfl, Nat.le_of_ble_eq_true rfl⟩ dX1_ruinsHolder_2) (fun H locs hw => ?_)
  refine lv_if_eq (tgt := 32) hx hb dX1_ruinsHolder_5 (by decide) (fun c4 => ?_) (fun c4 => ?_)
  · have hf := it_t hf c4
    refine lv_iconst (v := 0) hx hb dX1_ruinsHolder_32 (by decide) ?_
    exact x_zret F hw hr hk (by decide) hf dX1_ruinsHolder_33
  · have hf := it_f hf c4
    refine lv_aload_n hx hb dX1_ruinsHolder_8 rfl (lv_at hl 0 rfl) ?_
    refine lv_iload_n hx hb dX1_ruinsHolder_9 rfl (lv_at hl 1 rfl) ?_
    refine lv_iconst (v := 0) hx hb dX1_ruinsHolder_10 (by decide) ?_
    obtain ⟨r7, M6, hc5, hf⟩ := bd_some hf
    refine x_aftI hw (x_runV (rest := []) F hw hl.1 vw_RX1_74 (sL qb) rfl (c1_dueOf b qb a1 0 hc5) rfl rfl (Nat.le_of_ble_eq_true rfl) ⟨Nat.le_of_ble_eq_true rfl, Nat.le_of_ble_eq_true rfl⟩ dX1_ruinsHolder_11) (fun H locs hw => ?_)
    refine lv_aload_n hx hb dX1_ruinsHolder_14 rfl (lv_at hl 0 rfl) ?_
    refine g1_2 qb F hw tw_47 dX1_ruinsHolder_15 ?_
    refine lv_aload_n hx hb dX1_ruinsHolder_18 rfl (lv_at hl 0 rfl) ?_
    refine g1_4 qb F hw tw_44 dX1_ruinsHolder_19 ?_
    refine lv_iload_n hx hb dX1_ruinsHolder_22 rfl (lv_at hl 1 rfl) ?_
    obtain ⟨g8, hf⟩ := gd_some hf
    refine x_iald F hw (sL4 qb) g8 dX1_ruinsHolder_23 ?_
    obtain ⟨g9, hf⟩ := gd_some hf
    refine x_iald F hw (sL2 qb) g9 dX1_ruinsHolder_24 ?_
    refine lv_icmp_le (tgt := 32) hx hb dX1_ruinsHolder_25 (by decide) (fun c10 => ?_) (fun c10 => ?_)
    · have hf := it_t hf c10
      refine lv_iconst (v := 0) hx hb dX1_ruinsHolder_32 (by decide) ?_
      exact x_zret F hw hr hk (by decide) hf dX1_ruinsHolder_33
    · have hf := it_f hf c10
      refine lv_iconst (v := 1) hx hb dX1_ruinsHolder_28 (by decide) ?_
      refine lv_goto (tgt := 33) hx hb dX1_ruinsHolder_29 (by decide) ?_
      exact x_zret F hw hr hk (by decide) hf dX1_ruinsHolder_33
theorem dX1_canRedeem_0 : decode cX1_canRedeem 0 = .ok (.aload_n 0, 1) := by decide +kernel
theorem dX1_canRedeem_1 : decode cX1_canRedeem 1 = .ok (.iload_n 1, 1) := by decide +kernel
theorem dX1_canRedeem_2 : decode cX1_canRedeem 2 = .ok (.invokevirtual 62, 3) := by decide +kernel
theorem dX1_canRedeem_5 : decode cX1_canRedeem 5 = .ok (.ifCond .eq 22, 3) := by decide +kernel
theorem dX1_canRedeem_8 : decode cX1_canRedeem 8 = .ok (.aload_n 0, 1) := by decide +kernel
theorem dX1_canRedeem_9 : decode cX1_canRedeem 9 = .ok (.getfield 19, 3) := by decide +kernel
theorem dX1_canRedeem_12 : decode cX1_canRedeem 12 = .ok (.iload_n 1, 1) := by decide +kernel
theorem dX1_canRedeem_13 : decode cX1_canRedeem 13 = .ok (.iaload, 1) := by decide +kernel
theorem dX1_canRedeem_14 : decode cX1_canRedeem 14 = .ok (.aload_n 0, 1) := by decide +kernel
theorem dX1_canRedeem_15 : decode cX1_canRedeem 15 = .ok (.iload_n 1, 1) := by decide +kernel
theorem dX1_canRedeem_16 : decode cX1_canRedeem 16 = .ok (.iconst 0, 1) := by decide +kernel
theorem dX1_canRedeem_17 : decode cX1_canRedeem 17 = .ok (.invokevirtual 74, 3) := by decide +kernel
theorem dX1_canRedeem_20 : decode cX1_canRedeem 20 = .ok (.if_icmp .lt 7, 3) := by decide +kernel
theorem dX1_canRedeem_23 : decode cX1_canRedeem 23 = .ok (.iconst 1, 1) := by decide +kernel
theorem dX1_canRedeem_24 : decode cX1_canRedeem 24 = .ok (.goto 4, 3) := by decide +kernel
theorem dX1_canRedeem_27 : decode cX1_canRedeem 27 = .ok (.iconst 0, 1) := by decide +kernel
theorem dX1_canRedeem_28 : decode cX1_canRedeem 28 = .ok (.ireturn, 1) := by decide +kernel
def p1_canRedeem (b : Nat) (a1 : Int32) (M : SX) : Option (Int32 × SX) :=
  bd (p1_isPawned b a1 M) (fun r3 M2 => if r3 = 0 then (some (0, M2))
  else (gd (bIn a1 6) ( bd (p1_dueOf b a1 0 M2) (fun r8 M7 => if (M2.1 (b + 2) (Int32.toNatClampNeg a1)) < r8 then (some (0, M7))
  else (some (1, M7))))))
set_option maxHeartbeats 4000000 in
set_option maxRecDepth 100000 in
theorem c1_canRedeem {l : Launch} {G : XG} {r : Int32} {M' : SX} {M : SX} (b : Nat) (qb : isL b) (a1 : Int32) (hf : p1_canRedeem b a1 M = some (r, M')) : Met l yX1_canRedeem (.code yX1_canRedeem cX1_canRedeem 2 (some .boolean) :: TBL) (rmX 3) (xPc G ZX M [.ref (G.2.1 b), .int a1]) (xQi G ZX r M') 0 0 (inA G ZX) := by
  refine x_met (cc := cX1_canRedeem) (by decide) (Nat.le_of_ble_eq_true rfl) ?_
  intro p e s m below meth c ls F hr hk hl hw
  have F : Fx G ZX p m c cX1_canRedeem 2 s [.ref (G.2.1 b), .int a1].toArray RX1 := F
  have hl : lv_has ls 2 [(0, .ref (G.2.1 b)), (1, .int a1)] := hl
  have hx := F.1.1
  have hb := F.1.2.1
  unfold p1_canRedeem at hf
  refine lv_aload_n hx hb dX1_canRedeem_0 rfl (lv_at hl 0 rfl) ?_
  refine lv_iload_n hx hb dX1_canRedeem_1 rfl (lv_at hl 1 rfl) ?_
  obtain ⟨r3, M2, hc1, hf⟩ := bd_some hf
  refine x_aftI hw (x_runV (rest := []) F hw hl.1 vw_RX1_62 (sL qb) rfl (c1_isPawned b qb a1 hc1) rfl rfl (Nat.le_of_ble_eq_true rfl) ⟨Nat.le_of_ble_eq_true rfl, Nat.le_of_ble_eq_true rfl⟩ dX1_canRedeem_2) (fun H locs hw => ?_)
  refine lv_if_eq (tgt := 27) hx hb dX1_canRedeem_5 (by decide) (fun c4 => ?_) (fun c4 => ?_)
  · have hf := it_t hf c4
    refine lv_iconst (v := 0) hx hb dX1_canRedeem_27 (by decide) ?_
    exact x_zret F hw hr hk (by decide) hf dX1_canRedeem_28
  · have hf := it_f hf c4
    refine lv_aload_n hx hb dX1_canRedeem_8 rfl (lv_at hl 0 rfl) ?_
    refine g1_2 qb F hw tw_47 dX1_canRedeem_9 ?_
    refine lv_iload_n hx hb dX1_canRedeem_12 rfl (lv_at hl 1 rfl) ?_
    obtain ⟨g5, hf⟩ := gd_some hf
    refine x_iald F hw (sL2 qb) g5 dX1_canRedeem_13 ?_
    refine lv_aload_n hx hb dX1_canRedeem_14 rfl (lv_at hl 0 rfl) ?_
    refine lv_iload_n hx hb dX1_canRedeem_15 rfl (lv_at hl 1 rfl) ?_
    refine lv_iconst (v := 0) hx hb dX1_canRedeem_16 (by decide) ?_
    obtain ⟨r8, M7, hc6, hf⟩ := bd_some hf
    refine x_aftI hw (x_runV (rest := [.int (M2.1 (b + 2) (Int32.toNatClampNeg a1))]) F hw hl.1 vw_RX1_74 (sL qb) rfl (c1_dueOf b qb a1 0 hc6) rfl rfl (Nat.le_of_ble_eq_true rfl) ⟨Nat.le_of_ble_eq_true rfl, Nat.le_of_ble_eq_true rfl⟩ dX1_canRedeem_17) (fun H locs hw => ?_)
    refine lv_icmp_lt (tgt := 27) hx hb dX1_canRedeem_20 (by decide) (fun c9 => ?_) (fun c9 => ?_)
    · have hf := it_t hf c9
      refine lv_iconst (v := 0) hx hb dX1_canRedeem_27 (by decide) ?_
      exact x_zret F hw hr hk (by decide) hf dX1_canRedeem_28
    · have hf := it_f hf c9
      refine lv_iconst (v := 1) hx hb dX1_canRedeem_23 (by decide) ?_
      refine lv_goto (tgt := 28) hx hb dX1_canRedeem_24 (by decide) ?_
      exact x_zret F hw hr hk (by decide) hf dX1_canRedeem_28
theorem dX1_doRedeem_0 : decode cX1_doRedeem 0 = .ok (.aload_n 0, 1) := by decide +kernel
theorem dX1_doRedeem_1 : decode cX1_doRedeem 1 = .ok (.iload_n 1, 1) := by decide +kernel
theorem dX1_doRedeem_2 : decode cX1_doRedeem 2 = .ok (.iconst 0, 1) := by decide +kernel
theorem dX1_doRedeem_3 : decode cX1_doRedeem 3 = .ok (.invokevirtual 74, 3) := by decide +kernel
theorem dX1_doRedeem_6 : decode cX1_doRedeem 6 = .ok (.istore_n 2, 1) := by decide +kernel
theorem dX1_doRedeem_7 : decode cX1_doRedeem 7 = .ok (.aload_n 0, 1) := by decide +kernel
theorem dX1_doRedeem_8 : decode cX1_doRedeem 8 = .ok (.getfield 25, 3) := by decide +kernel
theorem dX1_doRedeem_11 : decode cX1_doRedeem 11 = .ok (.iload_n 1, 1) := by decide +kernel
theorem dX1_doRedeem_12 : decode cX1_doRedeem 12 = .ok (.iaload, 1) := by decide +kernel
theorem dX1_doRedeem_13 : decode cX1_doRedeem 13 = .ok (.istore_n 3, 1) := by decide +kernel
theorem dX1_doRedeem_14 : decode cX1_doRedeem 14 = .ok (.aload_n 0, 1) := by decide +kernel
theorem dX1_doRedeem_15 : decode cX1_doRedeem 15 = .ok (.getfield 37, 3) := by decide +kernel
theorem dX1_doRedeem_18 : decode cX1_doRedeem 18 = .ok (.iconst 0, 1) := by decide +kernel
theorem dX1_doRedeem_19 : decode cX1_doRedeem 19 = .ok (.iload_n 1, 1) := by decide +kernel
theorem dX1_doRedeem_20 : decode cX1_doRedeem 20 = .ok (.iload_n 3, 1) := by decide +kernel
theorem dX1_doRedeem_21 : decode cX1_doRedeem 21 = .ok (.aload_n 0, 1) := by decide +kernel
theorem dX1_doRedeem_22 : decode cX1_doRedeem 22 = .ok (.getfield 28, 3) := by decide +kernel
theorem dX1_doRedeem_25 : decode cX1_doRedeem 25 = .ok (.iload_n 1, 1) := by decide +kernel
theorem dX1_doRedeem_26 : decode cX1_doRedeem 26 = .ok (.iaload, 1) := by decide +kernel
theorem dX1_doRedeem_27 : decode cX1_doRedeem 27 = .ok (.aload_n 0, 1) := by decide +kernel
theorem dX1_doRedeem_28 : decode cX1_doRedeem 28 = .ok (.getfield 31, 3) := by decide +kernel
theorem dX1_doRedeem_31 : decode cX1_doRedeem 31 = .ok (.iload_n 1, 1) := by decide +kernel
theorem dX1_doRedeem_32 : decode cX1_doRedeem 32 = .ok (.iaload, 1) := by decide +kernel
theorem dX1_doRedeem_33 : decode cX1_doRedeem 33 = .ok (.invokevirtual 92, 3) := by decide +kernel
theorem dX1_doRedeem_36 : decode cX1_doRedeem 36 = .ok (.aload_n 0, 1) := by decide +kernel
theorem dX1_doRedeem_37 : decode cX1_doRedeem 37 = .ok (.iload_n 1, 1) := by decide +kernel
theorem dX1_doRedeem_38 : decode cX1_doRedeem 38 = .ok (.iload_n 3, 1) := by decide +kernel
theorem dX1_doRedeem_39 : decode cX1_doRedeem 39 = .ok (.iload_n 2, 1) := by decide +kernel
theorem dX1_doRedeem_40 : decode cX1_doRedeem 40 = .ok (.invokevirtual 96, 3) := by decide +kernel
theorem dX1_doRedeem_43 : decode cX1_doRedeem 43 = .ok (.aload_n 0, 1) := by decide +kernel
theorem dX1_doRedeem_44 : decode cX1_doRedeem 44 = .ok (.iload_n 1, 1) := by decide +kernel
theorem dX1_doRedeem_45 : decode cX1_doRedeem 45 = .ok (.invokevirtual 54, 3) := by decide +kernel
theorem dX1_doRedeem_48 : decode cX1_doRedeem 48 = .ok (.iload_n 2, 1) := by decide +kernel
theorem dX1_doRedeem_49 : decode cX1_doRedeem 49 = .ok (.ireturn, 1) := by decide +kernel
def p1_doRedeem (b : Nat) (a1 : Int32) (M : SX) : Option (Int32 × SX) :=
  bd (p1_dueOf b a1 0 M) (fun r3 M2 => gd (bIn a1 6) ( lt_ (M2.1 (b + 4) (Int32.toNatClampNeg a1)) (fun x5 => bv (p0_add (b + 7) 0 a1 x5 (M2.1 (b + 5) (Int32.toNatClampNeg a1)) (M2.1 (b + 6) (Int32.toNatClampNeg a1)) M2) (fun M7 => bv (p1_pay b a1 x5 r3 M7) (fun M9 => bv (p1_removeTicket b a1 M9) (fun M11 => some (r3, M11)))))))
set_option maxHeartbeats 4000000 in
set_option maxRecDepth 100000 in
theorem c1_doRedeem {l : Launch} {G : XG} {r : Int32} {M' : SX} {M : SX} (b : Nat) (qb : isL b) (a1 : Int32) (hf : p1_doRedeem b a1 M = some (r, M')) : Met l yX1_doRedeem (.code yX1_doRedeem cX1_doRedeem 4 (some .int) :: TBL) (rmX 3) (xPc G ZX M [.ref (G.2.1 b), .int a1]) (xQi G ZX r M') 0 0 (inA G ZX) := by
  refine x_met (cc := cX1_doRedeem) (by decide) (Nat.le_of_ble_eq_true rfl) ?_
  intro p e s m below meth c ls F hr hk hl hw
  have F : Fx G ZX p m c cX1_doRedeem 4 s [.ref (G.2.1 b), .int a1].toArray RX1 := F
  have hl : lv_has ls 4 [(0, .ref (G.2.1 b)), (1, .int a1)] := hl
  have hx := F.1.1
  have hb := F.1.2.1
  unfold p1_doRedeem at hf
  refine lv_aload_n hx hb dX1_doRedeem_0 rfl (lv_at hl 0 rfl) ?_
  refine lv_iload_n hx hb dX1_doRedeem_1 rfl (lv_at hl 1 rfl) ?_
  refine lv_iconst (v := 0) hx hb dX1_doRedeem_2 (by decide) ?_
  obtain ⟨r3, M2, hc1, hf⟩ := bd_some hf
  refine x_aftI hw (x_runV (rest := []) F hw hl.1 vw_RX1_74 (sL qb) rfl (c1_dueOf b qb a1 0 hc1) rfl rfl (Nat.le_of_ble_eq_true rfl) ⟨Nat.le_of_ble_eq_true rfl, Nat.le_of_ble_eq_true rfl⟩ dX1_doRedeem_3) (fun H locs hw => ?_)
  refine lv_istore_n (lv' := [(2, .int r3), (0, .ref (G.2.1 b)), (1, .int a1)]) hx hb dX1_doRedeem_6 rfl hl (by decide) rfl (fun ls hl => ?_)
  refine lv_aload_n hx hb dX1_doRedeem_7 rfl (lv_at hl 1 rfl) ?_
  refine g1_4 qb F hw tw_44 dX1_doRedeem_8 ?_
  refine lv_iload_n hx hb dX1_doRedeem_11 rfl (lv_at hl 2 rfl) ?_
  obtain ⟨g4, hf⟩ := gd_some hf
  refine x_iald F hw (sL4 qb) g4 dX1_doRedeem_12 ?_
  obtain ⟨x5, ex5, hf⟩ := lt_elim hf
  refine x_let ex5 ?_
  refine lv_istore_n (lv' := [(3, .int x5), (2, .int r3), (0, .ref (G.2.1 b)), (1, .int a1)]) hx hb dX1_doRedeem_13 rfl hl (by decide) rfl (fun ls hl => ?_)
  refine lv_aload_n hx hb dX1_doRedeem_14 rfl (lv_at hl 2 rfl) ?_
  refine g1_7 qb F hw tw_42 dX1_doRedeem_15 ?_
  refine lv_iconst (v := 0) hx hb dX1_doRedeem_18 (by decide) ?_
  refine lv_iload_n hx hb dX1_doRedeem_19 rfl (lv_at hl 3 rfl) ?_
  refine lv_iload_n hx hb dX1_doRedeem_20 rfl (lv_at hl 0 rfl) ?_
  refine lv_aload_n hx hb dX1_doRedeem_21 rfl (lv_at hl 2 rfl) ?_
  refine g1_5 qb F hw tw_45 dX1_doRedeem_22 ?_
  refine lv_iload_n hx hb dX1_doRedeem_25 rfl (lv_at hl 3 rfl) ?_
  refine x_iald F hw (sL5 qb) g4 dX1_doRedeem_26 ?_
  refine lv_aload_n hx hb dX1_doRedeem_27 rfl (lv_at hl 2 rfl) ?_
  refine g1_6 qb F hw tw_46 dX1_doRedeem_28 ?_
  refine lv_iload_n hx hb dX1_doRedeem_31 rfl (lv_at hl 3 rfl) ?_
  refine x_iald F hw (sL6 qb) g4 dX1_doRedeem_32 ?_
  obtain ⟨M7, hc6, hf⟩ := bv_some hf
  refine x_aftV hw (x_runV (rest := []) F hw hl.1 vw_RX1_92 (sD (isD_of qb)) rfl (c0_add (b + 7) (isD_of qb) 0 a1 x5 (M2.1 (b + 5) (Int32.toNatClampNeg a1)) (M2.1 (b + 6) (Int32.toNatClampNeg a1)) hc6) rfl rfl (Nat.le_of_ble_eq_true rfl) ⟨Nat.le_of_ble_eq_true rfl, Nat.le_of_ble_eq_true rfl⟩ dX1_doRedeem_33) (fun H locs hw => ?_)
  refine lv_aload_n hx hb dX1_doRedeem_36 rfl (lv_at hl 2 rfl) ?_
  refine lv_iload_n hx hb dX1_doRedeem_37 rfl (lv_at hl 3 rfl) ?_
  refine lv_iload_n hx hb dX1_doRedeem_38 rfl (lv_at hl 0 rfl) ?_
  refine lv_iload_n hx hb dX1_doRedeem_39 rfl (lv_at hl 1 rfl) ?_
  obtain ⟨M9, hc8, hf⟩ := bv_some hf
  refine x_aftV hw (x_runV (rest := []) F hw hl.1 vw_RX1_96 (sL qb) rfl (c1_pay b qb a1 x5 r3 hc8) rfl rfl (Nat.le_of_ble_eq_true rfl) ⟨Nat.le_of_ble_eq_true rfl, Nat.le_of_ble_eq_true rfl⟩ dX1_doRedeem_40) (fun H locs hw => ?_)
  refine lv_aload_n hx hb dX1_doRedeem_43 rfl (lv_at hl 2 rfl) ?_
  refine lv_iload_n hx hb dX1_doRedeem_44 rfl (lv_at hl 3 rfl) ?_
  obtain ⟨M11, hc10, hf⟩ := bv_some hf
  refine x_aftV hw (x_runV (rest := []) F hw hl.1 vw_RX1_54 (sL qb) rfl (c1_removeTicket b qb a1 hc10) rfl rfl (Nat.le_of_ble_eq_true rfl) ⟨Nat.le_of_ble_eq_true rfl, Nat.le_of_ble_eq_true rfl⟩ dX1_doRedeem_45) (fun H locs hw => ?_)
  refine lv_iload_n hx hb dX1_doRedeem_48 rfl (lv_at hl 1 rfl) ?_
  exact x_iret F hw hr hk hf dX1_doRedeem_49
theorem dX1_undoLast_0 : decode cX1_undoLast 0 = .ok (.aload_n 0, 1) := by decide +kernel
theorem dX1_undoLast_1 : decode cX1_undoLast 1 = .ok (.getfield 37, 3) := by decide +kernel
theorem dX1_undoLast_4 : decode cX1_undoLast 4 = .ok (.getfield 41, 3) := by decide +kernel
theorem dX1_undoLast_7 : decode cX1_undoLast 7 = .ok (.ifCond .ne 4, 3) := by decide +kernel
theorem dX1_undoLast_10 : decode cX1_undoLast 10 = .ok (.return_, 1) := by decide +kernel
theorem dX1_undoLast_11 : decode cX1_undoLast 11 = .ok (.aload_n 0, 1) := by decide +kernel
theorem dX1_undoLast_12 : decode cX1_undoLast 12 = .ok (.getfield 37, 3) := by decide +kernel
theorem dX1_undoLast_15 : decode cX1_undoLast 15 = .ok (.getfield 41, 3) := by decide +kernel
theorem dX1_undoLast_18 : decode cX1_undoLast 18 = .ok (.iconst 1, 1) := by decide +kernel
theorem dX1_undoLast_19 : decode cX1_undoLast 19 = .ok (.isub, 1) := by decide +kernel
theorem dX1_undoLast_20 : decode cX1_undoLast 20 = .ok (.istore_n 1, 1) := by decide +kernel
theorem dX1_undoLast_21 : decode cX1_undoLast 21 = .ok (.aload_n 0, 1) := by decide +kernel
theorem dX1_undoLast_22 : decode cX1_undoLast 22 = .ok (.getfield 37, 3) := by decide +kernel
theorem dX1_undoLast_25 : decode cX1_undoLast 25 = .ok (.iload_n 1, 1) := by decide +kernel
theorem dX1_undoLast_26 : decode cX1_undoLast 26 = .ok (.invokevirtual 124, 3) := by decide +kernel
theorem dX1_undoLast_29 : decode cX1_undoLast 29 = .ok (.istore_n 2, 1) := by decide +kernel
theorem dX1_undoLast_30 : decode cX1_undoLast 30 = .ok (.aload_n 0, 1) := by decide +kernel
theorem dX1_undoLast_31 : decode cX1_undoLast 31 = .ok (.getfield 37, 3) := by decide +kernel
theorem dX1_undoLast_34 : decode cX1_undoLast 34 = .ok (.iload_n 1, 1) := by decide +kernel
theorem dX1_undoLast_35 : decode cX1_undoLast 35 = .ok (.invokevirtual 127, 3) := by decide +kernel
theorem dX1_undoLast_38 : decode cX1_undoLast 38 = .ok (.istore_n 3, 1) := by decide +kernel
theorem dX1_undoLast_39 : decode cX1_undoLast 39 = .ok (.aload_n 0, 1) := by decide +kernel
theorem dX1_undoLast_40 : decode cX1_undoLast 40 = .ok (.getfield 37, 3) := by decide +kernel
theorem dX1_undoLast_43 : decode cX1_undoLast 43 = .ok (.iload_n 1, 1) := by decide +kernel
theorem dX1_undoLast_44 : decode cX1_undoLast 44 = .ok (.invokevirtual 130, 3) := by decide +kernel
theorem dX1_undoLast_47 : decode cX1_undoLast 47 = .ok (.istore 4, 2) := by decide +kernel
theorem dX1_undoLast_49 : decode cX1_undoLast 49 = .ok (.aload_n 0, 1) := by decide +kernel
theorem dX1_undoLast_50 : decode cX1_undoLast 50 = .ok (.getfield 37, 3) := by decide +kernel
theorem dX1_undoLast_53 : decode cX1_undoLast 53 = .ok (.iload_n 1, 1) := by decide +kernel
theorem dX1_undoLast_54 : decode cX1_undoLast 54 = .ok (.invokevirtual 133, 3) := by decide +kernel
theorem dX1_undoLast_57 : decode cX1_undoLast 57 = .ok (.tableswitch 82 0 2 #[27, 58, 74], 27) := by decide +kernel
theorem dX1_undoLast_84 : decode cX1_undoLast 84 = .ok (.aload_n 0, 1) := by decide +kernel
theorem dX1_undoLast_85 : decode cX1_undoLast 85 = .ok (.iload_n 2, 1) := by decide +kernel
theorem dX1_undoLast_86 : decode cX1_undoLast 86 = .ok (.iload_n 3, 1) := by decide +kernel
theorem dX1_undoLast_87 : decode cX1_undoLast 87 = .ok (.iload 4, 2) := by decide +kernel
theorem dX1_undoLast_89 : decode cX1_undoLast 89 = .ok (.aload_n 0, 1) := by decide +kernel
theorem dX1_undoLast_90 : decode cX1_undoLast 90 = .ok (.getfield 37, 3) := by decide +kernel
theorem dX1_undoLast_93 : decode cX1_undoLast 93 = .ok (.iload_n 1, 1) := by decide +kernel
theorem dX1_undoLast_94 : decode cX1_undoLast 94 = .ok (.invokevirtual 136, 3) := by decide +kernel
theorem dX1_undoLast_97 : decode cX1_undoLast 97 = .ok (.invokevirtual 58, 3) := by decide +kernel
theorem dX1_undoLast_100 : decode cX1_undoLast 100 = .ok (.aload_n 0, 1) := by decide +kernel
theorem dX1_undoLast_101 : decode cX1_undoLast 101 = .ok (.iload_n 3, 1) := by decide +kernel
theorem dX1_undoLast_102 : decode cX1_undoLast 102 = .ok (.iload_n 2, 1) := by decide +kernel
theorem dX1_undoLast_103 : decode cX1_undoLast 103 = .ok (.aload_n 0, 1) := by decide +kernel
theorem dX1_undoLast_104 : decode cX1_undoLast 104 = .ok (.iload_n 2, 1) := by decide +kernel
theorem dX1_undoLast_105 : decode cX1_undoLast 105 = .ok (.iconst 0, 1) := by decide +kernel
theorem dX1_undoLast_106 : decode cX1_undoLast 106 = .ok (.invokevirtual 74, 3) := by decide +kernel
theorem dX1_undoLast_109 : decode cX1_undoLast 109 = .ok (.invokevirtual 96, 3) := by decide +kernel
theorem dX1_undoLast_112 : decode cX1_undoLast 112 = .ok (.goto 38, 3) := by decide +kernel
theorem dX1_undoLast_115 : decode cX1_undoLast 115 = .ok (.aload_n 0, 1) := by decide +kernel
theorem dX1_undoLast_116 : decode cX1_undoLast 116 = .ok (.iload_n 2, 1) := by decide +kernel
theorem dX1_undoLast_117 : decode cX1_undoLast 117 = .ok (.invokevirtual 54, 3) := by decide +kernel
theorem dX1_undoLast_120 : decode cX1_undoLast 120 = .ok (.aload_n 0, 1) := by decide +kernel
theorem dX1_undoLast_121 : decode cX1_undoLast 121 = .ok (.iload_n 2, 1) := by decide +kernel
theorem dX1_undoLast_122 : decode cX1_undoLast 122 = .ok (.iload_n 3, 1) := by decide +kernel
theorem dX1_undoLast_123 : decode cX1_undoLast 123 = .ok (.iload 4, 2) := by decide +kernel
theorem dX1_undoLast_125 : decode cX1_undoLast 125 = .ok (.invokevirtual 96, 3) := by decide +kernel
theorem dX1_undoLast_128 : decode cX1_undoLast 128 = .ok (.goto 22, 3) := by decide +kernel
theorem dX1_undoLast_131 : decode cX1_undoLast 131 = .ok (.aload_n 0, 1) := by decide +kernel
theorem dX1_undoLast_132 : decode cX1_undoLast 132 = .ok (.iconst (-1), 1) := by decide +kernel
theorem dX1_undoLast_133 : decode cX1_undoLast 133 = .ok (.invokevirtual 100, 3) := by decide +kernel
theorem dX1_undoLast_136 : decode cX1_undoLast 136 = .ok (.goto 14, 3) := by decide +kernel
theorem dX1_undoLast_139 : decode cX1_undoLast 139 = .ok (.aload_n 0, 1) := by decide +kernel
theorem dX1_undoLast_140 : decode cX1_undoLast 140 = .ok (.getfield 19, 3) := by decide +kernel
theorem dX1_undoLast_143 : decode cX1_undoLast 143 = .ok (.iload_n 2, 1) := by decide +kernel
theorem dX1_undoLast_144 : decode cX1_undoLast 144 = .ok (.dup2, 1) := by decide +kernel
theorem dX1_undoLast_145 : decode cX1_undoLast 145 = .ok (.iaload, 1) := by decide +kernel
theorem dX1_undoLast_146 : decode cX1_undoLast 146 = .ok (.iload 4, 2) := by decide +kernel
theorem dX1_undoLast_148 : decode cX1_undoLast 148 = .ok (.isub, 1) := by decide +kernel
theorem dX1_undoLast_149 : decode cX1_undoLast 149 = .ok (.iastore, 1) := by decide +kernel
theorem dX1_undoLast_150 : decode cX1_undoLast 150 = .ok (.aload_n 0, 1) := by decide +kernel
theorem dX1_undoLast_151 : decode cX1_undoLast 151 = .ok (.getfield 37, 3) := by decide +kernel
theorem dX1_undoLast_154 : decode cX1_undoLast 154 = .ok (.invokevirtual 139, 3) := by decide +kernel
theorem dX1_undoLast_157 : decode cX1_undoLast 157 = .ok (.return_, 1) := by decide +kernel
def p1_undoLast_150 (b : Nat) (M : SX) : Option SX :=
  bv (p0_removeLast (b + 7) M) (fun M2 => some M2)
set_option maxHeartbeats 4000000 in
set_option maxRecDepth 100000 in
theorem w1_undoLast_150 {G : XG} {p : Program} {l : Launch} {e : Env} {s : State} {m : MethodId} {args : Array Value} {below : List Frame} {meth : Method} {c : Code} (F : Fx G ZX p m c cX1_undoLast 5 s args RX1) (hr : meth.sig.returnType = none) (hk : meth.locks = false) {M' : SX} (b : Nat) (qb : isL b) : ∀ (M : SX) (H : Heap) (locs : List Loc) (ls : Array Slot), Wld G ZX M s.heap H locs → lv_has ls 5 [(0, .ref (G.2.1 b))] → p1_undoLast_150 b M = some M' → WXv G ZX p l e 3 s m args below meth c M' H locs (F0 m 150 ls []) := by
  intro M H locs ls hw hl hf
  have hx := F.1.1
  have hb := F.1.2.1
  unfold p1_undoLast_150 at hf
  refine lv_aload_n hx hb dX1_undoLast_150 rfl (lv_at hl 0 rfl) ?_
  refine g1_7 qb F hw tw_42 dX1_undoLast_151 ?_
  obtain ⟨M2, hc1, hf⟩ := bv_some hf
  refine x_aftV hw (x_runV (rest := []) F hw hl.1 vw_RX1_139 (sD (isD_of qb)) rfl (c0_removeLast (b + 7) (isD_of qb) hc1) rfl rfl (Nat.le_of_ble_eq_true rfl) ⟨Nat.le_of_ble_eq_true rfl, Nat.le_of_ble_eq_true rfl⟩ dX1_undoLast_154) (fun H locs hw => ?_)
  exact x_vret F hw hr hk hf dX1_undoLast_157
def p1_undoLast (b : Nat) (M : SX) : Option SX :=
  if (M.1 (b + 7) 1) = 0 then (some M)
  else (lt_ ((M.1 (b + 7) 1) - 1) (fun x2 => bd (p0_shopOf (b + 7) x2 M) (fun r5 M4 => bd (p0_otherOf (b + 7) x2 M4) (fun r8 M7 => bd (p0_numberOf (b + 7) x2 M7) (fun r11 M10 => bd (p0_whatOf (b + 7) x2 M10) (fun r14 M13 => if r14 = 0 then (bd (p0_weeksOf (b + 7) x2 M13) (fun r18 M17 => bv (p1_setTicket b r5 r8 r11 r18 M17) (fun M20 => bd (p1_dueOf b r5 0 M20) (fun r23 M22 => bv (p1_pay b r8 r5 r23 M22) (fun M25 => p1_undoLast_150 b M25)))))
  else (if r14 = 1 then (bv (p1_removeTicket b r5 M13) (fun M28 => bv (p1_pay b r5 r8 r11 M28) (fun M30 => p1_undoLast_150 b M30)))
  else (if r14 = 2 then (bv (p1_ageTickets b (-1) M13) (fun M33 => p1_undoLast_150 b M33))
  else (gd (bIn r5 6) ( lt_ (wI M13 (b + 2) (Int32.toNatClampNeg r5) ((M13.1 (b + 2) (Int32.toNatClampNeg r5)) - r11)) (fun M35 => p1_undoLast_150 b M35)))))))))))
set_option maxHeartbeats 4000000 in
set_option maxRecDepth 100000 in
theorem c1_undoLast {l : Launch} {G : XG} {M' : SX} {M : SX} (b : Nat) (qb : isL b) (hf : p1_undoLast b M = some M') : Met l yX1_undoLast (.code yX1_undoLast cX1_undoLast 5 none :: TBL) (rmX 3) (xPc G ZX M [.ref (G.2.1 b)]) (xQv G ZX M') 0 0 (inA G ZX) := by
  refine x_met (cc := cX1_undoLast) (by decide) (Nat.le_of_ble_eq_true rfl) ?_
  intro p e s m below meth c ls F hr hk hl hw
  have F : Fx G ZX p m c cX1_undoLast 5 s [.ref (G.2.1 b)].toArray RX1 := F
  have hl : lv_has ls 5 [(0, .ref (G.2.1 b))] := hl
  have hx := F.1.1
  have hb := F.1.2.1
  unfold p1_undoLast at hf
  refine lv_aload_n hx hb dX1_undoLast_0 rfl (lv_at hl 0 rfl) ?_
  refine g1_7 qb F hw tw_42 dX1_undoLast_1 ?_
  refine g0_1 (isD_of qb) F hw tw_43 dX1_undoLast_4 ?_
  refine lv_if_ne (tgt := 11) hx hb dX1_undoLast_7 (by decide) (fun c1 => ?_) (fun c1 => ?_)
  · have hf := it_f hf c1
    refine lv_aload_n hx hb dX1_undoLast_11 rfl (lv_at hl 0 rfl) ?_
    refine g1_7 qb F hw tw_42 dX1_undoLast_12 ?_
    refine g0_1 (isD_of qb) F hw tw_43 dX1_undoLast_15 ?_
    refine lv_iconst (v := 1) hx hb dX1_undoLast_18 (by decide) ?_
    refine lv_isub hx hb dX1_undoLast_19 ?_
    obtain ⟨x2, ex2, hf⟩ := lt_elim hf
    refine x_let ex2 ?_
    refine lv_istore_n (lv' := [(1, .int x2), (0, .ref (G.2.1 b))]) hx hb dX1_undoLast_20 rfl hl (by decide) rfl (fun ls hl => ?_)
    refine lv_aload_n hx hb dX1_undoLast_21 rfl (lv_at hl 1 rfl) ?_
    refine g1_7 qb F hw tw_42 dX1_undoLast_22 ?_
    refine lv_iload_n hx hb dX1_undoLast_25 rfl (lv_at hl 0 rfl) ?_
    obtain ⟨r5, M4, hc3, hf⟩ := bd_some hf
    refine x_aftI hw (x_runV (rest := []) F hw hl.1 vw_RX1_124 (sD (isD_of qb)) rfl (c0_shopOf (b + 7) (isD_of qb) x2 hc3) rfl rfl (Nat.le_of_ble_eq_true rfl) ⟨Nat.le_of_ble_eq_true rfl, Nat.le_of_ble_eq_true rfl⟩ dX1_undoLast_26) (fun H locs hw => ?_)
    refine lv_istore_n (lv' := [(2, .int r5), (1, .int x2), (0, .ref (G.2.1 b))]) hx hb dX1_undoLast_29 rfl hl (by decide) rfl (fun ls hl => ?_)
    refine lv_aload_n hx hb dX1_undoLast_30 rfl (lv_at hl 2 rfl) ?_
    refine g1_7 qb F hw tw_42 dX1_undoLast_31 ?_
    refine lv_iload_n hx hb dX1_undoLast_34 rfl (lv_at hl 1 rfl) ?_
    obtain ⟨r8, M7, hc6, hf⟩ := bd_some hf
    refine x_aftI hw (x_runV (rest := []) F hw hl.1 vw_RX1_127 (sD (isD_of qb)) rfl (c0_otherOf (b + 7) (isD_of qb) x2 hc6) rfl rfl (Nat.le_of_ble_eq_true rfl) ⟨Nat.le_of_ble_eq_true rfl, Nat.le_of_ble_eq_true rfl⟩ dX1_undoLast_35) (fun H locs hw => ?_)
    refine lv_istore_n (lv' := [(3, .int r8), (2, .int r5), (1, .int x2), (0, .ref (G.2.1 b))]) hx hb dX1_undoLast_38 rfl hl (by decide) rfl (fun ls hl => ?_)
    refine lv_aload_n hx hb dX1_undoLast_39 rfl (lv_at hl 3 rfl) ?_
    refine g1_7 qb F hw tw_42 dX1_undoLast_40 ?_
    refine lv_iload_n hx hb dX1_undoLast_43 rfl (lv_at hl 2 rfl) ?_
    obtain ⟨r11, M10, hc9, hf⟩ := bd_some hf
    refine x_aftI hw (x_runV (rest := []) F hw hl.1 vw_RX1_130 (sD (isD_of qb)) rfl (c0_numberOf (b + 7) (isD_of qb) x2 hc9) rfl rfl (Nat.le_of_ble_eq_true rfl) ⟨Nat.le_of_ble_eq_true rfl, Nat.le_of_ble_eq_true rfl⟩ dX1_undoLast_44) (fun H locs hw => ?_)
    refine lv_istore (lv' := [(4, .int r11), (3, .int r8), (2, .int r5), (1, .int x2), (0, .ref (G.2.1 b))]) hx hb dX1_undoLast_47 hl (by decide) rfl (fun ls hl => ?_)
    refine lv_aload_n hx hb dX1_undoLast_49 rfl (lv_at hl 4 rfl) ?_
    refine g1_7 qb F hw tw_42 dX1_undoLast_50 ?_
    refine lv_iload_n hx hb dX1_undoLast_53 rfl (lv_at hl 3 rfl) ?_
    obtain ⟨r14, M13, hc12, hf⟩ := bd_some hf
    refine x_aftI hw (x_runV (rest := []) F hw hl.1 vw_RX1_133 (sD (isD_of qb)) rfl (c0_whatOf (b + 7) (isD_of qb) x2 hc12) rfl rfl (Nat.le_of_ble_eq_true rfl) ⟨Nat.le_of_ble_eq_true rfl, Nat.le_of_ble_eq_true rfl⟩ dX1_undoLast_54) (fun H locs hw => ?_)
    by_cases c15 : r14 = 0
    · have hf := it_t hf c15
      refine lv_tableIn (tgt := 84) hx hb dX1_undoLast_57 (by rw [c15]; decide) (by rw [c15]; decide) (by rw [c15]; rfl) (by decide) ?_
      refine lv_aload_n hx hb dX1_undoLast_84 rfl (lv_at hl 4 rfl) ?_
      refine lv_iload_n hx hb dX1_undoLast_85 rfl (lv_at hl 2 rfl) ?_
      refine lv_iload_n hx hb dX1_undoLast_86 rfl (lv_at hl 1 rfl) ?_
      refine lv_iload hx hb dX1_undoLast_87 (lv_at hl 0 rfl) ?_
      refine lv_aload_n hx hb dX1_undoLast_89 rfl (lv_at hl 4 rfl) ?_
      refine g1_7 qb F hw tw_42 dX1_undoLast_90 ?_
      refine lv_iload_n hx hb dX1_undoLast_93 rfl (lv_at hl 3 rfl) ?_
      obtain ⟨r18, M17, hc16, hf⟩ := bd_some hf
      refine x_aftI hw (x_runV (rest := [.int r11, .int r8, .int r5, .ref (G.2.1 b)]) F hw hl.1 vw_RX1_136 (sD (isD_of qb)) rfl (c0_weeksOf (b + 7) (isD_of qb) x2 hc16) rfl rfl (Nat.le_of_ble_eq_true rfl) ⟨Nat.le_of_ble_eq_true rfl, Nat.le_of_ble_eq_true rfl⟩ dX1_undoLast_94) (fun H locs hw => ?_)
      obtain ⟨M20, hc19, hf⟩ := bv_some hf
      refine x_aftV hw (x_runV (rest := []) F hw hl.1 vw_RX1_58 (sL qb) rfl (c1_setTicket b qb r5 r8 r11 r18 hc19) rfl rfl (Nat.le_of_ble_eq_true rfl) ⟨Nat.le_of_ble_eq_true rfl, Nat.le_of_ble_eq_true rfl⟩ dX1_undoLast_97) (fun H locs hw => ?_)
      refine lv_aload_n hx hb dX1_undoLast_100 rfl (lv_at hl 4 rfl) ?_
      refine lv_iload_n hx hb dX1_undoLast_101 rfl (lv_at hl 1 rfl) ?_
      refine lv_iload_n hx hb dX1_undoLast_102 rfl (lv_at hl 2 rfl) ?_
      refine lv_aload_n hx hb dX1_undoLast_103 rfl (lv_at hl 4 rfl) ?_
      refine lv_iload_n hx hb dX1_undoLast_104 rfl (lv_at hl 2 rfl) ?_
      refine lv_iconst (v := 0) hx hb dX1_undoLast_105 (by decide) ?_
      obtain ⟨r23, M22, hc21, hf⟩ := bd_some hf
      refine x_aftI hw (x_runV (rest := [.int r5, .int r8, .ref (G.2.1 b)]) F hw hl.1 vw_RX1_74 (sL qb) rfl (c1_dueOf b qb r5 0 hc21) rfl rfl (Nat.le_of_ble_eq_true rfl) ⟨Nat.le_of_ble_eq_true rfl, Nat.le_of_ble_eq_true rfl⟩ dX1_undoLast_106) (fun H locs hw => ?_)
      obtain ⟨M25, hc24, hf⟩ := bv_some hf
      refine x_aftV hw (x_runV (rest := []) F hw hl.1 vw_RX1_96 (sL qb) rfl (c1_pay b qb r8 r5 r23 hc24) rfl rfl (Nat.le_of_ble_eq_true rfl) ⟨Nat.le_of_ble_eq_true rfl, Nat.le_of_ble_eq_true rfl⟩ dX1_undoLast_109) (fun H locs hw => ?_)
      refine lv_goto (tgt := 150) hx hb dX1_undoLast_112 (by decide) ?_
      exact w1_undoLast_150 F hr hk b qb M25 _ _ ls hw (lv_sub hl [4] rfl) hf
    · have hf := it_f hf c15
      by_cases c26 : r14 = 1
      · have hf := it_t hf c26
        refine lv_tableIn (tgt := 115) hx hb dX1_undoLast_57 (by rw [c26]; decide) (by rw [c26]; decide) (by rw [c26]; rfl) (by decide) ?_
        refine lv_aload_n hx hb dX1_undoLast_115 rfl (lv_at hl 4 rfl) ?_
        refine lv_iload_n hx hb dX1_undoLast_116 rfl (lv_at hl 2 rfl) ?_
        obtain ⟨M28, hc27, hf⟩ := bv_some hf
        refine x_aftV hw (x_runV (rest := []) F hw hl.1 vw_RX1_54 (sL qb) rfl (c1_removeTicket b qb r5 hc27) rfl rfl (Nat.le_of_ble_eq_true rfl) ⟨Nat.le_of_ble_eq_true rfl, Nat.le_of_ble_eq_true rfl⟩ dX1_undoLast_117) (fun H locs hw => ?_)
        refine lv_aload_n hx hb dX1_undoLast_120 rfl (lv_at hl 4 rfl) ?_
        refine lv_iload_n hx hb dX1_undoLast_121 rfl (lv_at hl 2 rfl) ?_
        refine lv_iload_n hx hb dX1_undoLast_122 rfl (lv_at hl 1 rfl) ?_
        refine lv_iload hx hb dX1_undoLast_123 (lv_at hl 0 rfl) ?_
        obtain ⟨M30, hc29, hf⟩ := bv_some hf
        refine x_aftV hw (x_runV (rest := []) F hw hl.1 vw_RX1_96 (sL qb) rfl (c1_pay b qb r5 r8 r11 hc29) rfl rfl (Nat.le_of_ble_eq_true rfl) ⟨Nat.le_of_ble_eq_true rfl, Nat.le_of_ble_eq_true rfl⟩ dX1_undoLast_125) (fun H locs hw => ?_)
        refine lv_goto (tgt := 150) hx hb dX1_undoLast_128 (by decide) ?_
        exact w1_undoLast_150 F hr hk b qb M30 _ _ ls hw (lv_sub hl [4] rfl) hf
      · have hf := it_f hf c26
        by_cases c31 : r14 = 2
        · have hf := it_t hf c31
          refine lv_tableIn (tgt := 131) hx hb dX1_undoLast_57 (by rw [c31]; decide) (by rw [c31]; decide) (by rw [c31]; rfl) (by decide) ?_
          refine lv_aload_n hx hb dX1_undoLast_131 rfl (lv_at hl 4 rfl) ?_
          refine lv_iconst (v := (-1)) hx hb dX1_undoLast_132 (by decide) ?_
          obtain ⟨M33, hc32, hf⟩ := bv_some hf
          refine x_aftV hw (x_runV (rest := []) F hw hl.1 vw_RX1_100 (sL qb) rfl (c1_ageTickets b qb (-1) hc32) rfl rfl (Nat.le_of_ble_eq_true rfl) ⟨Nat.le_of_ble_eq_true rfl, Nat.le_of_ble_eq_true rfl⟩ dX1_undoLast_133) (fun H locs hw => ?_)
          refine lv_goto (tgt := 150) hx hb dX1_undoLast_136 (by decide) ?_
          exact w1_undoLast_150 F hr hk b qb M33 _ _ ls hw (lv_sub hl [4] rfl) hf
        · have hf := it_f hf c31
          have nc15 := x_ne (k := 0) (0) rfl c15
          have nc26 := x_ne (k := 1) (1) rfl c26
          have nc31 := x_ne (k := 2) (2) rfl c31
          refine lv_tableOut (tgt := 139) hx hb dX1_undoLast_57 (by omega) (by decide) ?_
          refine lv_aload_n hx hb dX1_undoLast_139 rfl (lv_at hl 4 rfl) ?_
          refine g1_2 qb F hw tw_47 dX1_undoLast_140 ?_
          refine lv_iload_n hx hb dX1_undoLast_143 rfl (lv_at hl 2 rfl) ?_
          refine lv_dup2_11 hx hb dX1_undoLast_144 rfl rfl ?_
          obtain ⟨g34, hf⟩ := gd_some hf
          refine x_iald F hw (sL2 qb) g34 dX1_undoLast_145 ?_
          refine lv_iload hx hb dX1_undoLast_146 (lv_at hl 0 rfl) ?_
          refine lv_isub hx hb dX1_undoLast_148 ?_
          refine x_iast F hw (sL2 qb) g34 dX1_undoLast_149 (fun H locs hw => ?_)
          obtain ⟨M35, eM35, hf⟩ := lt_elim hf
          rw [← eM35] at hw
          exact w1_undoLast_150 F hr hk b qb M35 _ _ ls hw (lv_sub hl [4] rfl) hf
  · have hf := it_t hf c1
    exact x_vret F hw hr hk hf dX1_undoLast_10
theorem dX1_shutBy_0 : decode cX1_shutBy 0 = .ok (.iconst 1, 1) := by decide +kernel
theorem dX1_shutBy_1 : decode cX1_shutBy 1 = .ok (.iload_n 1, 1) := by decide +kernel
theorem dX1_shutBy_2 : decode cX1_shutBy 2 = .ok (.ishl, 1) := by decide +kernel
theorem dX1_shutBy_3 : decode cX1_shutBy 3 = .ok (.istore_n 2, 1) := by decide +kernel
theorem dX1_shutBy_4 : decode cX1_shutBy 4 = .ok (.iconst 1, 1) := by decide +kernel
theorem dX1_shutBy_5 : decode cX1_shutBy 5 = .ok (.istore_n 3, 1) := by decide +kernel
theorem dX1_shutBy_6 : decode cX1_shutBy 6 = .ok (.iload_n 3, 1) := by decide +kernel
theorem dX1_shutBy_7 : decode cX1_shutBy 7 = .ok (.aload_n 0, 1) := by decide +kernel
theorem dX1_shutBy_8 : decode cX1_shutBy 8 = .ok (.getfield 9, 3) := by decide +kernel
theorem dX1_shutBy_11 : decode cX1_shutBy 11 = .ok (.if_icmp .ge 74, 3) := by decide +kernel
theorem dX1_shutBy_14 : decode cX1_shutBy 14 = .ok (.iconst 0, 1) := by decide +kernel
theorem dX1_shutBy_15 : decode cX1_shutBy 15 = .ok (.istore 4, 2) := by decide +kernel
theorem dX1_shutBy_17 : decode cX1_shutBy 17 = .ok (.iload 4, 2) := by decide +kernel
theorem dX1_shutBy_19 : decode cX1_shutBy 19 = .ok (.aload_n 0, 1) := by decide +kernel
theorem dX1_shutBy_20 : decode cX1_shutBy 20 = .ok (.getfield 9, 3) := by decide +kernel
theorem dX1_shutBy_23 : decode cX1_shutBy 23 = .ok (.if_icmp .ge 56, 3) := by decide +kernel
theorem dX1_shutBy_26 : decode cX1_shutBy 26 = .ok (.aload_n 0, 1) := by decide +kernel
theorem dX1_shutBy_27 : decode cX1_shutBy 27 = .ok (.iload 4, 2) := by decide +kernel
theorem dX1_shutBy_29 : decode cX1_shutBy 29 = .ok (.iload_n 2, 1) := by decide +kernel
theorem dX1_shutBy_30 : decode cX1_shutBy 30 = .ok (.invokevirtual 86, 3) := by decide +kernel
theorem dX1_shutBy_33 : decode cX1_shutBy 33 = .ok (.ifCond .eq 10, 3) := by decide +kernel
theorem dX1_shutBy_36 : decode cX1_shutBy 36 = .ok (.iload_n 2, 1) := by decide +kernel
theorem dX1_shutBy_37 : decode cX1_shutBy 37 = .ok (.iconst 1, 1) := by decide +kernel
theorem dX1_shutBy_38 : decode cX1_shutBy 38 = .ok (.iload 4, 2) := by decide +kernel
theorem dX1_shutBy_40 : decode cX1_shutBy 40 = .ok (.ishl, 1) := by decide +kernel
theorem dX1_shutBy_41 : decode cX1_shutBy 41 = .ok (.ior, 1) := by decide +kernel
theorem dX1_shutBy_42 : decode cX1_shutBy 42 = .ok (.istore_n 2, 1) := by decide +kernel
theorem dX1_shutBy_43 : decode cX1_shutBy 43 = .ok (.iload_n 2, 1) := by decide +kernel
theorem dX1_shutBy_44 : decode cX1_shutBy 44 = .ok (.iload 4, 2) := by decide +kernel
theorem dX1_shutBy_46 : decode cX1_shutBy 46 = .ok (.invokestatic 66, 3) := by decide +kernel
theorem dX1_shutBy_49 : decode cX1_shutBy 49 = .ok (.ifCond .eq 24, 3) := by decide +kernel
theorem dX1_shutBy_52 : decode cX1_shutBy 52 = .ok (.aload_n 0, 1) := by decide +kernel
theorem dX1_shutBy_53 : decode cX1_shutBy 53 = .ok (.iload 4, 2) := by decide +kernel
theorem dX1_shutBy_55 : decode cX1_shutBy 55 = .ok (.invokevirtual 89, 3) := by decide +kernel
theorem dX1_shutBy_58 : decode cX1_shutBy 58 = .ok (.ifCond .eq 15, 3) := by decide +kernel
theorem dX1_shutBy_61 : decode cX1_shutBy 61 = .ok (.iload_n 2, 1) := by decide +kernel
theorem dX1_shutBy_62 : decode cX1_shutBy 62 = .ok (.iconst 1, 1) := by decide +kernel
theorem dX1_shutBy_63 : decode cX1_shutBy 63 = .ok (.aload_n 0, 1) := by decide +kernel
theorem dX1_shutBy_64 : decode cX1_shutBy 64 = .ok (.getfield 25, 3) := by decide +kernel
theorem dX1_shutBy_67 : decode cX1_shutBy 67 = .ok (.iload 4, 2) := by decide +kernel
theorem dX1_shutBy_69 : decode cX1_shutBy 69 = .ok (.iaload, 1) := by decide +kernel
theorem dX1_shutBy_70 : decode cX1_shutBy 70 = .ok (.ishl, 1) := by decide +kernel
theorem dX1_shutBy_71 : decode cX1_shutBy 71 = .ok (.ior, 1) := by decide +kernel
theorem dX1_shutBy_72 : decode cX1_shutBy 72 = .ok (.istore_n 2, 1) := by decide +kernel
theorem dX1_shutBy_73 : decode cX1_shutBy 73 = .ok (.iinc 4 1, 3) := by decide +kernel
theorem dX1_shutBy_76 : decode cX1_shutBy 76 = .ok (.goto (-59), 3) := by decide +kernel
theorem dX1_shutBy_79 : decode cX1_shutBy 79 = .ok (.iinc 3 1, 3) := by decide +kernel
theorem dX1_shutBy_82 : decode cX1_shutBy 82 = .ok (.goto (-76), 3) := by decide +kernel
theorem dX1_shutBy_85 : decode cX1_shutBy 85 = .ok (.iload_n 2, 1) := by decide +kernel
theorem dX1_shutBy_86 : decode cX1_shutBy 86 = .ok (.ireturn, 1) := by decide +kernel
def p1_shutBy_73 (b : Nat) (k6 : Int32 → Int32 → SX → Option (Int32 × SX)) (k17 : Int32 → Int32 → Int32 → SX → Option (Int32 × SX)) (v2 : Int32) (v3 : Int32) (v4 : Int32) (M : SX) : Option (Int32 × SX) :=
  lt_ (v4 + 1) (fun x1 => k17 v2 v3 x1 M)
set_option maxHeartbeats 4000000 in
set_option maxRecDepth 100000 in
theorem w1_shutBy_73 {G : XG} {p : Program} {l : Launch} {e : Env} {s : State} {m : MethodId} {args : Array Value} {below : List Frame} {meth : Method} {c : Code} (F : Fx G ZX p m c cX1_shutBy 5 s args RX1) (hr : meth.sig.returnType = some .int) (hk : meth.locks = false) {r : Int32} {M' : SX} (b : Nat) (qb : isL b) (k6 : Int32 → Int32 → SX → Option (Int32 × SX)) (hk6 : ∀ (v2 : Int32) (v3 : Int32) (M : SX) (H : Heap) (locs : List Loc) (ls : Array Slot), Wld G ZX M s.heap H locs → lv_has ls 5 [(0, .ref (G.2.1 b)), (2, .int v2), (3, .int v3)] → k6 v2 v3 M = some (r, M') → WXi G ZX p l e 4 s m args below meth c r M' H locs (F0 m 6 ls [])) (k17 : Int32 → Int32 → Int32 → SX → Option (Int32 × SX)) (hk17 : ∀ (v2 : Int32) (v3 : Int32) (v4 : Int32) (M : SX) (H : Heap) (locs : List Loc) (ls : Array Slot), Wld G ZX M s.heap H locs → lv_has ls 5 [(0, .ref (G.2.1 b)), (2, .int v2), (3, .int v3), (4, .int v4)] → k17 v2 v3 v4 M = some (r, M') → WXi G ZX p l e 4 s m args below meth c r M' H locs (F0 m 17 ls [])) : ∀ (v2 : Int32) (v3 : Int32) (v4 : Int32) (M : SX) (H : Heap) (locs : List Loc) (ls : Array Slot), Wld G ZX M s.heap H locs → lv_has ls 5 [(0, .ref (G.2.1 b)), (2, .int v2), (3, .int v3), (4, .int v4)] → p1_shutBy_73 b k6 k17 v2 v3 v4 M = some (r, M') → WXi G ZX p l e 4 s m args below meth c r M' H locs (F0 m 73 ls []) := by
  intro v2 v3 v4 M H locs ls hw hl hf
  have hx := F.1.1
  have hb := F.1.2.1
  unfold p1_shutBy_73 at hf
  obtain ⟨x1, ex1, hf⟩ := lt_elim hf
  refine lv_iinc (v := x1) (lv' := [(4, .int x1), (0, .ref (G.2.1 b)), (2, .int v2), (3, .int v3)]) hx hb dX1_shutBy_73 hl (k := 3) rfl (by rw [ex1]; rfl) (by decide) rfl (fun ls hl => ?_)
  refine lv_goto (tgt := 17) hx hb dX1_shutBy_76 (by decide) ?_
  exact hk17 v2 v3 x1 M _ _ ls hw (lv_sub hl [1, 2, 3, 0] rfl) hf
def p1_shutBy_43 (b : Nat) (k6 : Int32 → Int32 → SX → Option (Int32 × SX)) (k17 : Int32 → Int32 → Int32 → SX → Option (Int32 × SX)) (v2 : Int32) (v3 : Int32) (v4 : Int32) (M : SX) : Option (Int32 × SX) :=
  bd (p5_isIn v2 v4 M) (fun r3 M2 => if r3 = 0 then (p1_shutBy_73 b k6 k17 v2 v3 v4 M2)
  else (bd (p1_ruinsHolder b v4 M2) (fun r7 M6 => if r7 = 0 then (p1_shutBy_73 b k6 k17 v2 v3 v4 M6)
  else (gd (bIn v4 6) ( lt_ (v2 ||| ((1 : Int32) <<< ((M6.1 (b + 4) (Int32.toNatClampNeg v4)) &&& 31))) (fun x10 => p1_shutBy_73 b k6 k17 x10 v3 v4 M6))))))
set_option maxHeartbeats 4000000 in
set_option maxRecDepth 100000 in
theorem w1_shutBy_43 {G : XG} {p : Program} {l : Launch} {e : Env} {s : State} {m : MethodId} {args : Array Value} {below : List Frame} {meth : Method} {c : Code} (F : Fx G ZX p m c cX1_shutBy 5 s args RX1) (hr : meth.sig.returnType = some .int) (hk : meth.locks = false) {r : Int32} {M' : SX} (b : Nat) (qb : isL b) (k6 : Int32 → Int32 → SX → Option (Int32 × SX)) (hk6 : ∀ (v2 : Int32) (v3 : Int32) (M : SX) (H : Heap) (locs : List Loc) (ls : Array Slot), Wld G ZX M s.heap H locs → lv_has ls 5 [(0, .ref (G.2.1 b)), (2, .int v2), (3, .int v3)] → k6 v2 v3 M = some (r, M') → WXi G ZX p l e 4 s m args below meth c r M' H locs (F0 m 6 ls [])) (k17 : Int32 → Int32 → Int32 → SX → Option (Int32 × SX)) (hk17 : ∀ (v2 : Int32) (v3 : Int32) (v4 : Int32) (M : SX) (H : Heap) (locs : List Loc) (ls : Array Slot), Wld G ZX M s.heap H locs → lv_has ls 5 [(0, .ref (G.2.1 b)), (2, .int v2), (3, .int v3), (4, .int v4)] → k17 v2 v3 v4 M = some (r, M') → WXi G ZX p l e 4 s m args below meth c r M' H locs (F0 m 17 ls [])) : ∀ (v2 : Int32) (v3 : Int32) (v4 : Int32) (M : SX) (H : Heap) (locs : List Loc) (ls : Array Slot), Wld G ZX M s.heap H locs → lv_has ls 5 [(0, .ref (G.2.1 b)), (2, .int v2), (3, .int v3), (4, .int v4)] → p1_shutBy_43 b k6 k17 v2 v3 v4 M = some (r, M') → WXi G ZX p l e 4 s m args below meth c r M' H locs (F0 m 43 ls []) := by
  intro v2 v3 v4 M H locs ls hw hl hf
  have hx := F.1.1
  have hb := F.1.2.1
  unfold p1_shutBy_43 at hf
  refine lv_iload_n hx hb dX1_shutBy_43 rfl (lv_at hl 1 rfl) ?_
  refine lv_iload hx hb dX1_shutBy_44 (lv_at hl 3 rfl) ?_
  obtain ⟨r3, M2, hc1, hf⟩ := bd_some hf
  refine x_aftI hw (x_runN (rest := []) F hw hl.1 nn_RX1_66 (c5_isIn v2 v4 hc1) rfl rfl (Nat.le_of_ble_eq_true rfl) ⟨Nat.le_of_ble_eq_true rfl, Nat.le_of_ble_eq_true rfl⟩ dX1_shutBy_46) (fun H locs hw => ?_)
  refine lv_if_eq (tgt := 73) hx hb dX1_shutBy_49 (by decide) (fun c4 => ?_) (fun c4 => ?_)
  · have hf := it_t hf c4
    exact w1_shutBy_73 F hr hk b qb k6 hk6 k17 hk17 v2 v3 v4 M2 _ _ ls hw (lv_sub hl [0, 1, 2, 3] rfl) hf
  · have hf := it_f hf c4
    refine lv_aload_n hx hb dX1_shutBy_52 rfl (lv_at hl 0 rfl) ?_
    refine lv_iload hx hb dX1_shutBy_53 (lv_at hl 3 rfl) ?_
    obtain ⟨r7, M6, hc5, hf⟩ := bd_some hf
    refine x_aftI hw (x_runV (rest := []) F hw hl.1 vw_RX1_89 (sL qb) rfl (c1_ruinsHolder b qb v4 hc5) rfl rfl (Nat.le_of_ble_eq_true rfl) ⟨Nat.le_of_ble_eq_true rfl, Nat.le_of_ble_eq_true rfl⟩ dX1_shutBy_55) (fun H locs hw => ?_)
    refine lv_if_eq (tgt := 73) hx hb dX1_shutBy_58 (by decide) (fun c8 => ?_) (fun c8 => ?_)
    · have hf := it_t hf c8
      exact w1_shutBy_73 F hr hk b qb k6 hk6 k17 hk17 v2 v3 v4 M6 _ _ ls hw (lv_sub hl [0, 1, 2, 3] rfl) hf
    · have hf := it_f hf c8
      refine lv_iload_n hx hb dX1_shutBy_61 rfl (lv_at hl 1 rfl) ?_
      refine lv_iconst (v := 1) hx hb dX1_shutBy_62 (by decide) ?_
      refine lv_aload_n hx hb dX1_shutBy_63 rfl (lv_at hl 0 rfl) ?_
      refine g1_4 qb F hw tw_44 dX1_shutBy_64 ?_
      refine lv_iload hx hb dX1_shutBy_67 (lv_at hl 3 rfl) ?_
      obtain ⟨g9, hf⟩ := gd_some hf
      refine x_iald F hw (sL4 qb) g9 dX1_shutBy_69 ?_
      refine lv_ishl hx hb dX1_shutBy_70 ?_
      refine lv_ior hx hb dX1_shutBy_71 ?_
      obtain ⟨x10, ex10, hf⟩ := lt_elim hf
      refine x_let ex10 ?_
      refine lv_istore_n (lv' := [(2, .int x10), (0, .ref (G.2.1 b)), (3, .int v3), (4, .int v4)]) hx hb dX1_shutBy_72 rfl hl (by decide) rfl (fun ls hl => ?_)
      exact w1_shutBy_73 F hr hk b qb k6 hk6 k17 hk17 x10 v3 v4 M6 _ _ ls hw (lv_sub hl [1, 0, 2, 3] rfl) hf
def p1_shutBy_17 (b : Nat) (k6 : Int32 → Int32 → SX → Option (Int32 × SX)) (k17 : Int32 → Int32 → Int32 → SX → Option (Int32 × SX)) (v2 : Int32) (v3 : Int32) (v4 : Int32) (M : SX) : Option (Int32 × SX) :=
  if (M.1 b 0) ≤ v4 then (lt_ (v3 + 1) (fun x2 => k6 v2 x2 M))
  else (bd (p1_isHeldIn b v4 v2 M) (fun r5 M4 => if r5 = 0 then (p1_shutBy_43 b k6 k17 v2 v3 v4 M4)
  else (lt_ (v2 ||| ((1 : Int32) <<< (v4 &&& 31))) (fun x7 => p1_shutBy_43 b k6 k17 x7 v3 v4 M4))))
set_option maxHeartbeats 4000000 in
set_option maxRecDepth 100000 in
theorem w1_shutBy_17 {G : XG} {p : Program} {l : Launch} {e : Env} {s : State} {m : MethodId} {args : Array Value} {below : List Frame} {meth : Method} {c : Code} (F : Fx G ZX p m c cX1_shutBy 5 s args RX1) (hr : meth.sig.returnType = some .int) (hk : meth.locks = false) {r : Int32} {M' : SX} (b : Nat) (qb : isL b) (k6 : Int32 → Int32 → SX → Option (Int32 × SX)) (hk6 : ∀ (v2 : Int32) (v3 : Int32) (M : SX) (H : Heap) (locs : List Loc) (ls : Array Slot), Wld G ZX M s.heap H locs → lv_has ls 5 [(0, .ref (G.2.1 b)), (2, .int v2), (3, .int v3)] → k6 v2 v3 M = some (r, M') → WXi G ZX p l e 4 s m args below meth c r M' H locs (F0 m 6 ls [])) (k17 : Int32 → Int32 → Int32 → SX → Option (Int32 × SX)) (hk17 : ∀ (v2 : Int32) (v3 : Int32) (v4 : Int32) (M : SX) (H : Heap) (locs : List Loc) (ls : Array Slot), Wld G ZX M s.heap H locs → lv_has ls 5 [(0, .ref (G.2.1 b)), (2, .int v2), (3, .int v3), (4, .int v4)] → k17 v2 v3 v4 M = some (r, M') → WXi G ZX p l e 4 s m args below meth c r M' H locs (F0 m 17 ls [])) : ∀ (v2 : Int32) (v3 : Int32) (v4 : Int32) (M : SX) (H : Heap) (locs : List Loc) (ls : Array Slot), Wld G ZX M s.heap H locs → lv_has ls 5 [(0, .ref (G.2.1 b)), (2, .int v2), (3, .int v3), (4, .int v4)] → p1_shutBy_17 b k6 k17 v2 v3 v4 M = some (r, M') → WXi G ZX p l e 4 s m args below meth c r M' H locs (F0 m 17 ls []) := by
  intro v2 v3 v4 M H locs ls hw hl hf
  have hx := F.1.1
  have hb := F.1.2.1
  unfold p1_shutBy_17 at hf
  refine lv_iload hx hb dX1_shutBy_17 (lv_at hl 3 rfl) ?_
  refine lv_aload_n hx hb dX1_shutBy_19 rfl (lv_at hl 0 rfl) ?_
  refine g1_0 qb F hw tw_41 dX1_shutBy_20 ?_
  refine lv_icmp_ge (tgt := 79) hx hb dX1_shutBy_23 (by decide) (fun c1 => ?_) (fun c1 => ?_)
  · have hf := it_t hf c1
    obtain ⟨x2, ex2, hf⟩ := lt_elim hf
    refine lv_iinc (v := x2) (lv' := [(3, .int x2), (0, .ref (G.2.1 b)), (2, .int v2), (4, .int v4)]) hx hb dX1_shutBy_79 hl (k := 2) rfl (by rw [ex2]; rfl) (by decide) rfl (fun ls hl => ?_)
    refine lv_goto (tgt := 6) hx hb dX1_shutBy_82 (by decide) ?_
    exact hk6 v2 x2 M _ _ ls hw (lv_sub hl [1, 2, 0] rfl) hf
  · have hf := it_f hf c1
    refine lv_aload_n hx hb dX1_shutBy_26 rfl (lv_at hl 0 rfl) ?_
    refine lv_iload hx hb dX1_shutBy_27 (lv_at hl 3 rfl) ?_
    refine lv_iload_n hx hb dX1_shutBy_29 rfl (lv_at hl 1 rfl) ?_
    obtain ⟨r5, M4, hc3, hf⟩ := bd_some hf
    refine x_aftI hw (x_runV (rest := []) F hw hl.1 vw_RX1_86 (sL qb) rfl (c1_isHeldIn b qb v4 v2 hc3) rfl rfl (Nat.le_of_ble_eq_true rfl) ⟨Nat.le_of_ble_eq_true rfl, Nat.le_of_ble_eq_true rfl⟩ dX1_shutBy_30) (fun H locs hw => ?_)
    refine lv_if_eq (tgt := 43) hx hb dX1_shutBy_33 (by decide) (fun c6 => ?_) (fun c6 => ?_)
    · have hf := it_t hf c6
      exact w1_shutBy_43 F hr hk b qb k6 hk6 k17 hk17 v2 v3 v4 M4 _ _ ls hw (lv_sub hl [0, 1, 2, 3] rfl) hf
    · have hf := it_f hf c6
      refine lv_iload_n hx hb dX1_shutBy_36 rfl (lv_at hl 1 rfl) ?_
      refine lv_iconst (v := 1) hx hb dX1_shutBy_37 (by decide) ?_
      refine lv_iload hx hb dX1_shutBy_38 (lv_at hl 3 rfl) ?_
      refine lv_ishl hx hb dX1_shutBy_40 ?_
      refine lv_ior hx hb dX1_shutBy_41 ?_
      obtain ⟨x7, ex7, hf⟩ := lt_elim hf
      refine x_let ex7 ?_
      refine lv_istore_n (lv' := [(2, .int x7), (0, .ref (G.2.1 b)), (3, .int v3), (4, .int v4)]) hx hb dX1_shutBy_42 rfl hl (by decide) rfl (fun ls hl => ?_)
      exact w1_shutBy_43 F hr hk b qb k6 hk6 k17 hk17 x7 v3 v4 M4 _ _ ls hw (lv_sub hl [1, 0, 2, 3] rfl) hf
theorem z1_shutBy_17 {G : XG} {p : Program} {l : Launch} {e : Env} {s : State} {m : MethodId} {args : Array Value} {below : List Frame} {meth : Method} {c : Code} (F : Fx G ZX p m c cX1_shutBy 5 s args RX1) (hr : meth.sig.returnType = some .int) (hk : meth.locks = false) {r : Int32} {M' : SX} (b : Nat) (qb : isL b) (k6 : Int32 → Int32 → SX → Option (Int32 × SX)) (hk6 : ∀ (v2 : Int32) (v3 : Int32) (M : SX) (H : Heap) (locs : List Loc) (ls : Array Slot), Wld G ZX M s.heap H locs → lv_has ls 5 [(0, .ref (G.2.1 b)), (2, .int v2), (3, .int v3)] → k6 v2 v3 M = some (r, M') → WXi G ZX p l e 4 s m args below meth c r M' H locs (F0 m 6 ls [])) : ∀ n : Nat, ∀ (v2 : Int32) (v3 : Int32) (v4 : Int32) (M : SX) (H : Heap) (locs : List Loc) (ls : Array Slot), Wld G ZX M s.heap H locs → lv_has ls 5 [(0, .ref (G.2.1 b)), (2, .int v2), (3, .int v3), (4, .int v4)] → xlp3 (p1_shutBy_17 b k6) n v2 v3 v4 M = some (r, M') → WXi G ZX p l e 4 s m args below meth c r M' H locs (F0 m 17 ls []) := by
  intro n
  induction n with
  | zero => intro _ _ _ _ _ _ _ _ _ hf; cases hf
  | succ n ih => exact w1_shutBy_17 F hr hk b qb k6 hk6 (xlp3 (p1_shutBy_17 b k6) n) ih
def p1_shutBy_6 (b : Nat) (k6 : Int32 → Int32 → SX → Option (Int32 × SX)) (v2 : Int32) (v3 : Int32) (M : SX) : Option (Int32 × SX) :=
  if (M.1 b 0) ≤ v3 then (some (v2, M))
  else (xlp3 (p1_shutBy_17 b k6) FU v2 v3 0 M)
set_option maxHeartbeats 4000000 in
set_option maxRecDepth 100000 in
theorem w1_shutBy_6 {G : XG} {p : Program} {l : Launch} {e : Env} {s : State} {m : MethodId} {args : Array Value} {below : List Frame} {meth : Method} {c : Code} (F : Fx G ZX p m c cX1_shutBy 5 s args RX1) (hr : meth.sig.returnType = some .int) (hk : meth.locks = false) {r : Int32} {M' : SX} (b : Nat) (qb : isL b) (k6 : Int32 → Int32 → SX → Option (Int32 × SX)) (hk6 : ∀ (v2 : Int32) (v3 : Int32) (M : SX) (H : Heap) (locs : List Loc) (ls : Array Slot), Wld G ZX M s.heap H locs → lv_has ls 5 [(0, .ref (G.2.1 b)), (2, .int v2), (3, .int v3)] → k6 v2 v3 M = some (r, M') → WXi G ZX p l e 4 s m args below meth c r M' H locs (F0 m 6 ls [])) : ∀ (v2 : Int32) (v3 : Int32) (M : SX) (H : Heap) (locs : List Loc) (ls : Array Slot), Wld G ZX M s.heap H locs → lv_has ls 5 [(0, .ref (G.2.1 b)), (2, .int v2), (3, .int v3)] → p1_shutBy_6 b k6 v2 v3 M = some (r, M') → WXi G ZX p l e 4 s m args below meth c r M' H locs (F0 m 6 ls []) := by
  intro v2 v3 M H locs ls hw hl hf
  have hx := F.1.1
  have hb := F.1.2.1
  unfold p1_shutBy_6 at hf
  refine lv_iload_n hx hb dX1_shutBy_6 rfl (lv_at hl 2 rfl) ?_
  refine lv_aload_n hx hb dX1_shutBy_7 rfl (lv_at hl 0 rfl) ?_
  refine g1_0 qb F hw tw_41 dX1_shutBy_8 ?_
  refine lv_icmp_ge (tgt := 85) hx hb dX1_shutBy_11 (by decide) (fun c1 => ?_) (fun c1 => ?_)
  · have hf := it_t hf c1
    refine lv_iload_n hx hb dX1_shutBy_85 rfl (lv_at hl 1 rfl) ?_
    exact x_iret F hw hr hk hf dX1_shutBy_86
  · have hf := it_f hf c1
    refine lv_iconst (v := 0) hx hb dX1_shutBy_14 (by decide) ?_
    refine lv_istore (lv' := [(4, .int 0), (0, .ref (G.2.1 b)), (2, .int v2), (3, .int v3)]) hx hb dX1_shutBy_15 hl (by decide) rfl (fun ls hl => ?_)
    exact z1_shutBy_17 F hr hk b qb k6 hk6 FU v2 v3 0 M _ _ ls hw (lv_sub hl [1, 2, 3, 0] rfl) hf
theorem z1_shutBy_6 {G : XG} {p : Program} {l : Launch} {e : Env} {s : State} {m : MethodId} {args : Array Value} {below : List Frame} {meth : Method} {c : Code} (F : Fx G ZX p m c cX1_shutBy 5 s args RX1) (hr : meth.sig.returnType = some .int) (hk : meth.locks = false) {r : Int32} {M' : SX} (b : Nat) (qb : isL b) : ∀ n : Nat, ∀ (v2 : Int32) (v3 : Int32) (M : SX) (H : Heap) (locs : List Loc) (ls : Array Slot), Wld G ZX M s.heap H locs → lv_has ls 5 [(0, .ref (G.2.1 b)), (2, .int v2), (3, .int v3)] → xlp2 (p1_shutBy_6 b) n v2 v3 M = some (r, M') → WXi G ZX p l e 4 s m args below meth c r M' H locs (F0 m 6 ls []) := by
  intro n
  induction n with
  | zero => intro _ _ _ _ _ _ _ _ hf; cases hf
  | succ n ih => exact w1_shutBy_6 F hr hk b qb (xlp2 (p1_shutBy_6 b) n) ih
def p1_shutBy (b : Nat) (a1 : Int32) (M : SX) : Option (Int32 × SX) :=
  lt_ ((1 : Int32) <<< (a1 &&& 31)) (fun x1 => xlp2 (p1_shutBy_6 b) FU x1 1 M)
set_option maxHeartbeats 4000000 in
set_option maxRecDepth 100000 in
theorem c1_shutBy {l : Launch} {G : XG} {r : Int32} {M' : SX} {M : SX} (b : Nat) (qb : isL b) (a1 : Int32) (hf : p1_shutBy b a1 M = some (r, M')) : Met l yX1_shutBy (.code yX1_shutBy cX1_shutBy 5 (some .int) :: TBL) (rmX 4) (xPc G ZX M [.ref (G.2.1 b), .int a1]) (xQi G ZX r M') 0 0 (inA G ZX) := by
  refine x_met (cc := cX1_shutBy) (by decide) (Nat.le_of_ble_eq_true rfl) ?_
  intro p e s m below meth c ls F hr hk hl hw
  have F : Fx G ZX p m c cX1_shutBy 5 s [.ref (G.2.1 b), .int a1].toArray RX1 := F
  have hl : lv_has ls 5 [(0, .ref (G.2.1 b)), (1, .int a1)] := hl
  have hx := F.1.1
  have hb := F.1.2.1
  unfold p1_shutBy at hf
  refine lv_iconst (v := 1) hx hb dX1_shutBy_0 (by decide) ?_
  refine lv_iload_n hx hb dX1_shutBy_1 rfl (lv_at hl 1 rfl) ?_
  refine lv_ishl hx hb dX1_shutBy_2 ?_
  obtain ⟨x1, ex1, hf⟩ := lt_elim hf
  refine x_let ex1 ?_
  refine lv_istore_n (lv' := [(2, .int x1), (0, .ref (G.2.1 b)), (1, .int a1)]) hx hb dX1_shutBy_3 rfl hl (by decide) rfl (fun ls hl => ?_)
  refine lv_iconst (v := 1) hx hb dX1_shutBy_4 (by decide) ?_
  refine lv_istore_n (lv' := [(3, .int 1), (2, .int x1), (0, .ref (G.2.1 b)), (1, .int a1)]) hx hb dX1_shutBy_5 rfl hl (by decide) rfl (fun ls hl => ?_)
  exact z1_shutBy_6 F hr hk b qb FU x1 1 M _ _ ls hw (lv_sub hl [2, 1, 0] rfl) hf
