theorem dX6_ways_0 : decode cX6_ways 0 = .ok (.aload_n 0, 1) := by decide +kernel
theorem dX6_ways_1 : decode cX6_ways 1 = .ok (.getfield 140, 3) := by decide +kernel
theorem dX6_ways_4 : decode cX6_ways 4 = .ok (.ifCond .ne 6, 3) := by decide +kernel
theorem dX6_ways_7 : decode cX6_ways 7 = .ok (.bipush (-4), 2) := by decide +kernel
theorem dX6_ways_9 : decode cX6_ways 9 = .ok (.ireturn, 1) := by decide +kernel
theorem dX6_ways_10 : decode cX6_ways 10 = .ok (.aload_n 0, 1) := by decide +kernel
theorem dX6_ways_11 : decode cX6_ways 11 = .ok (.iconst 0, 1) := by decide +kernel
theorem dX6_ways_12 : decode cX6_ways 12 = .ok (.iconst 0, 1) := by decide +kernel
theorem dX6_ways_13 : decode cX6_ways 13 = .ok (.invokevirtual 231, 3) := by decide +kernel
theorem dX6_ways_16 : decode cX6_ways 16 = .ok (.aload_n 0, 1) := by decide +kernel
theorem dX6_ways_17 : decode cX6_ways 17 = .ok (.invokevirtual 228, 3) := by decide +kernel
theorem dX6_ways_20 : decode cX6_ways 20 = .ok (.aload_n 0, 1) := by decide +kernel
theorem dX6_ways_21 : decode cX6_ways 21 = .ok (.aload_n 0, 1) := by decide +kernel
theorem dX6_ways_22 : decode cX6_ways 22 = .ok (.getfield 50, 3) := by decide +kernel
theorem dX6_ways_25 : decode cX6_ways 25 = .ok (.aload_n 0, 1) := by decide +kernel
theorem dX6_ways_26 : decode cX6_ways 26 = .ok (.getfield 219, 3) := by decide +kernel
theorem dX6_ways_29 : decode cX6_ways 29 = .ok (.laload, 1) := by decide +kernel
theorem dX6_ways_30 : decode cX6_ways 30 = .ok (.invokevirtual 240, 3) := by decide +kernel
theorem dX6_ways_33 : decode cX6_ways 33 = .ok (.ireturn, 1) := by decide +kernel
def p6_ways (M : SX) : Option (Int32 × SX) :=
  if (M.1 0 1) = 0 then (some ((-4), M))
  else (bv (p6_layTried 0 0 M) (fun M3 => bv (p6_layWays M3) (fun M5 => gd (bIn (M5.1 0 22) 64) ( bd (p6_tellMany (M5.2 13 (Int32.toNatClampNeg (M5.1 0 22))) M5) (fun r9 M8 => some (r9, M8))))))
set_option maxHeartbeats 4000000 in
set_option maxRecDepth 100000 in
theorem c6_ways {l : Launch} {G : XG} {r : Int32} {M' : SX} {M : SX} (hf : p6_ways M = some (r, M')) : Met l yX6_ways (.code yX6_ways cX6_ways 1 (some .int) :: TBL) (rmX 4) (xPc G ZY M [.ref (G.2.1 0)]) (xQi G ZY r M') 0 0 (inA G ZY) := by
  refine x_met (cc := cX6_ways) (by decide) (Nat.le_of_ble_eq_true rfl) ?_
  intro p e s m below meth c ls F hr hk hl hw
  have F : Fx G ZY p m c cX6_ways 1 s [.ref (G.2.1 0)].toArray RX6 := F
  have hl : lv_has ls 1 [(0, .ref (G.2.1 0))] := hl
  have hx := F.1.1
  have hb := F.1.2.1
  unfold p6_ways at hf
  refine lv_aload_n hx hb dX6_ways_0 rfl (lv_at hl 0 rfl) ?_
  refine g6_1 F hw tw_611 dX6_ways_1 ?_
  refine lv_if_ne (tgt := 10) hx hb dX6_ways_4 (by decide) (fun c1 => ?_) (fun c1 => ?_)
  · have hf := it_f hf c1
    refine lv_aload_n hx hb dX6_ways_10 rfl (lv_at hl 0 rfl) ?_
    refine lv_iconst (v := 0) hx hb dX6_ways_11 (by decide) ?_
    refine lv_iconst (v := 0) hx hb dX6_ways_12 (by decide) ?_
    obtain ⟨M3, hc2, hf⟩ := bv_some hf
    refine x_aftV hw (x_runV (rest := []) F hw hl.1 vw_RX6_231 (sM) rfl (c6_layTried 0 0 hc2) rfl rfl (Nat.le_of_ble_eq_true rfl) ⟨Nat.le_of_ble_eq_true rfl, Nat.le_of_ble_eq_true rfl⟩ dX6_ways_13) (fun H locs hw => ?_)
    refine lv_aload_n hx hb dX6_ways_16 rfl (lv_at hl 0 rfl) ?_
    obtain ⟨M5, hc4, hf⟩ := bv_some hf
    refine x_aftV hw (x_runV (rest := []) F hw hl.1 vw_RX6_228 (sM) rfl (c6_layWays hc4) rfl rfl (Nat.le_of_ble_eq_true rfl) ⟨Nat.le_of_ble_eq_true rfl, Nat.le_of_ble_eq_true rfl⟩ dX6_ways_17) (fun H locs hw => ?_)
    refine lv_aload_n hx hb dX6_ways_20 rfl (lv_at hl 0 rfl) ?_
    refine lv_aload_n hx hb dX6_ways_21 rfl (lv_at hl 0 rfl) ?_
    refine g6_23 F hw tw_811 dX6_ways_22 ?_
    refine lv_aload_n hx hb dX6_ways_25 rfl (lv_at hl 0 rfl) ?_
    refine g6_22 F hw tw_745 dX6_ways_26 ?_
    obtain ⟨g6, hf⟩ := gd_some hf
    refine x_lald F hw sM13 g6 dX6_ways_29 ?_
    obtain ⟨r9, M8, hc7, hf⟩ := bd_some hf
    refine x_aftI hw (x_runV (rest := []) F hw hl.1 vw_RX6_240 (sM) rfl (c6_tellMany (M5.2 13 (Int32.toNatClampNeg (M5.1 0 22))) hc7) rfl rfl (Nat.le_of_ble_eq_true rfl) ⟨Nat.le_of_ble_eq_true rfl, Nat.le_of_ble_eq_true rfl⟩ dX6_ways_30) (fun H locs hw => ?_)
    exact x_iret F hw hr hk hf dX6_ways_33
  · have hf := it_t hf c1
    refine lv_bipush (v := (-4)) hx hb dX6_ways_7 (by decide) ?_
    exact x_iret F hw hr hk hf dX6_ways_9
theorem dX6_most_0 : decode cX6_most 0 = .ok (.aload_n 0, 1) := by decide +kernel
theorem dX6_most_1 : decode cX6_most 1 = .ok (.getfield 140, 3) := by decide +kernel
theorem dX6_most_4 : decode cX6_most 4 = .ok (.ifCond .ne 6, 3) := by decide +kernel
theorem dX6_most_7 : decode cX6_most 7 = .ok (.bipush (-4), 2) := by decide +kernel
theorem dX6_most_9 : decode cX6_most 9 = .ok (.ireturn, 1) := by decide +kernel
theorem dX6_most_10 : decode cX6_most 10 = .ok (.aload_n 0, 1) := by decide +kernel
theorem dX6_most_11 : decode cX6_most 11 = .ok (.iconst 0, 1) := by decide +kernel
theorem dX6_most_12 : decode cX6_most 12 = .ok (.iconst 0, 1) := by decide +kernel
theorem dX6_most_13 : decode cX6_most 13 = .ok (.invokevirtual 231, 3) := by decide +kernel
theorem dX6_most_16 : decode cX6_most 16 = .ok (.aload_n 0, 1) := by decide +kernel
theorem dX6_most_17 : decode cX6_most 17 = .ok (.invokevirtual 228, 3) := by decide +kernel
theorem dX6_most_20 : decode cX6_most 20 = .ok (.aload_n 0, 1) := by decide +kernel
theorem dX6_most_21 : decode cX6_most 21 = .ok (.iconst 0, 1) := by decide +kernel
theorem dX6_most_22 : decode cX6_most 22 = .ok (.putfield 64, 3) := by decide +kernel
theorem dX6_most_25 : decode cX6_most 25 = .ok (.iconst 0, 1) := by decide +kernel
theorem dX6_most_26 : decode cX6_most 26 = .ok (.istore_n 1, 1) := by decide +kernel
theorem dX6_most_27 : decode cX6_most 27 = .ok (.iload_n 1, 1) := by decide +kernel
theorem dX6_most_28 : decode cX6_most 28 = .ok (.bipush 64, 2) := by decide +kernel
theorem dX6_most_30 : decode cX6_most 30 = .ok (.if_icmp .ge 46, 3) := by decide +kernel
theorem dX6_most_33 : decode cX6_most 33 = .ok (.aload_n 0, 1) := by decide +kernel
theorem dX6_most_34 : decode cX6_most 34 = .ok (.aload_n 0, 1) := by decide +kernel
theorem dX6_most_35 : decode cX6_most 35 = .ok (.getfield 50, 3) := by decide +kernel
theorem dX6_most_38 : decode cX6_most 38 = .ok (.iload_n 1, 1) := by decide +kernel
theorem dX6_most_39 : decode cX6_most 39 = .ok (.laload, 1) := by decide +kernel
theorem dX6_most_40 : decode cX6_most 40 = .ok (.lconst 0, 1) := by decide +kernel
theorem dX6_most_41 : decode cX6_most 41 = .ok (.lcmp, 1) := by decide +kernel
theorem dX6_most_42 : decode cX6_most 42 = .ok (.ifCond .le 21, 3) := by decide +kernel
theorem dX6_most_45 : decode cX6_most 45 = .ok (.iload_n 1, 1) := by decide +kernel
theorem dX6_most_46 : decode cX6_most 46 = .ok (.invokestatic 170, 3) := by decide +kernel
theorem dX6_most_49 : decode cX6_most 49 = .ok (.aload_n 0, 1) := by decide +kernel
theorem dX6_most_50 : decode cX6_most 50 = .ok (.getfield 64, 3) := by decide +kernel
theorem dX6_most_53 : decode cX6_most 53 = .ok (.invokestatic 170, 3) := by decide +kernel
theorem dX6_most_56 : decode cX6_most 56 = .ok (.if_icmp .le 7, 3) := by decide +kernel
theorem dX6_most_59 : decode cX6_most 59 = .ok (.iload_n 1, 1) := by decide +kernel
theorem dX6_most_60 : decode cX6_most 60 = .ok (.goto 7, 3) := by decide +kernel
theorem dX6_most_63 : decode cX6_most 63 = .ok (.aload_n 0, 1) := by decide +kernel
theorem dX6_most_64 : decode cX6_most 64 = .ok (.getfield 64, 3) := by decide +kernel
theorem dX6_most_67 : decode cX6_most 67 = .ok (.putfield 64, 3) := by decide +kernel
theorem dX6_most_70 : decode cX6_most 70 = .ok (.iinc 1 1, 3) := by decide +kernel
theorem dX6_most_73 : decode cX6_most 73 = .ok (.goto (-46), 3) := by decide +kernel
theorem dX6_most_76 : decode cX6_most 76 = .ok (.aload_n 0, 1) := by decide +kernel
theorem dX6_most_77 : decode cX6_most 77 = .ok (.getfield 64, 3) := by decide +kernel
theorem dX6_most_80 : decode cX6_most 80 = .ok (.invokestatic 170, 3) := by decide +kernel
theorem dX6_most_83 : decode cX6_most 83 = .ok (.ireturn, 1) := by decide +kernel
def p6_most_67 (k27 : Int32 → SX → Option (Int32 × SX)) (v1 : Int32) (t1 : Int32) (M : SX) : Option (Int32 × SX) :=
  lt_ (wI M 0 7 t1) (fun M1 => lt_ (v1 + 1) (fun x2 => k27 x2 M1))
set_option maxHeartbeats 4000000 in
set_option maxRecDepth 100000 in
theorem w6_most_67 {G : XG} {p : Program} {l : Launch} {e : Env} {s : State} {m : MethodId} {args : Array Value} {below : List Frame} {meth : Method} {c : Code} (F : Fx G ZY p m c cX6_most 2 s args RX6) (hr : meth.sig.returnType = some .int) (hk : meth.locks = false) {r : Int32} {M' : SX} (k27 : Int32 → SX → Option (Int32 × SX)) (hk27 : ∀ (v1 : Int32) (M : SX) (H : Heap) (locs : List Loc) (ls : Array Slot), Wld G ZY M s.heap H locs → lv_has ls 2 [(0, .ref (G.2.1 0)), (1, .int v1)] → k27 v1 M = some (r, M') → WXi G ZY p l e 4 s m args below meth c r M' H locs (F0 m 27 ls [])) : ∀ (v1 : Int32) (t1 : Int32) (M : SX) (H : Heap) (locs : List Loc) (ls : Array Slot), Wld G ZY M s.heap H locs → lv_has ls 2 [(0, .ref (G.2.1 0)), (1, .int v1)] → p6_most_67 k27 v1 t1 M = some (r, M') → WXi G ZY p l e 4 s m args below meth c r M' H locs (F0 m 67 ls [.int t1, .ref (G.2.1 0)]) := by
  intro v1 t1 M H locs ls hw hl hf
  have hx := F.1.1
  have hb := F.1.2.1
  unfold p6_most_67 at hf
  refine s6_7 F hw tw_604 dX6_most_67 (fun H locs hw => ?_)
  obtain ⟨M1, eM1, hf⟩ := lt_elim hf
  rw [← eM1] at hw
  obtain ⟨x2, ex2, hf⟩ := lt_elim hf
  refine lv_iinc (v := x2) (lv' := [(1, .int x2), (0, .ref (G.2.1 0))]) hx hb dX6_most_70 hl (k := 1) rfl (by rw [ex2]; rfl) (by decide) rfl (fun ls hl => ?_)
  refine lv_goto (tgt := 27) hx hb dX6_most_73 (by decide) ?_
  exact hk27 x2 M1 _ _ ls hw (lv_sub hl [1, 0] rfl) hf
def p6_most_63 (k27 : Int32 → SX → Option (Int32 × SX)) (v1 : Int32) (M : SX) : Option (Int32 × SX) :=
  p6_most_67 k27 v1 (M.1 0 7) M
set_option maxHeartbeats 4000000 in
set_option maxRecDepth 100000 in
theorem w6_most_63 {G : XG} {p : Program} {l : Launch} {e : Env} {s : State} {m : MethodId} {args : Array Value} {below : List Frame} {meth : Method} {c : Code} (F : Fx G ZY p m c cX6_most 2 s args RX6) (hr : meth.sig.returnType = some .int) (hk : meth.locks = false) {r : Int32} {M' : SX} (k27 : Int32 → SX → Option (Int32 × SX)) (hk27 : ∀ (v1 : Int32) (M : SX) (H : Heap) (locs : List Loc) (ls : Array Slot), Wld G ZY M s.heap H locs → lv_has ls 2 [(0, .ref (G.2.1 0)), (1, .int v1)] → k27 v1 M = some (r, M') → WXi G ZY p l e 4 s m args below meth c r M' H locs (F0 m 27 ls [])) : ∀ (v1 : Int32) (M : SX) (H : Heap) (locs : List Loc) (ls : Array Slot), Wld G ZY M s.heap H locs → lv_has ls 2 [(0, .ref (G.2.1 0)), (1, .int v1)] → p6_most_63 k27 v1 M = some (r, M') → WXi G ZY p l e 4 s m args below meth c r M' H locs (F0 m 63 ls [.ref (G.2.1 0)]) := by
  intro v1 M H locs ls hw hl hf
  have hx := F.1.1
  have hb := F.1.2.1
  unfold p6_most_63 at hf
  refine lv_aload_n hx hb dX6_most_63 rfl (lv_at hl 0 rfl) ?_
  refine g6_7 F hw tw_604 dX6_most_64 ?_
  exact w6_most_67 F hr hk k27 hk27 v1 (M.1 0 7) M _ _ ls hw (lv_sub hl [0, 1] rfl) hf
def p6_most_27 (k27 : Int32 → SX → Option (Int32 × SX)) (v1 : Int32) (M : SX) : Option (Int32 × SX) :=
  if (64 : Int32) ≤ v1 then (bd (p6_bits (M.1 0 7) M) (fun r4 M3 => some (r4, M3)))
  else (gd (bIn v1 64) ( if (M.2 13 (Int32.toNatClampNeg v1)) ≤ 0 then (p6_most_63 k27 v1 M)
  else (bd (p6_bits v1 M) (fun r9 M8 => bd (p6_bits (M8.1 0 7) M8) (fun r12 M11 => if r9 ≤ r12 then (p6_most_63 k27 v1 M11)
  else (p6_most_67 k27 v1 v1 M11))))))
set_option maxHeartbeats 4000000 in
set_option maxRecDepth 100000 in
theorem w6_most_27 {G : XG} {p : Program} {l : Launch} {e : Env} {s : State} {m : MethodId} {args : Array Value} {below : List Frame} {meth : Method} {c : Code} (F : Fx G ZY p m c cX6_most 2 s args RX6) (hr : meth.sig.returnType = some .int) (hk : meth.locks = false) {r : Int32} {M' : SX} (k27 : Int32 → SX → Option (Int32 × SX)) (hk27 : ∀ (v1 : Int32) (M : SX) (H : Heap) (locs : List Loc) (ls : Array Slot), Wld G ZY M s.heap H locs → lv_has ls 2 [(0, .ref (G.2.1 0)), (1, .int v1)] → k27 v1 M = some (r, M') → WXi G ZY p l e 4 s m args below meth c r M' H locs (F0 m 27 ls [])) : ∀ (v1 : Int32) (M : SX) (H : Heap) (locs : List Loc) (ls : Array Slot), Wld G ZY M s.heap H locs → lv_has ls 2 [(0, .ref (G.2.1 0)), (1, .int v1)] → p6_most_27 k27 v1 M = some (r, M') → WXi G ZY p l e 4 s m args below meth c r M' H locs (F0 m 27 ls []) := by
  intro v1 M H locs ls hw hl hf
  have hx := F.1.1
  have hb := F.1.2.1
  unfold p6_most_27 at hf
  refine lv_iload_n hx hb dX6_most_27 rfl (lv_at hl 1 rfl) ?_
  refine lv_bipush (v := 64) hx hb dX6_most_28 (by decide) ?_
  refine lv_icmp_ge (tgt := 76) hx hb dX6_most_30 (by decide) (fun c1 => ?_) (fun c1 => ?_)
  · have hf := it_t hf c1
    refine lv_aload_n hx hb dX6_most_76 rfl (lv_at hl 0 rfl) ?_
    refine g6_7 F hw tw_604 dX6_most_77 ?_
    obtain ⟨r4, M3, hc2, hf⟩ := bd_some hf
    refine x_aftI hw (x_runS (rest := []) F hw hl.1 sw_RX6_170 (c6_bits (M.1 0 7) hc2) rfl rfl (Nat.le_of_ble_eq_true rfl) ⟨Nat.le_of_ble_eq_true rfl, Nat.le_of_ble_eq_true rfl⟩ dX6_most_80) (fun H locs hw => ?_)
    exact x_iret F hw hr hk hf dX6_most_83
  · have hf := it_f hf c1
    refine lv_aload_n hx hb dX6_most_33 rfl (lv_at hl 0 rfl) ?_
    refine lv_aload_n hx hb dX6_most_34 rfl (lv_at hl 0 rfl) ?_
    refine g6_23 F hw tw_811 dX6_most_35 ?_
    refine lv_iload_n hx hb dX6_most_38 rfl (lv_at hl 1 rfl) ?_
    obtain ⟨g5, hf⟩ := gd_some hf
    refine x_lald F hw sM13 g5 dX6_most_39 ?_
    refine lv_lconst (v := 0) hx hb dX6_most_40 (by decide) ?_
    refine W.lcmp hx hb dX6_most_41 ?_
    refine lv_if_le (tgt := 63) hx hb dX6_most_42 (by decide) (fun c6 => ?_) (fun c6 => ?_)
    · have hf := it_t hf ((lc_le (M.2 13 (Int32.toNatClampNeg v1)) 0).mp c6)
      exact w6_most_63 F hr hk k27 hk27 v1 M _ _ ls hw (lv_sub hl [0, 1] rfl) hf
    · have hf := it_f hf (fun h9 => c6 ((lc_le (M.2 13 (Int32.toNatClampNeg v1)) 0).mpr h9))
      refine lv_iload_n hx hb dX6_most_45 rfl (lv_at hl 1 rfl) ?_
      obtain ⟨r9, M8, hc7, hf⟩ := bd_some hf
      refine x_aftI hw (x_runS (rest := [.ref (G.2.1 0)]) F hw hl.1 sw_RX6_170 (c6_bits v1 hc7) rfl rfl (Nat.le_of_ble_eq_true rfl) ⟨Nat.le_of_ble_eq_true rfl, Nat.le_of_ble_eq_true rfl⟩ dX6_most_46) (fun H locs hw => ?_)
      refine lv_aload_n hx hb dX6_most_49 rfl (lv_at hl 0 rfl) ?_
      refine g6_7 F hw tw_604 dX6_most_50 ?_
      obtain ⟨r12, M11, hc10, hf⟩ := bd_some hf
      refine x_aftI hw (x_runS (rest := [.int r9, .ref (G.2.1 0)]) F hw hl.1 sw_RX6_170 (c6_bits (M8.1 0 7) hc10) rfl rfl (Nat.le_of_ble_eq_true rfl) ⟨Nat.le_of_ble_eq_true rfl, Nat.le_of_ble_eq_true rfl⟩ dX6_most_53) (fun H locs hw => ?_)
      refine lv_icmp_le (tgt := 63) hx hb dX6_most_56 (by decide) (fun c13 => ?_) (fun c13 => ?_)
      · have hf := it_t hf c13
        exact w6_most_63 F hr hk k27 hk27 v1 M11 _ _ ls hw (lv_sub hl [0, 1] rfl) hf
      · have hf := it_f hf c13
        refine lv_iload_n hx hb dX6_most_59 rfl (lv_at hl 1 rfl) ?_
        refine lv_goto (tgt := 67) hx hb dX6_most_60 (by decide) ?_
        exact w6_most_67 F hr hk k27 hk27 v1 v1 M11 _ _ ls hw (lv_sub hl [0, 1] rfl) hf
theorem z6_most_27 {G : XG} {p : Program} {l : Launch} {e : Env} {s : State} {m : MethodId} {args : Array Value} {below : List Frame} {meth : Method} {c : Code} (F : Fx G ZY p m c cX6_most 2 s args RX6) (hr : meth.sig.returnType = some .int) (hk : meth.locks = false) {r : Int32} {M' : SX} : ∀ n : Nat, ∀ (v1 : Int32) (M : SX) (H : Heap) (locs : List Loc) (ls : Array Slot), Wld G ZY M s.heap H locs → lv_has ls 2 [(0, .ref (G.2.1 0)), (1, .int v1)] → xlp1 p6_most_27 n v1 M = some (r, M') → WXi G ZY p l e 4 s m args below meth c r M' H locs (F0 m 27 ls []) := by
  intro n
  induction n with
  | zero => intro _ _ _ _ _ _ _ hf; cases hf
  | succ n ih => exact w6_most_27 F hr hk (xlp1 p6_most_27 n) ih
def p6_most (M : SX) : Option (Int32 × SX) :=
  if (M.1 0 1) = 0 then (some ((-4), M))
  else (bv (p6_layTried 0 0 M) (fun M3 => bv (p6_layWays M3) (fun M5 => lt_ (wI M5 0 7 0) (fun M6 => xlp1 p6_most_27 FU 0 M6))))
set_option maxHeartbeats 4000000 in
set_option maxRecDepth 100000 in
theorem c6_most {l : Launch} {G : XG} {r : Int32} {M' : SX} {M : SX} (hf : p6_most M = some (r, M')) : Met l yX6_most (.code yX6_most cX6_most 2 (some .int) :: TBL) (rmX 4) (xPc G ZY M [.ref (G.2.1 0)]) (xQi G ZY r M') 0 0 (inA G ZY) := by
  refine x_met (cc := cX6_most) (by decide) (Nat.le_of_ble_eq_true rfl) ?_
  intro p e s m below meth c ls F hr hk hl hw
  have F : Fx G ZY p m c cX6_most 2 s [.ref (G.2.1 0)].toArray RX6 := F
  have hl : lv_has ls 2 [(0, .ref (G.2.1 0))] := hl
  have hx := F.1.1
  have hb := F.1.2.1
  unfold p6_most at hf
  refine lv_aload_n hx hb dX6_most_0 rfl (lv_at hl 0 rfl) ?_
  refine g6_1 F hw tw_611 dX6_most_1 ?_
  refine lv_if_ne (tgt := 10) hx hb dX6_most_4 (by decide) (fun c1 => ?_) (fun c1 => ?_)
  · have hf := it_f hf c1
    refine lv_aload_n hx hb dX6_most_10 rfl (lv_at hl 0 rfl) ?_
    refine lv_iconst (v := 0) hx hb dX6_most_11 (by decide) ?_
    refine lv_iconst (v := 0) hx hb dX6_most_12 (by decide) ?_
    obtain ⟨M3, hc2, hf⟩ := bv_some hf
    refine x_aftV hw (x_runV (rest := []) F hw hl.1 vw_RX6_231 (sM) rfl (c6_layTried 0 0 hc2) rfl rfl (Nat.le_of_ble_eq_true rfl) ⟨Nat.le_of_ble_eq_true rfl, Nat.le_of_ble_eq_true rfl⟩ dX6_most_13) (fun H locs hw => ?_)
    refine lv_aload_n hx hb dX6_most_16 rfl (lv_at hl 0 rfl) ?_
    obtain ⟨M5, hc4, hf⟩ := bv_some hf
    refine x_aftV hw (x_runV (rest := []) F hw hl.1 vw_RX6_228 (sM) rfl (c6_layWays hc4) rfl rfl (Nat.le_of_ble_eq_true rfl) ⟨Nat.le_of_ble_eq_true rfl, Nat.le_of_ble_eq_true rfl⟩ dX6_most_17) (fun H locs hw => ?_)
    refine lv_aload_n hx hb dX6_most_20 rfl (lv_at hl 0 rfl) ?_
    refine lv_iconst (v := 0) hx hb dX6_most_21 (by decide) ?_
    refine s6_7 F hw tw_604 dX6_most_22 (fun H locs hw => ?_)
    obtain ⟨M6, eM6, hf⟩ := lt_elim hf
    rw [← eM6] at hw
    refine lv_iconst (v := 0) hx hb dX6_most_25 (by decide) ?_
    refine lv_istore_n (lv' := [(1, .int 0), (0, .ref (G.2.1 0))]) hx hb dX6_most_26 rfl hl (by decide) rfl (fun ls hl => ?_)
    exact z6_most_27 F hr hk FU 0 M6 _ _ ls hw (lv_sub hl [1, 0] rfl) hf
  · have hf := it_t hf c1
    refine lv_bipush (v := (-4)) hx hb dX6_most_7 (by decide) ?_
    exact x_iret F hw hr hk hf dX6_most_9
theorem dX6_through_0 : decode cX6_through 0 = .ok (.iload_n 1, 1) := by decide +kernel
theorem dX6_through_1 : decode cX6_through 1 = .ok (.i2l, 1) := by decide +kernel
theorem dX6_through_2 : decode cX6_through 2 = .ok (.lconst 0, 1) := by decide +kernel
theorem dX6_through_3 : decode cX6_through 3 = .ok (.iconst 1, 1) := by decide +kernel
theorem dX6_through_4 : decode cX6_through 4 = .ok (.aload_n 0, 1) := by decide +kernel
theorem dX6_through_5 : decode cX6_through 5 = .ok (.getfield 140, 3) := by decide +kernel
theorem dX6_through_8 : decode cX6_through 8 = .ok (.ishl, 1) := by decide +kernel
theorem dX6_through_9 : decode cX6_through 9 = .ok (.iconst 1, 1) := by decide +kernel
theorem dX6_through_10 : decode cX6_through 10 = .ok (.isub, 1) := by decide +kernel
theorem dX6_through_11 : decode cX6_through 11 = .ok (.i2l, 1) := by decide +kernel
theorem dX6_through_12 : decode cX6_through 12 = .ok (.invokestatic 69, 3) := by decide +kernel
theorem dX6_through_15 : decode cX6_through 15 = .ok (.ifCond .eq 14, 3) := by decide +kernel
theorem dX6_through_18 : decode cX6_through 18 = .ok (.iload_n 1, 1) := by decide +kernel
theorem dX6_through_19 : decode cX6_through 19 = .ok (.aload_n 0, 1) := by decide +kernel
theorem dX6_through_20 : decode cX6_through 20 = .ok (.invokevirtual 191, 3) := by decide +kernel
theorem dX6_through_23 : decode cX6_through 23 = .ok (.iconst (-1), 1) := by decide +kernel
theorem dX6_through_24 : decode cX6_through 24 = .ok (.ixor, 1) := by decide +kernel
theorem dX6_through_25 : decode cX6_through 25 = .ok (.iand, 1) := by decide +kernel
theorem dX6_through_26 : decode cX6_through 26 = .ok (.ifCond .eq 5, 3) := by decide +kernel
theorem dX6_through_29 : decode cX6_through 29 = .ok (.iconst (-1), 1) := by decide +kernel
theorem dX6_through_30 : decode cX6_through 30 = .ok (.ireturn, 1) := by decide +kernel
theorem dX6_through_31 : decode cX6_through 31 = .ok (.aload_n 0, 1) := by decide +kernel
theorem dX6_through_32 : decode cX6_through 32 = .ok (.iconst 0, 1) := by decide +kernel
theorem dX6_through_33 : decode cX6_through 33 = .ok (.iconst 0, 1) := by decide +kernel
theorem dX6_through_34 : decode cX6_through 34 = .ok (.invokevirtual 231, 3) := by decide +kernel
theorem dX6_through_37 : decode cX6_through 37 = .ok (.aload_n 0, 1) := by decide +kernel
theorem dX6_through_38 : decode cX6_through 38 = .ok (.invokevirtual 228, 3) := by decide +kernel
theorem dX6_through_41 : decode cX6_through 41 = .ok (.aload_n 0, 1) := by decide +kernel
theorem dX6_through_42 : decode cX6_through 42 = .ok (.invokevirtual 234, 3) := by decide +kernel
theorem dX6_through_45 : decode cX6_through 45 = .ok (.aload_n 0, 1) := by decide +kernel
theorem dX6_through_46 : decode cX6_through 46 = .ok (.aload_n 0, 1) := by decide +kernel
theorem dX6_through_47 : decode cX6_through 47 = .ok (.getfield 50, 3) := by decide +kernel
theorem dX6_through_50 : decode cX6_through 50 = .ok (.iload_n 1, 1) := by decide +kernel
theorem dX6_through_51 : decode cX6_through 51 = .ok (.laload, 1) := by decide +kernel
theorem dX6_through_52 : decode cX6_through 52 = .ok (.aload_n 0, 1) := by decide +kernel
theorem dX6_through_53 : decode cX6_through 53 = .ok (.getfield 54, 3) := by decide +kernel
theorem dX6_through_56 : decode cX6_through 56 = .ok (.iload_n 1, 1) := by decide +kernel
theorem dX6_through_57 : decode cX6_through 57 = .ok (.laload, 1) := by decide +kernel
theorem dX6_through_58 : decode cX6_through 58 = .ok (.lmul, 1) := by decide +kernel
theorem dX6_through_59 : decode cX6_through 59 = .ok (.invokevirtual 240, 3) := by decide +kernel
theorem dX6_through_62 : decode cX6_through 62 = .ok (.ireturn, 1) := by decide +kernel
def p6_through (a1 : Int32) (M : SX) : Option (Int32 × SX) :=
  bd (p6_in (Int32.toInt64 a1) 0 (Int32.toInt64 (((1 : Int32) <<< ((M.1 0 1) &&& 31)) - 1)) M) (fun r3 M2 => if r3 = 0 then (some ((-1), M2))
  else (bd (p6_pawned M2) (fun r7 M6 => if (a1 &&& (r7 ^^^ (-1))) = 0 then (bv (p6_layTried 0 0 M6) (fun M10 => bv (p6_layWays M10) (fun M12 => bv (p6_layOn M12) (fun M14 => gd (bIn a1 64) ( bd (p6_tellMany ((M14.2 13 (Int32.toNatClampNeg a1)) * (M14.2 14 (Int32.toNatClampNeg a1))) M14) (fun r18 M17 => some (r18, M17)))))))
  else (some ((-1), M6)))))
set_option maxHeartbeats 4000000 in
set_option maxRecDepth 100000 in
theorem c6_through {l : Launch} {G : XG} {r : Int32} {M' : SX} {M : SX} (a1 : Int32) (hf : p6_through a1 M = some (r, M')) : Met l yX6_through (.code yX6_through cX6_through 2 (some .int) :: TBL) (rmX 4) (xPc G ZY M [.ref (G.2.1 0), .int a1]) (xQi G ZY r M') 0 0 (inA G ZY) := by
  refine x_met (cc := cX6_through) (by decide) (Nat.le_of_ble_eq_true rfl) ?_
  intro p e s m below meth c ls F hr hk hl hw
  have F : Fx G ZY p m c cX6_through 2 s [.ref (G.2.1 0), .int a1].toArray RX6 := F
  have hl : lv_has ls 2 [(0, .ref (G.2.1 0)), (1, .int a1)] := hl
  have hx := F.1.1
  have hb := F.1.2.1
  unfold p6_through at hf
  refine lv_iload_n hx hb dX6_through_0 rfl (lv_at hl 1 rfl) ?_
  refine lv_i2l (v := Int32.toInt64 a1) hx hb dX6_through_1 rfl ?_
  refine lv_lconst (v := 0) hx hb dX6_through_2 (by decide) ?_
  refine lv_iconst (v := 1) hx hb dX6_through_3 (by decide) ?_
  refine lv_aload_n hx hb dX6_through_4 rfl (lv_at hl 0 rfl) ?_
  refine g6_1 F hw tw_611 dX6_through_5 ?_
  refine lv_ishl hx hb dX6_through_8 ?_
  refine lv_iconst (v := 1) hx hb dX6_through_9 (by decide) ?_
  refine lv_isub hx hb dX6_through_10 ?_
  refine lv_i2l (v := Int32.toInt64 (((1 : Int32) <<< ((M.1 0 1) &&& 31)) - 1)) hx hb dX6_through_11 rfl ?_
  obtain ⟨r3, M2, hc1, hf⟩ := bd_some hf
  refine x_aftI hw (x_runS (rest := []) F hw hl.1 sw_RX6_69 (c6_in (Int32.toInt64 a1) 0 (Int32.toInt64 (((1 : Int32) <<< ((M.1 0 1) &&& 31)) - 1)) hc1) rfl rfl (Nat.le_of_ble_eq_true rfl) ⟨Nat.le_of_ble_eq_true rfl, Nat.le_of_ble_eq_true rfl⟩ dX6_through_12) (fun H locs hw => ?_)
  refine lv_if_eq (tgt := 29) hx hb dX6_through_15 (by decide) (fun c4 => ?_) (fun c4 => ?_)
  · have hf := it_t hf c4
    refine lv_iconst (v := (-1)) hx hb dX6_through_29 (by decide) ?_
    exact x_iret F hw hr hk hf dX6_through_30
  · have hf := it_f hf c4
    refine lv_iload_n hx hb dX6_through_18 rfl (lv_at hl 1 rfl) ?_
    refine lv_aload_n hx hb dX6_through_19 rfl (lv_at hl 0 rfl) ?_
    obtain ⟨r7, M6, hc5, hf⟩ := bd_some hf
    refine x_aftI hw (x_runV (rest := [.int a1]) F hw hl.1 vw_RX6_191 (sM) rfl (c6_pawned hc5) rfl rfl (Nat.le_of_ble_eq_true rfl) ⟨Nat.le_of_ble_eq_true rfl, Nat.le_of_ble_eq_true rfl⟩ dX6_through_20) (fun H locs hw => ?_)
    refine lv_iconst (v := (-1)) hx hb dX6_through_23 (by decide) ?_
    refine lv_ixor hx hb dX6_through_24 ?_
    refine lv_iand hx hb dX6_through_25 ?_
    refine lv_if_eq (tgt := 31) hx hb dX6_through_26 (by decide) (fun c8 => ?_) (fun c8 => ?_)
    · have hf := it_t hf c8
      refine lv_aload_n hx hb dX6_through_31 rfl (lv_at hl 0 rfl) ?_
      refine lv_iconst (v := 0) hx hb dX6_through_32 (by decide) ?_
      refine lv_iconst (v := 0) hx hb dX6_through_33 (by decide) ?_
      obtain ⟨M10, hc9, hf⟩ := bv_some hf
      refine x_aftV hw (x_runV (rest := []) F hw hl.1 vw_RX6_231 (sM) rfl (c6_layTried 0 0 hc9) rfl rfl (Nat.le_of_ble_eq_true rfl) ⟨Nat.le_of_ble_eq_true rfl, Nat.le_of_ble_eq_true rfl⟩ dX6_through_34) (fun H locs hw => ?_)
      refine lv_aload_n hx hb dX6_through_37 rfl (lv_at hl 0 rfl) ?_
      obtain ⟨M12, hc11, hf⟩ := bv_some hf
      refine x_aftV hw (x_runV (rest := []) F hw hl.1 vw_RX6_228 (sM) rfl (c6_layWays hc11) rfl rfl (Nat.le_of_ble_eq_true rfl) ⟨Nat.le_of_ble_eq_true rfl, Nat.le_of_ble_eq_true rfl⟩ dX6_through_38) (fun H locs hw => ?_)
      refine lv_aload_n hx hb dX6_through_41 rfl (lv_at hl 0 rfl) ?_
      obtain ⟨M14, hc13, hf⟩ := bv_some hf
      refine x_aftV hw (x_runV (rest := []) F hw hl.1 vw_RX6_234 (sM) rfl (c6_layOn hc13) rfl rfl (Nat.le_of_ble_eq_true rfl) ⟨Nat.le_of_ble_eq_true rfl, Nat.le_of_ble_eq_true rfl⟩ dX6_through_42) (fun H locs hw => ?_)
      refine lv_aload_n hx hb dX6_through_45 rfl (lv_at hl 0 rfl) ?_
      refine lv_aload_n hx hb dX6_through_46 rfl (lv_at hl 0 rfl) ?_
      refine g6_23 F hw tw_811 dX6_through_47 ?_
      refine lv_iload_n hx hb dX6_through_50 rfl (lv_at hl 1 rfl) ?_
      obtain ⟨g15, hf⟩ := gd_some hf
      refine x_lald F hw sM13 g15 dX6_through_51 ?_
      refine lv_aload_n hx hb dX6_through_52 rfl (lv_at hl 0 rfl) ?_
      refine g6_24 F hw tw_817 dX6_through_53 ?_
      refine lv_iload_n hx hb dX6_through_56 rfl (lv_at hl 1 rfl) ?_
      refine x_lald F hw sM14 g15 dX6_through_57 ?_
      refine lv_lmul hx hb dX6_through_58 ?_
      obtain ⟨r18, M17, hc16, hf⟩ := bd_some hf
      refine x_aftI hw (x_runV (rest := []) F hw hl.1 vw_RX6_240 (sM) rfl (c6_tellMany ((M14.2 13 (Int32.toNatClampNeg a1)) * (M14.2 14 (Int32.toNatClampNeg a1))) hc16) rfl rfl (Nat.le_of_ble_eq_true rfl) ⟨Nat.le_of_ble_eq_true rfl, Nat.le_of_ble_eq_true rfl⟩ dX6_through_59) (fun H locs hw => ?_)
      exact x_iret F hw hr hk hf dX6_through_62
    · have hf := it_f hf c8
      refine lv_iconst (v := (-1)) hx hb dX6_through_29 (by decide) ?_
      exact x_iret F hw hr hk hf dX6_through_30
theorem dX6_lots_0 : decode cX6_lots 0 = .ok (.iload_n 1, 1) := by decide +kernel
theorem dX6_lots_1 : decode cX6_lots 1 = .ok (.i2l, 1) := by decide +kernel
theorem dX6_lots_2 : decode cX6_lots 2 = .ok (.lconst 1, 1) := by decide +kernel
theorem dX6_lots_3 : decode cX6_lots 3 = .ok (.ldc2_w 260, 3) := by decide +kernel
theorem dX6_lots_6 : decode cX6_lots 6 = .ok (.invokestatic 69, 3) := by decide +kernel
theorem dX6_lots_9 : decode cX6_lots 9 = .ok (.ifCond .eq 15, 3) := by decide +kernel
theorem dX6_lots_12 : decode cX6_lots 12 = .ok (.iload_n 2, 1) := by decide +kernel
theorem dX6_lots_13 : decode cX6_lots 13 = .ok (.i2l, 1) := by decide +kernel
theorem dX6_lots_14 : decode cX6_lots 14 = .ok (.lconst 1, 1) := by decide +kernel
theorem dX6_lots_15 : decode cX6_lots 15 = .ok (.ldc2_w 262, 3) := by decide +kernel
theorem dX6_lots_18 : decode cX6_lots 18 = .ok (.invokestatic 69, 3) := by decide +kernel
theorem dX6_lots_21 : decode cX6_lots 21 = .ok (.ifCond .ne 5, 3) := by decide +kernel
theorem dX6_lots_24 : decode cX6_lots 24 = .ok (.iconst (-1), 1) := by decide +kernel
theorem dX6_lots_25 : decode cX6_lots 25 = .ok (.ireturn, 1) := by decide +kernel
theorem dX6_lots_26 : decode cX6_lots 26 = .ok (.aload_n 0, 1) := by decide +kernel
theorem dX6_lots_27 : decode cX6_lots 27 = .ok (.getfield 140, 3) := by decide +kernel
theorem dX6_lots_30 : decode cX6_lots 30 = .ok (.ifCond .ne 6, 3) := by decide +kernel
theorem dX6_lots_33 : decode cX6_lots 33 = .ok (.bipush (-4), 2) := by decide +kernel
theorem dX6_lots_35 : decode cX6_lots 35 = .ok (.ireturn, 1) := by decide +kernel
theorem dX6_lots_36 : decode cX6_lots 36 = .ok (.aload_n 0, 1) := by decide +kernel
theorem dX6_lots_37 : decode cX6_lots 37 = .ok (.getfield 7, 3) := by decide +kernel
theorem dX6_lots_40 : decode cX6_lots 40 = .ok (.iconst 0, 1) := by decide +kernel
theorem dX6_lots_41 : decode cX6_lots 41 = .ok (.iaload, 1) := by decide +kernel
theorem dX6_lots_42 : decode cX6_lots 42 = .ok (.iload_n 1, 1) := by decide +kernel
theorem dX6_lots_43 : decode cX6_lots 43 = .ok (.iadd, 1) := by decide +kernel
theorem dX6_lots_44 : decode cX6_lots 44 = .ok (.bipush 40, 2) := by decide +kernel
theorem dX6_lots_46 : decode cX6_lots 46 = .ok (.if_icmp .le 6, 3) := by decide +kernel
theorem dX6_lots_49 : decode cX6_lots 49 = .ok (.bipush (-2), 2) := by decide +kernel
theorem dX6_lots_51 : decode cX6_lots 51 = .ok (.ireturn, 1) := by decide +kernel
theorem dX6_lots_52 : decode cX6_lots 52 = .ok (.iload_n 2, 1) := by decide +kernel
theorem dX6_lots_53 : decode cX6_lots 53 = .ok (.i2l, 1) := by decide +kernel
theorem dX6_lots_54 : decode cX6_lots 54 = .ok (.lstore_n 3, 1) := by decide +kernel
theorem dX6_lots_55 : decode cX6_lots 55 = .ok (.iconst 0, 1) := by decide +kernel
theorem dX6_lots_56 : decode cX6_lots 56 = .ok (.istore 5, 2) := by decide +kernel
theorem dX6_lots_58 : decode cX6_lots 58 = .ok (.iload 5, 2) := by decide +kernel
theorem dX6_lots_60 : decode cX6_lots 60 = .ok (.iload_n 1, 1) := by decide +kernel
theorem dX6_lots_61 : decode cX6_lots 61 = .ok (.if_icmp .ge 24, 3) := by decide +kernel
theorem dX6_lots_64 : decode cX6_lots 64 = .ok (.lload_n 3, 1) := by decide +kernel
theorem dX6_lots_65 : decode cX6_lots 65 = .ok (.ldc2_w 264, 3) := by decide +kernel
theorem dX6_lots_68 : decode cX6_lots 68 = .ok (.lmul, 1) := by decide +kernel
theorem dX6_lots_69 : decode cX6_lots 69 = .ok (.ldc2_w 266, 3) := by decide +kernel
theorem dX6_lots_72 : decode cX6_lots 72 = .ok (.lrem, 1) := by decide +kernel
theorem dX6_lots_73 : decode cX6_lots 73 = .ok (.lstore_n 3, 1) := by decide +kernel
theorem dX6_lots_74 : decode cX6_lots 74 = .ok (.aload_n 0, 1) := by decide +kernel
theorem dX6_lots_75 : decode cX6_lots 75 = .ok (.lload_n 3, 1) := by decide +kernel
theorem dX6_lots_76 : decode cX6_lots 76 = .ok (.invokevirtual 268, 3) := by decide +kernel
theorem dX6_lots_79 : decode cX6_lots 79 = .ok (.iinc 5 1, 3) := by decide +kernel
theorem dX6_lots_82 : decode cX6_lots 82 = .ok (.goto (-24), 3) := by decide +kernel
theorem dX6_lots_85 : decode cX6_lots 85 = .ok (.aload_n 0, 1) := by decide +kernel
theorem dX6_lots_86 : decode cX6_lots 86 = .ok (.invokevirtual 191, 3) := by decide +kernel
theorem dX6_lots_89 : decode cX6_lots 89 = .ok (.invokestatic 170, 3) := by decide +kernel
theorem dX6_lots_92 : decode cX6_lots 92 = .ok (.ireturn, 1) := by decide +kernel
def p6_lots_58 (k58 : Int32 → Int64 → Int32 → SX → Option (Int32 × SX)) (v1 : Int32) (v3 : Int64) (v5 : Int32) (M : SX) : Option (Int32 × SX) :=
  if v1 ≤ v5 then (bd (p6_pawned M) (fun r4 M3 => bd (p6_bits r4 M3) (fun r7 M6 => some (r7, M6))))
  else (lt_ ((v3 * 48271) - (v3 * 48271) / 2147483647 * 2147483647) (fun x8 => bv (p6_doLot x8 M) (fun M10 => lt_ (v5 + 1) (fun x11 => k58 v1 x8 x11 M10))))
set_option maxHeartbeats 4000000 in
set_option maxRecDepth 100000 in
theorem w6_lots_58 {G : XG} {p : Program} {l : Launch} {e : Env} {s : State} {m : MethodId} {args : Array Value} {below : List Frame} {meth : Method} {c : Code} (F : Fx G ZY p m c cX6_lots 6 s args RX6) (hr : meth.sig.returnType = some .int) (hk : meth.locks = false) {r : Int32} {M' : SX} (k58 : Int32 → Int64 → Int32 → SX → Option (Int32 × SX)) (hk58 : ∀ (v1 : Int32) (v3 : Int64) (v5 : Int32) (M : SX) (H : Heap) (locs : List Loc) (ls : Array Slot), Wld G ZY M s.heap H locs → lv_has ls 6 [(0, .ref (G.2.1 0)), (1, .int v1), (3, .long v3), (5, .int v5)] → k58 v1 v3 v5 M = some (r, M') → WXi G ZY p l e 4 s m args below meth c r M' H locs (F0 m 58 ls [])) : ∀ (v1 : Int32) (v3 : Int64) (v5 : Int32) (M : SX) (H : Heap) (locs : List Loc) (ls : Array Slot), Wld G ZY M s.heap H locs → lv_has ls 6 [(0, .ref (G.2.1 0)), (1, .int v1), (3, .long v3), (5, .int v5)] → p6_lots_58 k58 v1 v3 v5 M = some (r, M') → WXi G ZY p l e 4 s m args below meth c r M' H locs (F0 m 58 ls []) := by
  intro v1 v3 v5 M H locs ls hw hl hf
  have hx := F.1.1
  have hb := F.1.2.1
  unfold p6_lots_58 at hf
  refine lv_iload hx hb dX6_lots_58 (lv_at hl 3 rfl) ?_
  refine lv_iload_n hx hb dX6_lots_60 rfl (lv_at hl 1 rfl) ?_
  refine lv_icmp_ge (tgt := 85) hx hb dX6_lots_61 (by decide) (fun c1 => ?_) (fun c1 => ?_)
  · have hf := it_t hf c1
    refine lv_aload_n hx hb dX6_lots_85 rfl (lv_at hl 0 rfl) ?_
    obtain ⟨r4, M3, hc2, hf⟩ := bd_some hf
    refine x_aftI hw (x_runV (rest := []) F hw hl.1 vw_RX6_191 (sM) rfl (c6_pawned hc2) rfl rfl (Nat.le_of_ble_eq_true rfl) ⟨Nat.le_of_ble_eq_true rfl, Nat.le_of_ble_eq_true rfl⟩ dX6_lots_86) (fun H locs hw => ?_)
    obtain ⟨r7, M6, hc5, hf⟩ := bd_some hf
    refine x_aftI hw (x_runS (rest := []) F hw hl.1 sw_RX6_170 (c6_bits r4 hc5) rfl rfl (Nat.le_of_ble_eq_true rfl) ⟨Nat.le_of_ble_eq_true rfl, Nat.le_of_ble_eq_true rfl⟩ dX6_lots_89) (fun H locs hw => ?_)
    exact x_iret F hw hr hk hf dX6_lots_92
  · have hf := it_f hf c1
    refine lv_lload_n hx hb dX6_lots_64 rfl (lv_at hl 2 rfl) ?_
    refine lv_ldc2 (v := 48271) hx hb F.1.2.2.2.1 (F.1.2.2.2.2 _ tw_866) dX6_lots_65 ?_
    refine lv_lmul hx hb dX6_lots_68 ?_
    refine lv_ldc2 (v := 2147483647) hx hb F.1.2.2.2.1 (F.1.2.2.2.2 _ tw_867) dX6_lots_69 ?_
    refine lv_lrem hx hb dX6_lots_72 (by decide) ?_
    obtain ⟨x8, ex8, hf⟩ := lt_elim hf
    refine x_letL ex8 ?_
    refine lv_lstore_n (lv' := [(3, .long x8), (0, .ref (G.2.1 0)), (1, .int v1), (5, .int v5)]) hx hb dX6_lots_73 rfl hl (by decide) rfl (fun ls hl => ?_)
    refine lv_aload_n hx hb dX6_lots_74 rfl (lv_at hl 1 rfl) ?_
    refine lv_lload_n hx hb dX6_lots_75 rfl (lv_at hl 0 rfl) ?_
    obtain ⟨M10, hc9, hf⟩ := bv_some hf
    refine x_aftV hw (x_runV (rest := []) F hw hl.1 vw_RX6_268 (sM) rfl (c6_doLot x8 hc9) rfl rfl (Nat.le_of_ble_eq_true rfl) ⟨Nat.le_of_ble_eq_true rfl, Nat.le_of_ble_eq_true rfl⟩ dX6_lots_76) (fun H locs hw => ?_)
    obtain ⟨x11, ex11, hf⟩ := lt_elim hf
    refine lv_iinc (v := x11) (lv' := [(5, .int x11), (3, .long x8), (0, .ref (G.2.1 0)), (1, .int v1)]) hx hb dX6_lots_79 hl (k := 3) rfl (by rw [ex11]; rfl) (by decide) rfl (fun ls hl => ?_)
    refine lv_goto (tgt := 58) hx hb dX6_lots_82 (by decide) ?_
    exact hk58 v1 x8 x11 M10 _ _ ls hw (lv_sub hl [2, 3, 1, 0] rfl) hf
theorem z6_lots_58 {G : XG} {p : Program} {l : Launch} {e : Env} {s : State} {m : MethodId} {args : Array Value} {below : List Frame} {meth : Method} {c : Code} (F : Fx G ZY p m c cX6_lots 6 s args RX6) (hr : meth.sig.returnType = some .int) (hk : meth.locks = false) {r : Int32} {M' : SX} : ∀ n : Nat, ∀ (v1 : Int32) (v3 : Int64) (v5 : Int32) (M : SX) (H : Heap) (locs : List Loc) (ls : Array Slot), Wld G ZY M s.heap H locs → lv_has ls 6 [(0, .ref (G.2.1 0)), (1, .int v1), (3, .long v3), (5, .int v5)] → xlp3 p6_lots_58 n v1 v3 v5 M = some (r, M') → WXi G ZY p l e 4 s m args below meth c r M' H locs (F0 m 58 ls []) := by
  intro n
  induction n with
  | zero => intro _ _ _ _ _ _ _ _ _ hf; cases hf
  | succ n ih => exact w6_lots_58 F hr hk (xlp3 p6_lots_58 n) ih
def p6_lots (a1 : Int32) (a2 : Int32) (M : SX) : Option (Int32 × SX) :=
  bd (p6_in (Int32.toInt64 a1) 1 20 M) (fun r3 M2 => if r3 = 0 then (some ((-1), M2))
  else (bd (p6_in (Int32.toInt64 a2) 1 2147483646 M2) (fun r7 M6 => if r7 = 0 then (some ((-1), M6))
  else (if (M6.1 0 1) = 0 then (some ((-4), M6))
  else (gd (bIn 0 3964) ( if ((M6.1 1 (Int32.toNatClampNeg 0)) + a1) ≤ (40 : Int32) then (lt_ (Int32.toInt64 a2) (fun x12 => xlp3 p6_lots_58 FU a1 x12 0 M6))
  else (some ((-2), M6))))))))
set_option maxHeartbeats 4000000 in
set_option maxRecDepth 100000 in
theorem c6_lots {l : Launch} {G : XG} {r : Int32} {M' : SX} {M : SX} (a1 : Int32) (a2 : Int32) (hf : p6_lots a1 a2 M = some (r, M')) : Met l yX6_lots (.code yX6_lots cX6_lots 6 (some .int) :: TBL) (rmX 4) (xPc G ZY M [.ref (G.2.1 0), .int a1, .int a2]) (xQi G ZY r M') 0 0 (inA G ZY) := by
  refine x_met (cc := cX6_lots) (by decide) (Nat.le_of_ble_eq_true rfl) ?_
  intro p e s m below meth c ls F hr hk hl hw
  have F : Fx G ZY p m c cX6_lots 6 s [.ref (G.2.1 0), .int a1, .int a2].toArray RX6 := F
  have hl : lv_has ls 6 [(0, .ref (G.2.1 0)), (1, .int a1), (2, .int a2)] := hl
  have hx := F.1.1
  have hb := F.1.2.1
  unfold p6_lots at hf
  refine lv_iload_n hx hb dX6_lots_0 rfl (lv_at hl 1 rfl) ?_
  refine lv_i2l (v := Int32.toInt64 a1) hx hb dX6_lots_1 rfl ?_
  refine lv_lconst (v := 1) hx hb dX6_lots_2 (by decide) ?_
  refine lv_ldc2 (v := 20) hx hb F.1.2.2.2.1 (F.1.2.2.2.2 _ tw_873) dX6_lots_3 ?_
  obtain ⟨r3, M2, hc1, hf⟩ := bd_some hf
  refine x_aftI hw (x_runS (rest := []) F hw hl.1 sw_RX6_69 (c6_in (Int32.toInt64 a1) 1 20 hc1) rfl rfl (Nat.le_of_ble_eq_true rfl) ⟨Nat.le_of_ble_eq_true rfl, Nat.le_of_ble_eq_true rfl⟩ dX6_lots_6) (fun H locs hw => ?_)
  refine lv_if_eq (tgt := 24) hx hb dX6_lots_9 (by decide) (fun c4 => ?_) (fun c4 => ?_)
  · have hf := it_t hf c4
    refine lv_iconst (v := (-1)) hx hb dX6_lots_24 (by decide) ?_
    exact x_iret F hw hr hk hf dX6_lots_25
  · have hf := it_f hf c4
    refine lv_iload_n hx hb dX6_lots_12 rfl (lv_at hl 2 rfl) ?_
    refine lv_i2l (v := Int32.toInt64 a2) hx hb dX6_lots_13 rfl ?_
    refine lv_lconst (v := 1) hx hb dX6_lots_14 (by decide) ?_
    refine lv_ldc2 (v := 2147483646) hx hb F.1.2.2.2.1 (F.1.2.2.2.2 _ tw_874) dX6_lots_15 ?_
    obtain ⟨r7, M6, hc5, hf⟩ := bd_some hf
    refine x_aftI hw (x_runS (rest := []) F hw hl.1 sw_RX6_69 (c6_in (Int32.toInt64 a2) 1 2147483646 hc5) rfl rfl (Nat.le_of_ble_eq_true rfl) ⟨Nat.le_of_ble_eq_true rfl, Nat.le_of_ble_eq_true rfl⟩ dX6_lots_18) (fun H locs hw => ?_)
    refine lv_if_ne (tgt := 26) hx hb dX6_lots_21 (by decide) (fun c8 => ?_) (fun c8 => ?_)
    · have hf := it_f hf c8
      refine lv_aload_n hx hb dX6_lots_26 rfl (lv_at hl 0 rfl) ?_
      refine g6_1 F hw tw_611 dX6_lots_27 ?_
      refine lv_if_ne (tgt := 36) hx hb dX6_lots_30 (by decide) (fun c9 => ?_) (fun c9 => ?_)
      · have hf := it_f hf c9
        refine lv_aload_n hx hb dX6_lots_36 rfl (lv_at hl 0 rfl) ?_
        refine g6_0 F hw tw_610 dX6_lots_37 ?_
        refine lv_iconst (v := 0) hx hb dX6_lots_40 (by decide) ?_
        obtain ⟨g10, hf⟩ := gd_some hf
        refine x_iald F hw sM1 g10 dX6_lots_41 ?_
        refine lv_iload_n hx hb dX6_lots_42 rfl (lv_at hl 1 rfl) ?_
        refine lv_iadd hx hb dX6_lots_43 ?_
        refine lv_bipush (v := 40) hx hb dX6_lots_44 (by decide) ?_
        refine lv_icmp_le (tgt := 52) hx hb dX6_lots_46 (by decide) (fun c11 => ?_) (fun c11 => ?_)
        · have hf := it_t hf c11
          refine lv_iload_n hx hb dX6_lots_52 rfl (lv_at hl 2 rfl) ?_
          refine lv_i2l (v := Int32.toInt64 a2) hx hb dX6_lots_53 rfl ?_
          obtain ⟨x12, ex12, hf⟩ := lt_elim hf
          refine x_letL ex12 ?_
          refine lv_lstore_n (lv' := [(3, .long x12), (0, .ref (G.2.1 0)), (1, .int a1), (2, .int a2)]) hx hb dX6_lots_54 rfl hl (by decide) rfl (fun ls hl => ?_)
          refine lv_iconst (v := 0) hx hb dX6_lots_55 (by decide) ?_
          refine lv_istore (lv' := [(5, .int 0), (3, .long x12), (0, .ref (G.2.1 0)), (1, .int a1), (2, .int a2)]) hx hb dX6_lots_56 hl (by decide) rfl (fun ls hl => ?_)
          exact z6_lots_58 F hr hk FU a1 x12 0 M6 _ _ ls hw (lv_sub hl [2, 3, 1, 0] rfl) hf
        · have hf := it_f hf c11
          refine lv_bipush (v := (-2)) hx hb dX6_lots_49 (by decide) ?_
          exact x_iret F hw hr hk hf dX6_lots_51
      · have hf := it_t hf c9
        refine lv_bipush (v := (-4)) hx hb dX6_lots_33 (by decide) ?_
        exact x_iret F hw hr hk hf dX6_lots_35
    · have hf := it_t hf c8
      refine lv_iconst (v := (-1)) hx hb dX6_lots_24 (by decide) ?_
      exact x_iret F hw hr hk hf dX6_lots_25
theorem dX6_count_0 : decode cX6_count 0 = .ok (.iload_n 1, 1) := by decide +kernel
theorem dX6_count_1 : decode cX6_count 1 = .ok (.i2l, 1) := by decide +kernel
theorem dX6_count_2 : decode cX6_count 2 = .ok (.lconst 0, 1) := by decide +kernel
theorem dX6_count_3 : decode cX6_count 3 = .ok (.ldc2_w 281, 3) := by decide +kernel
theorem dX6_count_6 : decode cX6_count 6 = .ok (.invokestatic 69, 3) := by decide +kernel
theorem dX6_count_9 : decode cX6_count 9 = .ok (.ifCond .eq 11, 3) := by decide +kernel
theorem dX6_count_12 : decode cX6_count 12 = .ok (.aload_n 0, 1) := by decide +kernel
theorem dX6_count_13 : decode cX6_count 13 = .ok (.iload_n 1, 1) := by decide +kernel
theorem dX6_count_14 : decode cX6_count 14 = .ok (.invokevirtual 283, 3) := by decide +kernel
theorem dX6_count_17 : decode cX6_count 17 = .ok (.goto 4, 3) := by decide +kernel
theorem dX6_count_20 : decode cX6_count 20 = .ok (.iconst (-1), 1) := by decide +kernel
theorem dX6_count_21 : decode cX6_count 21 = .ok (.ireturn, 1) := by decide +kernel
def p6_count (a1 : Int32) (M : SX) : Option (Int32 × SX) :=
  bd (p6_in (Int32.toInt64 a1) 0 8 M) (fun r3 M2 => if r3 = 0 then (some ((-1), M2))
  else (bd (p6_countOf a1 M2) (fun r7 M6 => some (r7, M6))))
set_option maxHeartbeats 4000000 in
set_option maxRecDepth 100000 in
theorem c6_count {l : Launch} {G : XG} {r : Int32} {M' : SX} {M : SX} (a1 : Int32) (hf : p6_count a1 M = some (r, M')) : Met l yX6_count (.code yX6_count cX6_count 2 (some .int) :: TBL) (rmX 4) (xPc G ZY M [.ref (G.2.1 0), .int a1]) (xQi G ZY r M') 0 0 (inA G ZY) := by
  refine x_met (cc := cX6_count) (by decide) (Nat.le_of_ble_eq_true rfl) ?_
  intro p e s m below meth c ls F hr hk hl hw
  have F : Fx G ZY p m c cX6_count 2 s [.ref (G.2.1 0), .int a1].toArray RX6 := F
  have hl : lv_has ls 2 [(0, .ref (G.2.1 0)), (1, .int a1)] := hl
  have hx := F.1.1
  have hb := F.1.2.1
  unfold p6_count at hf
  refine lv_iload_n hx hb dX6_count_0 rfl (lv_at hl 1 rfl) ?_
  refine lv_i2l (v := Int32.toInt64 a1) hx hb dX6_count_1 rfl ?_
  refine lv_lconst (v := 0) hx hb dX6_count_2 (by decide) ?_
  refine lv_ldc2 (v := 8) hx hb F.1.2.2.2.1 (F.1.2.2.2.2 _ tw_875) dX6_count_3 ?_
  obtain ⟨r3, M2, hc1, hf⟩ := bd_some hf
  refine x_aftI hw (x_runS (rest := []) F hw hl.1 sw_RX6_69 (c6_in (Int32.toInt64 a1) 0 8 hc1) rfl rfl (Nat.le_of_ble_eq_true rfl) ⟨Nat.le_of_ble_eq_true rfl, Nat.le_of_ble_eq_true rfl⟩ dX6_count_6) (fun H locs hw => ?_)
  refine lv_if_eq (tgt := 20) hx hb dX6_count_9 (by decide) (fun c4 => ?_) (fun c4 => ?_)
  · have hf := it_t hf c4
    refine lv_iconst (v := (-1)) hx hb dX6_count_20 (by decide) ?_
    exact x_iret F hw hr hk hf dX6_count_21
  · have hf := it_f hf c4
    refine lv_aload_n hx hb dX6_count_12 rfl (lv_at hl 0 rfl) ?_
    refine lv_iload_n hx hb dX6_count_13 rfl (lv_at hl 1 rfl) ?_
    obtain ⟨r7, M6, hc5, hf⟩ := bd_some hf
    refine x_aftI hw (x_runV (rest := []) F hw hl.1 vw_RX6_283 (sM) rfl (c6_countOf a1 hc5) rfl rfl (Nat.le_of_ble_eq_true rfl) ⟨Nat.le_of_ble_eq_true rfl, Nat.le_of_ble_eq_true rfl⟩ dX6_count_14) (fun H locs hw => ?_)
    refine lv_goto (tgt := 21) hx hb dX6_count_17 (by decide) ?_
    exact x_iret F hw hr hk hf dX6_count_21
theorem dX6_digest_0 : decode cX6_digest 0 = .ok (.ldc2_w 286, 3) := by decide +kernel
theorem dX6_digest_3 : decode cX6_digest 3 = .ok (.lstore_n 1, 1) := by decide +kernel
theorem dX6_digest_4 : decode cX6_digest 4 = .ok (.iconst 0, 1) := by decide +kernel
theorem dX6_digest_5 : decode cX6_digest 5 = .ok (.istore_n 3, 1) := by decide +kernel
theorem dX6_digest_6 : decode cX6_digest 6 = .ok (.iload_n 3, 1) := by decide +kernel
theorem dX6_digest_7 : decode cX6_digest 7 = .ok (.bipush 9, 2) := by decide +kernel
theorem dX6_digest_9 : decode cX6_digest 9 = .ok (.if_icmp .ge 22, 3) := by decide +kernel
theorem dX6_digest_12 : decode cX6_digest 12 = .ok (.ldc2_w 288, 3) := by decide +kernel
theorem dX6_digest_15 : decode cX6_digest 15 = .ok (.lload_n 1, 1) := by decide +kernel
theorem dX6_digest_16 : decode cX6_digest 16 = .ok (.lmul, 1) := by decide +kernel
theorem dX6_digest_17 : decode cX6_digest 17 = .ok (.aload_n 0, 1) := by decide +kernel
theorem dX6_digest_18 : decode cX6_digest 18 = .ok (.iload_n 3, 1) := by decide +kernel
theorem dX6_digest_19 : decode cX6_digest 19 = .ok (.invokevirtual 283, 3) := by decide +kernel
theorem dX6_digest_22 : decode cX6_digest 22 = .ok (.i2l, 1) := by decide +kernel
theorem dX6_digest_23 : decode cX6_digest 23 = .ok (.ladd, 1) := by decide +kernel
theorem dX6_digest_24 : decode cX6_digest 24 = .ok (.lstore_n 1, 1) := by decide +kernel
theorem dX6_digest_25 : decode cX6_digest 25 = .ok (.iinc 3 1, 3) := by decide +kernel
theorem dX6_digest_28 : decode cX6_digest 28 = .ok (.goto (-22), 3) := by decide +kernel
theorem dX6_digest_31 : decode cX6_digest 31 = .ok (.iconst 0, 1) := by decide +kernel
theorem dX6_digest_32 : decode cX6_digest 32 = .ok (.istore_n 3, 1) := by decide +kernel
theorem dX6_digest_33 : decode cX6_digest 33 = .ok (.iload_n 3, 1) := by decide +kernel
theorem dX6_digest_34 : decode cX6_digest 34 = .ok (.bipush 7, 2) := by decide +kernel
theorem dX6_digest_36 : decode cX6_digest 36 = .ok (.aload_n 0, 1) := by decide +kernel
theorem dX6_digest_37 : decode cX6_digest 37 = .ok (.getfield 140, 3) := by decide +kernel
theorem dX6_digest_40 : decode cX6_digest 40 = .ok (.imul, 1) := by decide +kernel
theorem dX6_digest_41 : decode cX6_digest 41 = .ok (.if_icmp .ge 29, 3) := by decide +kernel
theorem dX6_digest_44 : decode cX6_digest 44 = .ok (.ldc2_w 288, 3) := by decide +kernel
theorem dX6_digest_47 : decode cX6_digest 47 = .ok (.lload_n 1, 1) := by decide +kernel
theorem dX6_digest_48 : decode cX6_digest 48 = .ok (.lmul, 1) := by decide +kernel
theorem dX6_digest_49 : decode cX6_digest 49 = .ok (.aload_n 0, 1) := by decide +kernel
theorem dX6_digest_50 : decode cX6_digest 50 = .ok (.iload_n 3, 1) := by decide +kernel
theorem dX6_digest_51 : decode cX6_digest 51 = .ok (.bipush 7, 2) := by decide +kernel
theorem dX6_digest_53 : decode cX6_digest 53 = .ok (.idiv, 1) := by decide +kernel
theorem dX6_digest_54 : decode cX6_digest 54 = .ok (.iload_n 3, 1) := by decide +kernel
theorem dX6_digest_55 : decode cX6_digest 55 = .ok (.bipush 7, 2) := by decide +kernel
theorem dX6_digest_57 : decode cX6_digest 57 = .ok (.irem, 1) := by decide +kernel
theorem dX6_digest_58 : decode cX6_digest 58 = .ok (.invokevirtual 157, 3) := by decide +kernel
theorem dX6_digest_61 : decode cX6_digest 61 = .ok (.i2l, 1) := by decide +kernel
theorem dX6_digest_62 : decode cX6_digest 62 = .ok (.ladd, 1) := by decide +kernel
theorem dX6_digest_63 : decode cX6_digest 63 = .ok (.lstore_n 1, 1) := by decide +kernel
theorem dX6_digest_64 : decode cX6_digest 64 = .ok (.iinc 3 1, 3) := by decide +kernel
theorem dX6_digest_67 : decode cX6_digest 67 = .ok (.goto (-34), 3) := by decide +kernel
theorem dX6_digest_70 : decode cX6_digest 70 = .ok (.iconst 1, 1) := by decide +kernel
theorem dX6_digest_71 : decode cX6_digest 71 = .ok (.istore_n 3, 1) := by decide +kernel
theorem dX6_digest_72 : decode cX6_digest 72 = .ok (.iload_n 3, 1) := by decide +kernel
theorem dX6_digest_73 : decode cX6_digest 73 = .ok (.iconst 4, 1) := by decide +kernel
theorem dX6_digest_74 : decode cX6_digest 74 = .ok (.if_icmp .ge 29, 3) := by decide +kernel
theorem dX6_digest_77 : decode cX6_digest 77 = .ok (.ldc2_w 288, 3) := by decide +kernel
theorem dX6_digest_80 : decode cX6_digest 80 = .ok (.lload_n 1, 1) := by decide +kernel
theorem dX6_digest_81 : decode cX6_digest 81 = .ok (.lmul, 1) := by decide +kernel
theorem dX6_digest_82 : decode cX6_digest 82 = .ok (.aload_n 0, 1) := by decide +kernel
theorem dX6_digest_83 : decode cX6_digest 83 = .ok (.getfield 7, 3) := by decide +kernel
theorem dX6_digest_86 : decode cX6_digest 86 = .ok (.sipush 991, 3) := by decide +kernel
theorem dX6_digest_89 : decode cX6_digest 89 = .ok (.iload_n 3, 1) := by decide +kernel
theorem dX6_digest_90 : decode cX6_digest 90 = .ok (.imul, 1) := by decide +kernel
theorem dX6_digest_91 : decode cX6_digest 91 = .ok (.iconst 0, 1) := by decide +kernel
theorem dX6_digest_92 : decode cX6_digest 92 = .ok (.iadd, 1) := by decide +kernel
theorem dX6_digest_93 : decode cX6_digest 93 = .ok (.iaload, 1) := by decide +kernel
theorem dX6_digest_94 : decode cX6_digest 94 = .ok (.i2l, 1) := by decide +kernel
theorem dX6_digest_95 : decode cX6_digest 95 = .ok (.ladd, 1) := by decide +kernel
theorem dX6_digest_96 : decode cX6_digest 96 = .ok (.lstore_n 1, 1) := by decide +kernel
theorem dX6_digest_97 : decode cX6_digest 97 = .ok (.iinc 3 1, 3) := by decide +kernel
theorem dX6_digest_100 : decode cX6_digest 100 = .ok (.goto (-28), 3) := by decide +kernel
theorem dX6_digest_103 : decode cX6_digest 103 = .ok (.iconst 0, 1) := by decide +kernel
theorem dX6_digest_104 : decode cX6_digest 104 = .ok (.istore_n 3, 1) := by decide +kernel
theorem dX6_digest_105 : decode cX6_digest 105 = .ok (.iload_n 3, 1) := by decide +kernel
theorem dX6_digest_106 : decode cX6_digest 106 = .ok (.bipush 6, 2) := by decide +kernel
theorem dX6_digest_108 : decode cX6_digest 108 = .ok (.if_icmp .ge 63, 3) := by decide +kernel
theorem dX6_digest_111 : decode cX6_digest 111 = .ok (.ldc2_w 288, 3) := by decide +kernel
theorem dX6_digest_114 : decode cX6_digest 114 = .ok (.lload_n 1, 1) := by decide +kernel
theorem dX6_digest_115 : decode cX6_digest 115 = .ok (.lmul, 1) := by decide +kernel
theorem dX6_digest_116 : decode cX6_digest 116 = .ok (.aload_n 0, 1) := by decide +kernel
theorem dX6_digest_117 : decode cX6_digest 117 = .ok (.getfield 16, 3) := by decide +kernel
theorem dX6_digest_120 : decode cX6_digest 120 = .ok (.iload_n 3, 1) := by decide +kernel
theorem dX6_digest_121 : decode cX6_digest 121 = .ok (.iaload, 1) := by decide +kernel
theorem dX6_digest_122 : decode cX6_digest 122 = .ok (.i2l, 1) := by decide +kernel
theorem dX6_digest_123 : decode cX6_digest 123 = .ok (.ladd, 1) := by decide +kernel
theorem dX6_digest_124 : decode cX6_digest 124 = .ok (.lstore_n 1, 1) := by decide +kernel
theorem dX6_digest_125 : decode cX6_digest 125 = .ok (.iconst 0, 1) := by decide +kernel
theorem dX6_digest_126 : decode cX6_digest 126 = .ok (.istore 4, 2) := by decide +kernel
theorem dX6_digest_128 : decode cX6_digest 128 = .ok (.iload 4, 2) := by decide +kernel
theorem dX6_digest_130 : decode cX6_digest 130 = .ok (.aload_n 0, 1) := by decide +kernel
theorem dX6_digest_131 : decode cX6_digest 131 = .ok (.getfield 16, 3) := by decide +kernel
theorem dX6_digest_134 : decode cX6_digest 134 = .ok (.iload_n 3, 1) := by decide +kernel
theorem dX6_digest_135 : decode cX6_digest 135 = .ok (.iaload, 1) := by decide +kernel
theorem dX6_digest_136 : decode cX6_digest 136 = .ok (.if_icmp .ge 29, 3) := by decide +kernel
theorem dX6_digest_139 : decode cX6_digest 139 = .ok (.ldc2_w 288, 3) := by decide +kernel
theorem dX6_digest_142 : decode cX6_digest 142 = .ok (.lload_n 1, 1) := by decide +kernel
theorem dX6_digest_143 : decode cX6_digest 143 = .ok (.lmul, 1) := by decide +kernel
theorem dX6_digest_144 : decode cX6_digest 144 = .ok (.aload_n 0, 1) := by decide +kernel
theorem dX6_digest_145 : decode cX6_digest 145 = .ok (.getfield 19, 3) := by decide +kernel
theorem dX6_digest_148 : decode cX6_digest 148 = .ok (.bipush 40, 2) := by decide +kernel
theorem dX6_digest_150 : decode cX6_digest 150 = .ok (.iload_n 3, 1) := by decide +kernel
theorem dX6_digest_151 : decode cX6_digest 151 = .ok (.imul, 1) := by decide +kernel
theorem dX6_digest_152 : decode cX6_digest 152 = .ok (.iload 4, 2) := by decide +kernel
theorem dX6_digest_154 : decode cX6_digest 154 = .ok (.iadd, 1) := by decide +kernel
theorem dX6_digest_155 : decode cX6_digest 155 = .ok (.iaload, 1) := by decide +kernel
theorem dX6_digest_156 : decode cX6_digest 156 = .ok (.i2l, 1) := by decide +kernel
theorem dX6_digest_157 : decode cX6_digest 157 = .ok (.ladd, 1) := by decide +kernel
theorem dX6_digest_158 : decode cX6_digest 158 = .ok (.lstore_n 1, 1) := by decide +kernel
theorem dX6_digest_159 : decode cX6_digest 159 = .ok (.iinc 4 1, 3) := by decide +kernel
theorem dX6_digest_162 : decode cX6_digest 162 = .ok (.goto (-34), 3) := by decide +kernel
theorem dX6_digest_165 : decode cX6_digest 165 = .ok (.iinc 3 1, 3) := by decide +kernel
theorem dX6_digest_168 : decode cX6_digest 168 = .ok (.goto (-63), 3) := by decide +kernel
theorem dX6_digest_171 : decode cX6_digest 171 = .ok (.iconst 0, 1) := by decide +kernel
theorem dX6_digest_172 : decode cX6_digest 172 = .ok (.istore_n 3, 1) := by decide +kernel
theorem dX6_digest_173 : decode cX6_digest 173 = .ok (.iload_n 3, 1) := by decide +kernel
theorem dX6_digest_174 : decode cX6_digest 174 = .ok (.iconst 4, 1) := by decide +kernel
theorem dX6_digest_175 : decode cX6_digest 175 = .ok (.if_icmp .ge 63, 3) := by decide +kernel
theorem dX6_digest_178 : decode cX6_digest 178 = .ok (.ldc2_w 288, 3) := by decide +kernel
theorem dX6_digest_181 : decode cX6_digest 181 = .ok (.lload_n 1, 1) := by decide +kernel
theorem dX6_digest_182 : decode cX6_digest 182 = .ok (.lmul, 1) := by decide +kernel
theorem dX6_digest_183 : decode cX6_digest 183 = .ok (.aload_n 0, 1) := by decide +kernel
theorem dX6_digest_184 : decode cX6_digest 184 = .ok (.getfield 22, 3) := by decide +kernel
theorem dX6_digest_187 : decode cX6_digest 187 = .ok (.iload_n 3, 1) := by decide +kernel
theorem dX6_digest_188 : decode cX6_digest 188 = .ok (.iaload, 1) := by decide +kernel
theorem dX6_digest_189 : decode cX6_digest 189 = .ok (.i2l, 1) := by decide +kernel
theorem dX6_digest_190 : decode cX6_digest 190 = .ok (.ladd, 1) := by decide +kernel
theorem dX6_digest_191 : decode cX6_digest 191 = .ok (.lstore_n 1, 1) := by decide +kernel
theorem dX6_digest_192 : decode cX6_digest 192 = .ok (.iconst 0, 1) := by decide +kernel
theorem dX6_digest_193 : decode cX6_digest 193 = .ok (.istore 4, 2) := by decide +kernel
theorem dX6_digest_195 : decode cX6_digest 195 = .ok (.iload 4, 2) := by decide +kernel
theorem dX6_digest_197 : decode cX6_digest 197 = .ok (.aload_n 0, 1) := by decide +kernel
theorem dX6_digest_198 : decode cX6_digest 198 = .ok (.getfield 22, 3) := by decide +kernel
theorem dX6_digest_201 : decode cX6_digest 201 = .ok (.iload_n 3, 1) := by decide +kernel
theorem dX6_digest_202 : decode cX6_digest 202 = .ok (.iaload, 1) := by decide +kernel
theorem dX6_digest_203 : decode cX6_digest 203 = .ok (.if_icmp .ge 29, 3) := by decide +kernel
theorem dX6_digest_206 : decode cX6_digest 206 = .ok (.ldc2_w 288, 3) := by decide +kernel
theorem dX6_digest_209 : decode cX6_digest 209 = .ok (.lload_n 1, 1) := by decide +kernel
theorem dX6_digest_210 : decode cX6_digest 210 = .ok (.lmul, 1) := by decide +kernel
theorem dX6_digest_211 : decode cX6_digest 211 = .ok (.aload_n 0, 1) := by decide +kernel
theorem dX6_digest_212 : decode cX6_digest 212 = .ok (.getfield 25, 3) := by decide +kernel
theorem dX6_digest_215 : decode cX6_digest 215 = .ok (.bipush 60, 2) := by decide +kernel
theorem dX6_digest_217 : decode cX6_digest 217 = .ok (.iload_n 3, 1) := by decide +kernel
theorem dX6_digest_218 : decode cX6_digest 218 = .ok (.imul, 1) := by decide +kernel
theorem dX6_digest_219 : decode cX6_digest 219 = .ok (.iload 4, 2) := by decide +kernel
theorem dX6_digest_221 : decode cX6_digest 221 = .ok (.iadd, 1) := by decide +kernel
theorem dX6_digest_222 : decode cX6_digest 222 = .ok (.iaload, 1) := by decide +kernel
theorem dX6_digest_223 : decode cX6_digest 223 = .ok (.i2l, 1) := by decide +kernel
theorem dX6_digest_224 : decode cX6_digest 224 = .ok (.ladd, 1) := by decide +kernel
theorem dX6_digest_225 : decode cX6_digest 225 = .ok (.lstore_n 1, 1) := by decide +kernel
theorem dX6_digest_226 : decode cX6_digest 226 = .ok (.iinc 4 1, 3) := by decide +kernel
theorem dX6_digest_229 : decode cX6_digest 229 = .ok (.goto (-34), 3) := by decide +kernel
theorem dX6_digest_232 : decode cX6_digest 232 = .ok (.iinc 3 1, 3) := by decide +kernel
theorem dX6_digest_235 : decode cX6_digest 235 = .ok (.goto (-62), 3) := by decide +kernel
theorem dX6_digest_238 : decode cX6_digest 238 = .ok (.lload_n 1, 1) := by decide +kernel
theorem dX6_digest_239 : decode cX6_digest 239 = .ok (.lreturn, 1) := by decide +kernel
def p6_digest_195 (k173 : Int64 → Int32 → SX → Option (Int64 × SX)) (k195 : Int64 → Int32 → Int32 → SX → Option (Int64 × SX)) (v1 : Int64) (v3 : Int32) (v4 : Int32) (M : SX) : Option (Int64 × SX) :=
  gd (bIn v3 4) ( if (M.1 5 (Int32.toNatClampNeg v3)) ≤ v4 then (lt_ (v3 + 1) (fun x3 => k173 v1 x3 M))
  else (gd (bIn ((60 * v3) + v4) 240) ( lt_ ((31 * v1) + (Int32.toInt64 (M.1 6 (Int32.toNatClampNeg ((60 * v3) + v4))))) (fun x5 => lt_ (v4 + 1) (fun x6 => k195 x5 v3 x6 M)))))
set_option maxHeartbeats 4000000 in
set_option maxRecDepth 100000 in
theorem w6_digest_195 {G : XG} {p : Program} {l : Launch} {e : Env} {s : State} {m : MethodId} {args : Array Value} {below : List Frame} {meth : Method} {c : Code} (F : Fx G ZY p m c cX6_digest 5 s args RX6) (hr : meth.sig.returnType = some .long) (hk : meth.locks = false) {r : Int64} {M' : SX} (k173 : Int64 → Int32 → SX → Option (Int64 × SX)) (hk173 : ∀ (v1 : Int64) (v3 : Int32) (M : SX) (H : Heap) (locs : List Loc) (ls : Array Slot), Wld G ZY M s.heap H locs → lv_has ls 5 [(0, .ref (G.2.1 0)), (1, .long v1), (3, .int v3)] → k173 v1 v3 M = some (r, M') → WXl G ZY p l e 4 s m args below meth c r M' H locs (F0 m 173 ls [])) (k195 : Int64 → Int32 → Int32 → SX → Option (Int64 × SX)) (hk195 : ∀ (v1 : Int64) (v3 : Int32) (v4 : Int32) (M : SX) (H : Heap) (locs : List Loc) (ls : Array Slot), Wld G ZY M s.heap H locs → lv_has ls 5 [(0, .ref (G.2.1 0)), (1, .long v1), (3, .int v3), (4, .int v4)] → k195 v1 v3 v4 M = some (r, M') → WXl G ZY p l e 4 s m args below meth c r M' H locs (F0 m 195 ls [])) : ∀ (v1 : Int64) (v3 : Int32) (v4 : Int32) (M : SX) (H : Heap) (locs : List Loc) (ls : Array Slot), Wld G ZY M s.heap H locs → lv_has ls 5 [(0, .ref (G.2.1 0)), (1, .long v1), (3, .int v3), (4, .int v4)] → p6_digest_195 k173 k195 v1 v3 v4 M = some (r, M') → WXl G ZY p l e 4 s m args below meth c r M' H locs (F0 m 195 ls []) := by
  intro v1 v3 v4 M H locs ls hw hl hf
  have hx := F.1.1
  have hb := F.1.2.1
  unfold p6_digest_195 at hf
  refine lv_iload hx hb dX6_digest_195 (lv_at hl 3 rfl) ?_
  refine lv_aload_n hx hb dX6_digest_197 rfl (lv_at hl 0 rfl) ?_
  refine g6_5 F hw tw_615 dX6_digest_198 ?_
  refine lv_iload_n hx hb dX6_digest_201 rfl (lv_at hl 2 rfl) ?_
  obtain ⟨g1, hf⟩ := gd_some hf
  refine x_iald F hw sM5 g1 dX6_digest_202 ?_
  refine lv_icmp_ge (tgt := 232) hx hb dX6_digest_203 (by decide) (fun c2 => ?_) (fun c2 => ?_)
  · have hf := it_t hf c2
    obtain ⟨x3, ex3, hf⟩ := lt_elim hf
    refine lv_iinc (v := x3) (lv' := [(3, .int x3), (0, .ref (G.2.1 0)), (1, .long v1), (4, .int v4)]) hx hb dX6_digest_232 hl (k := 2) rfl (by rw [ex3]; rfl) (by decide) rfl (fun ls hl => ?_)
    refine lv_goto (tgt := 173) hx hb dX6_digest_235 (by decide) ?_
    exact hk173 v1 x3 M _ _ ls hw (lv_sub hl [1, 2, 0] rfl) hf
  · have hf := it_f hf c2
    refine lv_ldc2 (v := 31) hx hb F.1.2.2.2.1 (F.1.2.2.2.2 _ tw_881) dX6_digest_206 ?_
    refine lv_lload_n hx hb dX6_digest_209 rfl (lv_at hl 1 rfl) ?_
    refine lv_lmul hx hb dX6_digest_210 ?_
    refine lv_aload_n hx hb dX6_digest_211 rfl (lv_at hl 0 rfl) ?_
    refine g6_6 F hw tw_607 dX6_digest_212 ?_
    refine lv_bipush (v := 60) hx hb dX6_digest_215 (by decide) ?_
    refine lv_iload_n hx hb dX6_digest_217 rfl (lv_at hl 2 rfl) ?_
    refine lv_imul hx hb dX6_digest_218 ?_
    refine lv_iload hx hb dX6_digest_219 (lv_at hl 3 rfl) ?_
    refine lv_iadd hx hb dX6_digest_221 ?_
    obtain ⟨g4, hf⟩ := gd_some hf
    refine x_iald F hw sM6 g4 dX6_digest_222 ?_
    refine lv_i2l (v := Int32.toInt64 (M.1 6 (Int32.toNatClampNeg ((60 * v3) + v4)))) hx hb dX6_digest_223 rfl ?_
    refine lv_ladd hx hb dX6_digest_224 ?_
    obtain ⟨x5, ex5, hf⟩ := lt_elim hf
    refine x_letL ex5 ?_
    refine lv_lstore_n (lv' := [(1, .long x5), (0, .ref (G.2.1 0)), (3, .int v3), (4, .int v4)]) hx hb dX6_digest_225 rfl hl (by decide) rfl (fun ls hl => ?_)
    obtain ⟨x6, ex6, hf⟩ := lt_elim hf
    refine lv_iinc (v := x6) (lv' := [(4, .int x6), (1, .long x5), (0, .ref (G.2.1 0)), (3, .int v3)]) hx hb dX6_digest_226 hl (k := 3) rfl (by rw [ex6]; rfl) (by decide) rfl (fun ls hl => ?_)
    refine lv_goto (tgt := 195) hx hb dX6_digest_229 (by decide) ?_
    exact hk195 x5 v3 x6 M _ _ ls hw (lv_sub hl [2, 1, 3, 0] rfl) hf
theorem z6_digest_195 {G : XG} {p : Program} {l : Launch} {e : Env} {s : State} {m : MethodId} {args : Array Value} {below : List Frame} {meth : Method} {c : Code} (F : Fx G ZY p m c cX6_digest 5 s args RX6) (hr : meth.sig.returnType = some .long) (hk : meth.locks = false) {r : Int64} {M' : SX} (k173 : Int64 → Int32 → SX → Option (Int64 × SX)) (hk173 : ∀ (v1 : Int64) (v3 : Int32) (M : SX) (H : Heap) (locs : List Loc) (ls : Array Slot), Wld G ZY M s.heap H locs → lv_has ls 5 [(0, .ref (G.2.1 0)), (1, .long v1), (3, .int v3)] → k173 v1 v3 M = some (r, M') → WXl G ZY p l e 4 s m args below meth c r M' H locs (F0 m 173 ls [])) : ∀ n : Nat, ∀ (v1 : Int64) (v3 : Int32) (v4 : Int32) (M : SX) (H : Heap) (locs : List Loc) (ls : Array Slot), Wld G ZY M s.heap H locs → lv_has ls 5 [(0, .ref (G.2.1 0)), (1, .long v1), (3, .int v3), (4, .int v4)] → xlp3 (p6_digest_195 k173) n v1 v3 v4 M = some (r, M') → WXl G ZY p l e 4 s m args below meth c r M' H locs (F0 m 195 ls []) := by
  intro n
  induction n with
  | zero => intro _ _ _ _ _ _ _ _ _ hf; cases hf
  | succ n ih => exact w6_digest_195 F hr hk k173 hk173 (xlp3 (p6_digest_195 k173) n) ih
def p6_digest_173 (k173 : Int64 → Int32 → SX → Option (Int64 × SX)) (v1 : Int64) (v3 : Int32) (M : SX) : Option (Int64 × SX) :=
  if (4 : Int32) ≤ v3 then (some (v1, M))
  else (gd (bIn v3 4) ( lt_ ((31 * v1) + (Int32.toInt64 (M.1 5 (Int32.toNatClampNeg v3)))) (fun x3 => xlp3 (p6_digest_195 k173) FU x3 v3 0 M)))
set_option maxHeartbeats 4000000 in
set_option maxRecDepth 100000 in
theorem w6_digest_173 {G : XG} {p : Program} {l : Launch} {e : Env} {s : State} {m : MethodId} {args : Array Value} {below : List Frame} {meth : Method} {c : Code} (F : Fx G ZY p m c cX6_digest 5 s args RX6) (hr : meth.sig.returnType = some .long) (hk : meth.locks = false) {r : Int64} {M' : SX} (k173 : Int64 → Int32 → SX → Option (Int64 × SX)) (hk173 : ∀ (v1 : Int64) (v3 : Int32) (M : SX) (H : Heap) (locs : List Loc) (ls : Array Slot), Wld G ZY M s.heap H locs → lv_has ls 5 [(0, .ref (G.2.1 0)), (1, .long v1), (3, .int v3)] → k173 v1 v3 M = some (r, M') → WXl G ZY p l e 4 s m args below meth c r M' H locs (F0 m 173 ls [])) : ∀ (v1 : Int64) (v3 : Int32) (M : SX) (H : Heap) (locs : List Loc) (ls : Array Slot), Wld G ZY M s.heap H locs → lv_has ls 5 [(0, .ref (G.2.1 0)), (1, .long v1), (3, .int v3)] → p6_digest_173 k173 v1 v3 M = some (r, M') → WXl G ZY p l e 4 s m args below meth c r M' H locs (F0 m 173 ls []) := by
  intro v1 v3 M H locs ls hw hl hf
  have hx := F.1.1
  have hb := F.1.2.1
  unfold p6_digest_173 at hf
  refine lv_iload_n hx hb dX6_digest_173 rfl (lv_at hl 2 rfl) ?_
  refine lv_iconst (v := 4) hx hb dX6_digest_174 (by decide) ?_
  refine lv_icmp_ge (tgt := 238) hx hb dX6_digest_175 (by decide) (fun c1 => ?_) (fun c1 => ?_)
  · have hf := it_t hf c1
    refine lv_lload_n hx hb dX6_digest_238 rfl (lv_at hl 1 rfl) ?_
    exact x_lret F hw hr hk hf dX6_digest_239
  · have hf := it_f hf c1
    refine lv_ldc2 (v := 31) hx hb F.1.2.2.2.1 (F.1.2.2.2.2 _ tw_881) dX6_digest_178 ?_
    refine lv_lload_n hx hb dX6_digest_181 rfl (lv_at hl 1 rfl) ?_
    refine lv_lmul hx hb dX6_digest_182 ?_
    refine lv_aload_n hx hb dX6_digest_183 rfl (lv_at hl 0 rfl) ?_
    refine g6_5 F hw tw_615 dX6_digest_184 ?_
    refine lv_iload_n hx hb dX6_digest_187 rfl (lv_at hl 2 rfl) ?_
    obtain ⟨g2, hf⟩ := gd_some hf
    refine x_iald F hw sM5 g2 dX6_digest_188 ?_
    refine lv_i2l (v := Int32.toInt64 (M.1 5 (Int32.toNatClampNeg v3))) hx hb dX6_digest_189 rfl ?_
    refine lv_ladd hx hb dX6_digest_190 ?_
    obtain ⟨x3, ex3, hf⟩ := lt_elim hf
    refine x_letL ex3 ?_
    refine lv_lstore_n (lv' := [(1, .long x3), (0, .ref (G.2.1 0)), (3, .int v3)]) hx hb dX6_digest_191 rfl hl (by decide) rfl (fun ls hl => ?_)
    refine lv_iconst (v := 0) hx hb dX6_digest_192 (by decide) ?_
    refine lv_istore (lv' := [(4, .int 0), (1, .long x3), (0, .ref (G.2.1 0)), (3, .int v3)]) hx hb dX6_digest_193 hl (by decide) rfl (fun ls hl => ?_)
    exact z6_digest_195 F hr hk k173 hk173 FU x3 v3 0 M _ _ ls hw (lv_sub hl [2, 1, 3, 0] rfl) hf
theorem z6_digest_173 {G : XG} {p : Program} {l : Launch} {e : Env} {s : State} {m : MethodId} {args : Array Value} {below : List Frame} {meth : Method} {c : Code} (F : Fx G ZY p m c cX6_digest 5 s args RX6) (hr : meth.sig.returnType = some .long) (hk : meth.locks = false) {r : Int64} {M' : SX} : ∀ n : Nat, ∀ (v1 : Int64) (v3 : Int32) (M : SX) (H : Heap) (locs : List Loc) (ls : Array Slot), Wld G ZY M s.heap H locs → lv_has ls 5 [(0, .ref (G.2.1 0)), (1, .long v1), (3, .int v3)] → xlp2 p6_digest_173 n v1 v3 M = some (r, M') → WXl G ZY p l e 4 s m args below meth c r M' H locs (F0 m 173 ls []) := by
  intro n
  induction n with
  | zero => intro _ _ _ _ _ _ _ _ hf; cases hf
  | succ n ih => exact w6_digest_173 F hr hk (xlp2 p6_digest_173 n) ih
def p6_digest_128 (k105 : Int64 → Int32 → SX → Option (Int64 × SX)) (k128 : Int64 → Int32 → Int32 → SX → Option (Int64 × SX)) (v1 : Int64) (v3 : Int32) (v4 : Int32) (M : SX) : Option (Int64 × SX) :=
  gd (bIn v3 6) ( if (M.1 3 (Int32.toNatClampNeg v3)) ≤ v4 then (lt_ (v3 + 1) (fun x3 => k105 v1 x3 M))
  else (gd (bIn ((40 * v3) + v4) 240) ( lt_ ((31 * v1) + (Int32.toInt64 (M.1 4 (Int32.toNatClampNeg ((40 * v3) + v4))))) (fun x5 => lt_ (v4 + 1) (fun x6 => k128 x5 v3 x6 M)))))
set_option maxHeartbeats 4000000 in
set_option maxRecDepth 100000 in
theorem w6_digest_128 {G : XG} {p : Program} {l : Launch} {e : Env} {s : State} {m : MethodId} {args : Array Value} {below : List Frame} {meth : Method} {c : Code} (F : Fx G ZY p m c cX6_digest 5 s args RX6) (hr : meth.sig.returnType = some .long) (hk : meth.locks = false) {r : Int64} {M' : SX} (k105 : Int64 → Int32 → SX → Option (Int64 × SX)) (hk105 : ∀ (v1 : Int64) (v3 : Int32) (M : SX) (H : Heap) (locs : List Loc) (ls : Array Slot), Wld G ZY M s.heap H locs → lv_has ls 5 [(0, .ref (G.2.1 0)), (1, .long v1), (3, .int v3)] → k105 v1 v3 M = some (r, M') → WXl G ZY p l e 4 s m args below meth c r M' H locs (F0 m 105 ls [])) (k128 : Int64 → Int32 → Int32 → SX → Option (Int64 × SX)) (hk128 : ∀ (v1 : Int64) (v3 : Int32) (v4 : Int32) (M : SX) (H : Heap) (locs : List Loc) (ls : Array Slot), Wld G ZY M s.heap H locs → lv_has ls 5 [(0, .ref (G.2.1 0)), (1, .long v1), (3, .int v3), (4, .int v4)] → k128 v1 v3 v4 M = some (r, M') → WXl G ZY p l e 4 s m args below meth c r M' H locs (F0 m 128 ls [])) : ∀ (v1 : Int64) (v3 : Int32) (v4 : Int32) (M : SX) (H : Heap) (locs : List Loc) (ls : Array Slot), Wld G ZY M s.heap H locs → lv_has ls 5 [(0, .ref (G.2.1 0)), (1, .long v1), (3, .int v3), (4, .int v4)] → p6_digest_128 k105 k128 v1 v3 v4 M = some (r, M') → WXl G ZY p l e 4 s m args below meth c r M' H locs (F0 m 128 ls []) := by
  intro v1 v3 v4 M H locs ls hw hl hf
  have hx := F.1.1
  have hb := F.1.2.1
  unfold p6_digest_128 at hf
  refine lv_iload hx hb dX6_digest_128 (lv_at hl 3 rfl) ?_
  refine lv_aload_n hx hb dX6_digest_130 rfl (lv_at hl 0 rfl) ?_
  refine g6_3 F hw tw_606 dX6_digest_131 ?_
  refine lv_iload_n hx hb dX6_digest_134 rfl (lv_at hl 2 rfl) ?_
  obtain ⟨g1, hf⟩ := gd_some hf
  refine x_iald F hw sM3 g1 dX6_digest_135 ?_
  refine lv_icmp_ge (tgt := 165) hx hb dX6_digest_136 (by decide) (fun c2 => ?_) (fun c2 => ?_)
  · have hf := it_t hf c2
    obtain ⟨x3, ex3, hf⟩ := lt_elim hf
    refine lv_iinc (v := x3) (lv' := [(3, .int x3), (0, .ref (G.2.1 0)), (1, .long v1), (4, .int v4)]) hx hb dX6_digest_165 hl (k := 2) rfl (by rw [ex3]; rfl) (by decide) rfl (fun ls hl => ?_)
    refine lv_goto (tgt := 105) hx hb dX6_digest_168 (by decide) ?_
    exact hk105 v1 x3 M _ _ ls hw (lv_sub hl [1, 2, 0] rfl) hf
  · have hf := it_f hf c2
    refine lv_ldc2 (v := 31) hx hb F.1.2.2.2.1 (F.1.2.2.2.2 _ tw_881) dX6_digest_139 ?_
    refine lv_lload_n hx hb dX6_digest_142 rfl (lv_at hl 1 rfl) ?_
    refine lv_lmul hx hb dX6_digest_143 ?_
    refine lv_aload_n hx hb dX6_digest_144 rfl (lv_at hl 0 rfl) ?_
    refine g6_4 F hw tw_605 dX6_digest_145 ?_
    refine lv_bipush (v := 40) hx hb dX6_digest_148 (by decide) ?_
    refine lv_iload_n hx hb dX6_digest_150 rfl (lv_at hl 2 rfl) ?_
    refine lv_imul hx hb dX6_digest_151 ?_
    refine lv_iload hx hb dX6_digest_152 (lv_at hl 3 rfl) ?_
    refine lv_iadd hx hb dX6_digest_154 ?_
    obtain ⟨g4, hf⟩ := gd_some hf
    refine x_iald F hw sM4 g4 dX6_digest_155 ?_
    refine lv_i2l (v := Int32.toInt64 (M.1 4 (Int32.toNatClampNeg ((40 * v3) + v4)))) hx hb dX6_digest_156 rfl ?_
    refine lv_ladd hx hb dX6_digest_157 ?_
    obtain ⟨x5, ex5, hf⟩ := lt_elim hf
    refine x_letL ex5 ?_
    refine lv_lstore_n (lv' := [(1, .long x5), (0, .ref (G.2.1 0)), (3, .int v3), (4, .int v4)]) hx hb dX6_digest_158 rfl hl (by decide) rfl (fun ls hl => ?_)
    obtain ⟨x6, ex6, hf⟩ := lt_elim hf
    refine lv_iinc (v := x6) (lv' := [(4, .int x6), (1, .long x5), (0, .ref (G.2.1 0)), (3, .int v3)]) hx hb dX6_digest_159 hl (k := 3) rfl (by rw [ex6]; rfl) (by decide) rfl (fun ls hl => ?_)
    refine lv_goto (tgt := 128) hx hb dX6_digest_162 (by decide) ?_
    exact hk128 x5 v3 x6 M _ _ ls hw (lv_sub hl [2, 1, 3, 0] rfl) hf
theorem z6_digest_128 {G : XG} {p : Program} {l : Launch} {e : Env} {s : State} {m : MethodId} {args : Array Value} {below : List Frame} {meth : Method} {c : Code} (F : Fx G ZY p m c cX6_digest 5 s args RX6) (hr : meth.sig.returnType = some .long) (hk : meth.locks = false) {r : Int64} {M' : SX} (k105 : Int64 → Int32 → SX → Option (Int64 × SX)) (hk105 : ∀ (v1 : Int64) (v3 : Int32) (M : SX) (H : Heap) (locs : List Loc) (ls : Array Slot), Wld G ZY M s.heap H locs → lv_has ls 5 [(0, .ref (G.2.1 0)), (1, .long v1), (3, .int v3)] → k105 v1 v3 M = some (r, M') → WXl G ZY p l e 4 s m args below meth c r M' H locs (F0 m 105 ls [])) : ∀ n : Nat, ∀ (v1 : Int64) (v3 : Int32) (v4 : Int32) (M : SX) (H : Heap) (locs : List Loc) (ls : Array Slot), Wld G ZY M s.heap H locs → lv_has ls 5 [(0, .ref (G.2.1 0)), (1, .long v1), (3, .int v3), (4, .int v4)] → xlp3 (p6_digest_128 k105) n v1 v3 v4 M = some (r, M') → WXl G ZY p l e 4 s m args below meth c r M' H locs (F0 m 128 ls []) := by
  intro n
  induction n with
  | zero => intro _ _ _ _ _ _ _ _ _ hf; cases hf
  | succ n ih => exact w6_digest_128 F hr hk k105 hk105 (xlp3 (p6_digest_128 k105) n) ih
def p6_digest_105 (k105 : Int64 → Int32 → SX → Option (Int64 × SX)) (v1 : Int64) (v3 : Int32) (M : SX) : Option (Int64 × SX) :=
  if (6 : Int32) ≤ v3 then (xlp2 p6_digest_173 FU v1 0 M)
  else (gd (bIn v3 6) ( lt_ ((31 * v1) + (Int32.toInt64 (M.1 3 (Int32.toNatClampNeg v3)))) (fun x3 => xlp3 (p6_digest_128 k105) FU x3 v3 0 M)))
set_option maxHeartbeats 4000000 in
set_option maxRecDepth 100000 in
theorem w6_digest_105 {G : XG} {p : Program} {l : Launch} {e : Env} {s : State} {m : MethodId} {args : Array Value} {below : List Frame} {meth : Method} {c : Code} (F : Fx G ZY p m c cX6_digest 5 s args RX6) (hr : meth.sig.returnType = some .long) (hk : meth.locks = false) {r : Int64} {M' : SX} (k105 : Int64 → Int32 → SX → Option (Int64 × SX)) (hk105 : ∀ (v1 : Int64) (v3 : Int32) (M : SX) (H : Heap) (locs : List Loc) (ls : Array Slot), Wld G ZY M s.heap H locs → lv_has ls 5 [(0, .ref (G.2.1 0)), (1, .long v1), (3, .int v3)] → k105 v1 v3 M = some (r, M') → WXl G ZY p l e 4 s m args below meth c r M' H locs (F0 m 105 ls [])) : ∀ (v1 : Int64) (v3 : Int32) (M : SX) (H : Heap) (locs : List Loc) (ls : Array Slot), Wld G ZY M s.heap H locs → lv_has ls 5 [(0, .ref (G.2.1 0)), (1, .long v1), (3, .int v3)] → p6_digest_105 k105 v1 v3 M = some (r, M') → WXl G ZY p l e 4 s m args below meth c r M' H locs (F0 m 105 ls []) := by
  intro v1 v3 M H locs ls hw hl hf
  have hx := F.1.1
  have hb := F.1.2.1
  unfold p6_digest_105 at hf
  refine lv_iload_n hx hb dX6_digest_105 rfl (lv_at hl 2 rfl) ?_
  refine lv_bipush (v := 6) hx hb dX6_digest_106 (by decide) ?_
  refine lv_icmp_ge (tgt := 171) hx hb dX6_digest_108 (by decide) (fun c1 => ?_) (fun c1 => ?_)
  · have hf := it_t hf c1
    refine lv_iconst (v := 0) hx hb dX6_digest_171 (by decide) ?_
    refine lv_istore_n (lv' := [(3, .int 0), (0, .ref (G.2.1 0)), (1, .long v1)]) hx hb dX6_digest_172 rfl hl (by decide) rfl (fun ls hl => ?_)
    exact z6_digest_173 F hr hk FU v1 0 M _ _ ls hw (lv_sub hl [1, 2, 0] rfl) hf
  · have hf := it_f hf c1
    refine lv_ldc2 (v := 31) hx hb F.1.2.2.2.1 (F.1.2.2.2.2 _ tw_881) dX6_digest_111 ?_
    refine lv_lload_n hx hb dX6_digest_114 rfl (lv_at hl 1 rfl) ?_
    refine lv_lmul hx hb dX6_digest_115 ?_
    refine lv_aload_n hx hb dX6_digest_116 rfl (lv_at hl 0 rfl) ?_
    refine g6_3 F hw tw_606 dX6_digest_117 ?_
    refine lv_iload_n hx hb dX6_digest_120 rfl (lv_at hl 2 rfl) ?_
    obtain ⟨g2, hf⟩ := gd_some hf
    refine x_iald F hw sM3 g2 dX6_digest_121 ?_
    refine lv_i2l (v := Int32.toInt64 (M.1 3 (Int32.toNatClampNeg v3))) hx hb dX6_digest_122 rfl ?_
    refine lv_ladd hx hb dX6_digest_123 ?_
    obtain ⟨x3, ex3, hf⟩ := lt_elim hf
    refine x_letL ex3 ?_
    refine lv_lstore_n (lv' := [(1, .long x3), (0, .ref (G.2.1 0)), (3, .int v3)]) hx hb dX6_digest_124 rfl hl (by decide) rfl (fun ls hl => ?_)
    refine lv_iconst (v := 0) hx hb dX6_digest_125 (by decide) ?_
    refine lv_istore (lv' := [(4, .int 0), (1, .long x3), (0, .ref (G.2.1 0)), (3, .int v3)]) hx hb dX6_digest_126 hl (by decide) rfl (fun ls hl => ?_)
    exact z6_digest_128 F hr hk k105 hk105 FU x3 v3 0 M _ _ ls hw (lv_sub hl [2, 1, 3, 0] rfl) hf
theorem z6_digest_105 {G : XG} {p : Program} {l : Launch} {e : Env} {s : State} {m : MethodId} {args : Array Value} {below : List Frame} {meth : Method} {c : Code} (F : Fx G ZY p m c cX6_digest 5 s args RX6) (hr : meth.sig.returnType = some .long) (hk : meth.locks = false) {r : Int64} {M' : SX} : ∀ n : Nat, ∀ (v1 : Int64) (v3 : Int32) (M : SX) (H : Heap) (locs : List Loc) (ls : Array Slot), Wld G ZY M s.heap H locs → lv_has ls 5 [(0, .ref (G.2.1 0)), (1, .long v1), (3, .int v3)] → xlp2 p6_digest_105 n v1 v3 M = some (r, M') → WXl G ZY p l e 4 s m args below meth c r M' H locs (F0 m 105 ls []) := by
  intro n
  induction n with
  | zero => intro _ _ _ _ _ _ _ _ hf; cases hf
  | succ n ih => exact w6_digest_105 F hr hk (xlp2 p6_digest_105 n) ih
def p6_digest_72 (k72 : Int64 → Int32 → SX → Option (Int64 × SX)) (v1 : Int64) (v3 : Int32) (M : SX) : Option (Int64 × SX) :=
  if (4 : Int32) ≤ v3 then (xlp2 p6_digest_105 FU v1 0 M)
  else (gd (bIn ((991 * v3) + 0) 3964) ( lt_ ((31 * v1) + (Int32.toInt64 (M.1 1 (Int32.toNatClampNeg ((991 * v3) + 0))))) (fun x3 => lt_ (v3 + 1) (fun x4 => k72 x3 x4 M))))
set_option maxHeartbeats 4000000 in
set_option maxRecDepth 100000 in
theorem w6_digest_72 {G : XG} {p : Program} {l : Launch} {e : Env} {s : State} {m : MethodId} {args : Array Value} {below : List Frame} {meth : Method} {c : Code} (F : Fx G ZY p m c cX6_digest 5 s args RX6) (hr : meth.sig.returnType = some .long) (hk : meth.locks = false) {r : Int64} {M' : SX} (k72 : Int64 → Int32 → SX → Option (Int64 × SX)) (hk72 : ∀ (v1 : Int64) (v3 : Int32) (M : SX) (H : Heap) (locs : List Loc) (ls : Array Slot), Wld G ZY M s.heap H locs → lv_has ls 5 [(0, .ref (G.2.1 0)), (1, .long v1), (3, .int v3)] → k72 v1 v3 M = some (r, M') → WXl G ZY p l e 4 s m args below meth c r M' H locs (F0 m 72 ls [])) : ∀ (v1 : Int64) (v3 : Int32) (M : SX) (H : Heap) (locs : List Loc) (ls : Array Slot), Wld G ZY M s.heap H locs → lv_has ls 5 [(0, .ref (G.2.1 0)), (1, .long v1), (3, .int v3)] → p6_digest_72 k72 v1 v3 M = some (r, M') → WXl G ZY p l e 4 s m args below meth c r M' H locs (F0 m 72 ls []) := by
  intro v1 v3 M H locs ls hw hl hf
  have hx := F.1.1
  have hb := F.1.2.1
  unfold p6_digest_72 at hf
  refine lv_iload_n hx hb dX6_digest_72 rfl (lv_at hl 2 rfl) ?_
  refine lv_iconst (v := 4) hx hb dX6_digest_73 (by decide) ?_
  refine lv_icmp_ge (tgt := 103) hx hb dX6_digest_74 (by decide) (fun c1 => ?_) (fun c1 => ?_)
  · have hf := it_t hf c1
    refine lv_iconst (v := 0) hx hb dX6_digest_103 (by decide) ?_
    refine lv_istore_n (lv' := [(3, .int 0), (0, .ref (G.2.1 0)), (1, .long v1)]) hx hb dX6_digest_104 rfl hl (by decide) rfl (fun ls hl => ?_)
    exact z6_digest_105 F hr hk FU v1 0 M _ _ ls hw (lv_sub hl [1, 2, 0] rfl) hf
  · have hf := it_f hf c1
    refine lv_ldc2 (v := 31) hx hb F.1.2.2.2.1 (F.1.2.2.2.2 _ tw_881) dX6_digest_77 ?_
    refine lv_lload_n hx hb dX6_digest_80 rfl (lv_at hl 1 rfl) ?_
    refine lv_lmul hx hb dX6_digest_81 ?_
    refine lv_aload_n hx hb dX6_digest_82 rfl (lv_at hl 0 rfl) ?_
    refine g6_0 F hw tw_610 dX6_digest_83 ?_
    refine lv_sipush (v := 991) hx hb dX6_digest_86 (by decide) ?_
    refine lv_iload_n hx hb dX6_digest_89 rfl (lv_at hl 2 rfl) ?_
    refine lv_imul hx hb dX6_digest_90 ?_
    refine lv_iconst (v := 0) hx hb dX6_digest_91 (by decide) ?_
    refine lv_iadd hx hb dX6_digest_92 ?_
    obtain ⟨g2, hf⟩ := gd_some hf
    refine x_iald F hw sM1 g2 dX6_digest_93 ?_
    refine lv_i2l (v := Int32.toInt64 (M.1 1 (Int32.toNatClampNeg ((991 * v3) + 0)))) hx hb dX6_digest_94 rfl ?_
    refine lv_ladd hx hb dX6_digest_95 ?_
    obtain ⟨x3, ex3, hf⟩ := lt_elim hf
    refine x_letL ex3 ?_
    refine lv_lstore_n (lv' := [(1, .long x3), (0, .ref (G.2.1 0)), (3, .int v3)]) hx hb dX6_digest_96 rfl hl (by decide) rfl (fun ls hl => ?_)
    obtain ⟨x4, ex4, hf⟩ := lt_elim hf
    refine lv_iinc (v := x4) (lv' := [(3, .int x4), (1, .long x3), (0, .ref (G.2.1 0))]) hx hb dX6_digest_97 hl (k := 2) rfl (by rw [ex4]; rfl) (by decide) rfl (fun ls hl => ?_)
    refine lv_goto (tgt := 72) hx hb dX6_digest_100 (by decide) ?_
    exact hk72 x3 x4 M _ _ ls hw (lv_sub hl [2, 1, 0] rfl) hf
theorem z6_digest_72 {G : XG} {p : Program} {l : Launch} {e : Env} {s : State} {m : MethodId} {args : Array Value} {below : List Frame} {meth : Method} {c : Code} (F : Fx G ZY p m c cX6_digest 5 s args RX6) (hr : meth.sig.returnType = some .long) (hk : meth.locks = false) {r : Int64} {M' : SX} : ∀ n : Nat, ∀ (v1 : Int64) (v3 : Int32) (M : SX) (H : Heap) (locs : List Loc) (ls : Array Slot), Wld G ZY M s.heap H locs → lv_has ls 5 [(0, .ref (G.2.1 0)), (1, .long v1), (3, .int v3)] → xlp2 p6_digest_72 n v1 v3 M = some (r, M') → WXl G ZY p l e 4 s m args below meth c r M' H locs (F0 m 72 ls []) := by
  intro n
  induction n with
  | zero => intro _ _ _ _ _ _ _ _ hf; cases hf
  | succ n ih => exact w6_digest_72 F hr hk (xlp2 p6_digest_72 n) ih
def p6_digest_33 (k33 : Int64 → Int32 → SX → Option (Int64 × SX)) (v1 : Int64) (v3 : Int32) (M : SX) : Option (Int64 × SX) :=
  if (7 * (M.1 0 1)) ≤ v3 then (xlp2 p6_digest_72 FU v1 1 M)
  else (bd (p6_toldOf (v3 / 7) (v3 - v3 / 7 * 7) M) (fun r4 M3 => lt_ ((31 * v1) + (Int32.toInt64 r4)) (fun x5 => lt_ (v3 + 1) (fun x6 => k33 x5 x6 M3))))
set_option maxHeartbeats 4000000 in
set_option maxRecDepth 100000 in
theorem w6_digest_33 {G : XG} {p : Program} {l : Launch} {e : Env} {s : State} {m : MethodId} {args : Array Value} {below : List Frame} {meth : Method} {c : Code} (F : Fx G ZY p m c cX6_digest 5 s args RX6) (hr : meth.sig.returnType = some .long) (hk : meth.locks = false) {r : Int64} {M' : SX} (k33 : Int64 → Int32 → SX → Option (Int64 × SX)) (hk33 : ∀ (v1 : Int64) (v3 : Int32) (M : SX) (H : Heap) (locs : List Loc) (ls : Array Slot), Wld G ZY M s.heap H locs → lv_has ls 5 [(0, .ref (G.2.1 0)), (1, .long v1), (3, .int v3)] → k33 v1 v3 M = some (r, M') → WXl G ZY p l e 4 s m args below meth c r M' H locs (F0 m 33 ls [])) : ∀ (v1 : Int64) (v3 : Int32) (M : SX) (H : Heap) (locs : List Loc) (ls : Array Slot), Wld G ZY M s.heap H locs → lv_has ls 5 [(0, .ref (G.2.1 0)), (1, .long v1), (3, .int v3)] → p6_digest_33 k33 v1 v3 M = some (r, M') → WXl G ZY p l e 4 s m args below meth c r M' H locs (F0 m 33 ls []) := by
  intro v1 v3 M H locs ls hw hl hf
  have hx := F.1.1
  have hb := F.1.2.1
  unfold p6_digest_33 at hf
  refine lv_iload_n hx hb dX6_digest_33 rfl (lv_at hl 2 rfl) ?_
  refine lv_bipush (v := 7) hx hb dX6_digest_34 (by decide) ?_
  refine lv_aload_n hx hb dX6_digest_36 rfl (lv_at hl 0 rfl) ?_
  refine g6_1 F hw tw_611 dX6_digest_37 ?_
  refine lv_imul hx hb dX6_digest_40 ?_
  refine lv_icmp_ge (tgt := 70) hx hb dX6_digest_41 (by decide) (fun c1 => ?_) (fun c1 => ?_)
  · have hf := it_t hf c1
    refine lv_iconst (v := 1) hx hb dX6_digest_70 (by decide) ?_
    refine lv_istore_n (lv' := [(3, .int 1), (0, .ref (G.2.1 0)), (1, .long v1)]) hx hb dX6_digest_71 rfl hl (by decide) rfl (fun ls hl => ?_)
    exact z6_digest_72 F hr hk FU v1 1 M _ _ ls hw (lv_sub hl [1, 2, 0] rfl) hf
  · have hf := it_f hf c1
    refine lv_ldc2 (v := 31) hx hb F.1.2.2.2.1 (F.1.2.2.2.2 _ tw_881) dX6_digest_44 ?_
    refine lv_lload_n hx hb dX6_digest_47 rfl (lv_at hl 1 rfl) ?_
    refine lv_lmul hx hb dX6_digest_48 ?_
    refine lv_aload_n hx hb dX6_digest_49 rfl (lv_at hl 0 rfl) ?_
    refine lv_iload_n hx hb dX6_digest_50 rfl (lv_at hl 2 rfl) ?_
    refine lv_bipush (v := 7) hx hb dX6_digest_51 (by decide) ?_
    refine lv_idiv hx hb dX6_digest_53 (by decide) ?_
    refine lv_iload_n hx hb dX6_digest_54 rfl (lv_at hl 2 rfl) ?_
    refine lv_bipush (v := 7) hx hb dX6_digest_55 (by decide) ?_
    refine lv_irem hx hb dX6_digest_57 (by decide) ?_
    obtain ⟨r4, M3, hc2, hf⟩ := bd_some hf
    refine x_aftI hw (x_runV (rest := [.long (31 * v1)]) F hw hl.1 vw_RX6_157 (sM) rfl (c6_toldOf (v3 / 7) (v3 - v3 / 7 * 7) hc2) rfl rfl (Nat.le_of_ble_eq_true rfl) ⟨Nat.le_of_ble_eq_true rfl, Nat.le_of_ble_eq_true rfl⟩ dX6_digest_58) (fun H locs hw => ?_)
    refine lv_i2l (v := Int32.toInt64 r4) hx hb dX6_digest_61 rfl ?_
    refine lv_ladd hx hb dX6_digest_62 ?_
    obtain ⟨x5, ex5, hf⟩ := lt_elim hf
    refine x_letL ex5 ?_
    refine lv_lstore_n (lv' := [(1, .long x5), (0, .ref (G.2.1 0)), (3, .int v3)]) hx hb dX6_digest_63 rfl hl (by decide) rfl (fun ls hl => ?_)
    obtain ⟨x6, ex6, hf⟩ := lt_elim hf
    refine lv_iinc (v := x6) (lv' := [(3, .int x6), (1, .long x5), (0, .ref (G.2.1 0))]) hx hb dX6_digest_64 hl (k := 2) rfl (by rw [ex6]; rfl) (by decide) rfl (fun ls hl => ?_)
    refine lv_goto (tgt := 33) hx hb dX6_digest_67 (by decide) ?_
    exact hk33 x5 x6 M3 _ _ ls hw (lv_sub hl [2, 1, 0] rfl) hf
theorem z6_digest_33 {G : XG} {p : Program} {l : Launch} {e : Env} {s : State} {m : MethodId} {args : Array Value} {below : List Frame} {meth : Method} {c : Code} (F : Fx G ZY p m c cX6_digest 5 s args RX6) (hr : meth.sig.returnType = some .long) (hk : meth.locks = false) {r : Int64} {M' : SX} : ∀ n : Nat, ∀ (v1 : Int64) (v3 : Int32) (M : SX) (H : Heap) (locs : List Loc) (ls : Array Slot), Wld G ZY M s.heap H locs → lv_has ls 5 [(0, .ref (G.2.1 0)), (1, .long v1), (3, .int v3)] → xlp2 p6_digest_33 n v1 v3 M = some (r, M') → WXl G ZY p l e 4 s m args below meth c r M' H locs (F0 m 33 ls []) := by
  intro n
  induction n with
  | zero => intro _ _ _ _ _ _ _ _ hf; cases hf
  | succ n ih => exact w6_digest_33 F hr hk (xlp2 p6_digest_33 n) ih
def p6_digest_6 (k6 : Int64 → Int32 → SX → Option (Int64 × SX)) (v1 : Int64) (v3 : Int32) (M : SX) : Option (Int64 × SX) :=
  if (9 : Int32) ≤ v3 then (xlp2 p6_digest_33 FU v1 0 M)
  else (bd (p6_countOf v3 M) (fun r4 M3 => lt_ ((31 * v1) + (Int32.toInt64 r4)) (fun x5 => lt_ (v3 + 1) (fun x6 => k6 x5 x6 M3))))
set_option maxHeartbeats 4000000 in
set_option maxRecDepth 100000 in
theorem w6_digest_6 {G : XG} {p : Program} {l : Launch} {e : Env} {s : State} {m : MethodId} {args : Array Value} {below : List Frame} {meth : Method} {c : Code} (F : Fx G ZY p m c cX6_digest 5 s args RX6) (hr : meth.sig.returnType = some .long) (hk : meth.locks = false) {r : Int64} {M' : SX} (k6 : Int64 → Int32 → SX → Option (Int64 × SX)) (hk6 : ∀ (v1 : Int64) (v3 : Int32) (M : SX) (H : Heap) (locs : List Loc) (ls : Array Slot), Wld G ZY M s.heap H locs → lv_has ls 5 [(0, .ref (G.2.1 0)), (1, .long v1), (3, .int v3)] → k6 v1 v3 M = some (r, M') → WXl G ZY p l e 4 s m args below meth c r M' H locs (F0 m 6 ls [])) : ∀ (v1 : Int64) (v3 : Int32) (M : SX) (H : Heap) (locs : List Loc) (ls : Array Slot), Wld G ZY M s.heap H locs → lv_has ls 5 [(0, .ref (G.2.1 0)), (1, .long v1), (3, .int v3)] → p6_digest_6 k6 v1 v3 M = some (r, M') → WXl G ZY p l e 4 s m args below meth c r M' H locs (F0 m 6 ls []) := by
  intro v1 v3 M H locs ls hw hl hf
  have hx := F.1.1
  have hb := F.1.2.1
  unfold p6_digest_6 at hf
  refine lv_iload_n hx hb dX6_digest_6 rfl (lv_at hl 2 rfl) ?_
  refine lv_bipush (v := 9) hx hb dX6_digest_7 (by decide) ?_
  refine lv_icmp_ge (tgt := 31) hx hb dX6_digest_9 (by decide) (fun c1 => ?_) (fun c1 => ?_)
  · have hf := it_t hf c1
    refine lv_iconst (v := 0) hx hb dX6_digest_31 (by decide) ?_
    refine lv_istore_n (lv' := [(3, .int 0), (0, .ref (G.2.1 0)), (1, .long v1)]) hx hb dX6_digest_32 rfl hl (by decide) rfl (fun ls hl => ?_)
    exact z6_digest_33 F hr hk FU v1 0 M _ _ ls hw (lv_sub hl [1, 2, 0] rfl) hf
  · have hf := it_f hf c1
    refine lv_ldc2 (v := 31) hx hb F.1.2.2.2.1 (F.1.2.2.2.2 _ tw_881) dX6_digest_12 ?_
    refine lv_lload_n hx hb dX6_digest_15 rfl (lv_at hl 1 rfl) ?_
    refine lv_lmul hx hb dX6_digest_16 ?_
    refine lv_aload_n hx hb dX6_digest_17 rfl (lv_at hl 0 rfl) ?_
    refine lv_iload_n hx hb dX6_digest_18 rfl (lv_at hl 2 rfl) ?_
    obtain ⟨r4, M3, hc2, hf⟩ := bd_some hf
    refine x_aftI hw (x_runV (rest := [.long (31 * v1)]) F hw hl.1 vw_RX6_283 (sM) rfl (c6_countOf v3 hc2) rfl rfl (Nat.le_of_ble_eq_true rfl) ⟨Nat.le_of_ble_eq_true rfl, Nat.le_of_ble_eq_true rfl⟩ dX6_digest_19) (fun H locs hw => ?_)
    refine lv_i2l (v := Int32.toInt64 r4) hx hb dX6_digest_22 rfl ?_
    refine lv_ladd hx hb dX6_digest_23 ?_
    obtain ⟨x5, ex5, hf⟩ := lt_elim hf
    refine x_letL ex5 ?_
    refine lv_lstore_n (lv' := [(1, .long x5), (0, .ref (G.2.1 0)), (3, .int v3)]) hx hb dX6_digest_24 rfl hl (by decide) rfl (fun ls hl => ?_)
    obtain ⟨x6, ex6, hf⟩ := lt_elim hf
    refine lv_iinc (v := x6) (lv' := [(3, .int x6), (1, .long x5), (0, .ref (G.2.1 0))]) hx hb dX6_digest_25 hl (k := 2) rfl (by rw [ex6]; rfl) (by decide) rfl (fun ls hl => ?_)
    refine lv_goto (tgt := 6) hx hb dX6_digest_28 (by decide) ?_
    exact hk6 x5 x6 M3 _ _ ls hw (lv_sub hl [2, 1, 0] rfl) hf
theorem z6_digest_6 {G : XG} {p : Program} {l : Launch} {e : Env} {s : State} {m : MethodId} {args : Array Value} {below : List Frame} {meth : Method} {c : Code} (F : Fx G ZY p m c cX6_digest 5 s args RX6) (hr : meth.sig.returnType = some .long) (hk : meth.locks = false) {r : Int64} {M' : SX} : ∀ n : Nat, ∀ (v1 : Int64) (v3 : Int32) (M : SX) (H : Heap) (locs : List Loc) (ls : Array Slot), Wld G ZY M s.heap H locs → lv_has ls 5 [(0, .ref (G.2.1 0)), (1, .long v1), (3, .int v3)] → xlp2 p6_digest_6 n v1 v3 M = some (r, M') → WXl G ZY p l e 4 s m args below meth c r M' H locs (F0 m 6 ls []) := by
  intro n
  induction n with
  | zero => intro _ _ _ _ _ _ _ _ hf; cases hf
  | succ n ih => exact w6_digest_6 F hr hk (xlp2 p6_digest_6 n) ih
def p6_digest (M : SX) : Option (Int64 × SX) :=
  xlp2 p6_digest_6 FU 17 0 M
set_option maxHeartbeats 4000000 in
set_option maxRecDepth 100000 in
theorem c6_digest {l : Launch} {G : XG} {r : Int64} {M' : SX} {M : SX} (hf : p6_digest M = some (r, M')) : Met l yX6_digest (.code yX6_digest cX6_digest 5 (some .long) :: TBL) (rmX 4) (xPc G ZY M [.ref (G.2.1 0)]) (xQl G ZY r M') 0 0 (inA G ZY) := by
  refine x_met (cc := cX6_digest) (by decide) (Nat.le_of_ble_eq_true rfl) ?_
  intro p e s m below meth c ls F hr hk hl hw
  have F : Fx G ZY p m c cX6_digest 5 s [.ref (G.2.1 0)].toArray RX6 := F
  have hl : lv_has ls 5 [(0, .ref (G.2.1 0))] := hl
  have hx := F.1.1
  have hb := F.1.2.1
  unfold p6_digest at hf
  refine lv_ldc2 (v := 17) hx hb F.1.2.2.2.1 (F.1.2.2.2.2 _ tw_882) dX6_digest_0 ?_
  refine lv_lstore_n (lv' := [(1, .long 17), (0, .ref (G.2.1 0))]) hx hb dX6_digest_3 rfl hl (by decide) rfl (fun ls hl => ?_)
  refine lv_iconst (v := 0) hx hb dX6_digest_4 (by decide) ?_
  refine lv_istore_n (lv' := [(3, .int 0), (1, .long 17), (0, .ref (G.2.1 0))]) hx hb dX6_digest_5 rfl hl (by decide) rfl (fun ls hl => ?_)
  exact z6_digest_6 F hr hk FU 17 0 M _ _ ls hw (lv_sub hl [2, 1, 0] rfl) hf
theorem dX6_least_0 : decode cX6_least 0 = .ok (.aload_n 0, 1) := by decide +kernel
theorem dX6_least_1 : decode cX6_least 1 = .ok (.getfield 140, 3) := by decide +kernel
theorem dX6_least_4 : decode cX6_least 4 = .ok (.ifCond .ne 6, 3) := by decide +kernel
theorem dX6_least_7 : decode cX6_least 7 = .ok (.bipush (-4), 2) := by decide +kernel
theorem dX6_least_9 : decode cX6_least 9 = .ok (.ireturn, 1) := by decide +kernel
theorem dX6_least_10 : decode cX6_least 10 = .ok (.aload_n 0, 1) := by decide +kernel
theorem dX6_least_11 : decode cX6_least 11 = .ok (.iconst 0, 1) := by decide +kernel
theorem dX6_least_12 : decode cX6_least 12 = .ok (.iconst 0, 1) := by decide +kernel
theorem dX6_least_13 : decode cX6_least 13 = .ok (.invokevirtual 231, 3) := by decide +kernel
theorem dX6_least_16 : decode cX6_least 16 = .ok (.iconst 0, 1) := by decide +kernel
theorem dX6_least_17 : decode cX6_least 17 = .ok (.istore_n 1, 1) := by decide +kernel
theorem dX6_least_18 : decode cX6_least 18 = .ok (.iload_n 1, 1) := by decide +kernel
theorem dX6_least_19 : decode cX6_least 19 = .ok (.bipush 100, 2) := by decide +kernel
theorem dX6_least_21 : decode cX6_least 21 = .ok (.if_icmp .ge 61, 3) := by decide +kernel
theorem dX6_least_24 : decode cX6_least 24 = .ok (.iconst 0, 1) := by decide +kernel
theorem dX6_least_25 : decode cX6_least 25 = .ok (.istore_n 2, 1) := by decide +kernel
theorem dX6_least_26 : decode cX6_least 26 = .ok (.iload_n 2, 1) := by decide +kernel
theorem dX6_least_27 : decode cX6_least 27 = .ok (.aload_n 0, 1) := by decide +kernel
theorem dX6_least_28 : decode cX6_least 28 = .ok (.getfield 140, 3) := by decide +kernel
theorem dX6_least_31 : decode cX6_least 31 = .ok (.if_icmp .ge 45, 3) := by decide +kernel
theorem dX6_least_34 : decode cX6_least 34 = .ok (.aload_n 0, 1) := by decide +kernel
theorem dX6_least_35 : decode cX6_least 35 = .ok (.getfield 47, 3) := by decide +kernel
theorem dX6_least_38 : decode cX6_least 38 = .ok (.iload_n 2, 1) := by decide +kernel
theorem dX6_least_39 : decode cX6_least 39 = .ok (.dup2, 1) := by decide +kernel
theorem dX6_least_40 : decode cX6_least 40 = .ok (.iaload, 1) := by decide +kernel
theorem dX6_least_41 : decode cX6_least 41 = .ok (.iload_n 1, 1) := by decide +kernel
theorem dX6_least_42 : decode cX6_least 42 = .ok (.iadd, 1) := by decide +kernel
theorem dX6_least_43 : decode cX6_least 43 = .ok (.iastore, 1) := by decide +kernel
theorem dX6_least_44 : decode cX6_least 44 = .ok (.aload_n 0, 1) := by decide +kernel
theorem dX6_least_45 : decode cX6_least 45 = .ok (.invokevirtual 244, 3) := by decide +kernel
theorem dX6_least_48 : decode cX6_least 48 = .ok (.istore_n 3, 1) := by decide +kernel
theorem dX6_least_49 : decode cX6_least 49 = .ok (.aload_n 0, 1) := by decide +kernel
theorem dX6_least_50 : decode cX6_least 50 = .ok (.getfield 47, 3) := by decide +kernel
theorem dX6_least_53 : decode cX6_least 53 = .ok (.iload_n 2, 1) := by decide +kernel
theorem dX6_least_54 : decode cX6_least 54 = .ok (.dup2, 1) := by decide +kernel
theorem dX6_least_55 : decode cX6_least 55 = .ok (.iaload, 1) := by decide +kernel
theorem dX6_least_56 : decode cX6_least 56 = .ok (.iload_n 1, 1) := by decide +kernel
theorem dX6_least_57 : decode cX6_least 57 = .ok (.isub, 1) := by decide +kernel
theorem dX6_least_58 : decode cX6_least 58 = .ok (.iastore, 1) := by decide +kernel
theorem dX6_least_59 : decode cX6_least 59 = .ok (.iload_n 3, 1) := by decide +kernel
theorem dX6_least_60 : decode cX6_least 60 = .ok (.ifCond .eq 10, 3) := by decide +kernel
theorem dX6_least_63 : decode cX6_least 63 = .ok (.aload_n 0, 1) := by decide +kernel
theorem dX6_least_64 : decode cX6_least 64 = .ok (.iload_n 2, 1) := by decide +kernel
theorem dX6_least_65 : decode cX6_least 65 = .ok (.putfield 64, 3) := by decide +kernel
theorem dX6_least_68 : decode cX6_least 68 = .ok (.iload_n 1, 1) := by decide +kernel
theorem dX6_least_69 : decode cX6_least 69 = .ok (.ireturn, 1) := by decide +kernel
theorem dX6_least_70 : decode cX6_least 70 = .ok (.iinc 2 1, 3) := by decide +kernel
theorem dX6_least_73 : decode cX6_least 73 = .ok (.goto (-47), 3) := by decide +kernel
theorem dX6_least_76 : decode cX6_least 76 = .ok (.iinc 1 1, 3) := by decide +kernel
theorem dX6_least_79 : decode cX6_least 79 = .ok (.goto (-61), 3) := by decide +kernel
theorem dX6_least_82 : decode cX6_least 82 = .ok (.bipush (-9), 2) := by decide +kernel
theorem dX6_least_84 : decode cX6_least 84 = .ok (.ireturn, 1) := by decide +kernel
def p6_least_26 (k18 : Int32 → SX → Option (Int32 × SX)) (k26 : Int32 → Int32 → SX → Option (Int32 × SX)) (v1 : Int32) (v2 : Int32) (M : SX) : Option (Int32 × SX) :=
  if (M.1 0 1) ≤ v2 then (lt_ (v1 + 1) (fun x2 => k18 x2 M))
  else (gd (bIn v2 6) ( lt_ (wI M 12 (Int32.toNatClampNeg v2) ((M.1 12 (Int32.toNatClampNeg v2)) + v1)) (fun M4 => bd (p6_canAll M4) (fun r7 M6 => lt_ (wI M6 12 (Int32.toNatClampNeg v2) ((M6.1 12 (Int32.toNatClampNeg v2)) - v1)) (fun M8 => if r7 = 0 then (lt_ (v2 + 1) (fun x10 => k26 v1 x10 M8))
  else (lt_ (wI M8 0 7 v2) (fun M11 => some (v1, M11))))))))
set_option maxHeartbeats 4000000 in
set_option maxRecDepth 100000 in
theorem w6_least_26 {G : XG} {p : Program} {l : Launch} {e : Env} {s : State} {m : MethodId} {args : Array Value} {below : List Frame} {meth : Method} {c : Code} (F : Fx G ZY p m c cX6_least 4 s args RX6) (hr : meth.sig.returnType = some .int) (hk : meth.locks = false) {r : Int32} {M' : SX} (k18 : Int32 → SX → Option (Int32 × SX)) (hk18 : ∀ (v1 : Int32) (M : SX) (H : Heap) (locs : List Loc) (ls : Array Slot), Wld G ZY M s.heap H locs → lv_has ls 4 [(0, .ref (G.2.1 0)), (1, .int v1)] → k18 v1 M = some (r, M') → WXi G ZY p l e 5 s m args below meth c r M' H locs (F0 m 18 ls [])) (k26 : Int32 → Int32 → SX → Option (Int32 × SX)) (hk26 : ∀ (v1 : Int32) (v2 : Int32) (M : SX) (H : Heap) (locs : List Loc) (ls : Array Slot), Wld G ZY M s.heap H locs → lv_has ls 4 [(0, .ref (G.2.1 0)), (1, .int v1), (2, .int v2)] → k26 v1 v2 M = some (r, M') → WXi G ZY p l e 5 s m args below meth c r M' H locs (F0 m 26 ls [])) : ∀ (v1 : Int32) (v2 : Int32) (M : SX) (H : Heap) (locs : List Loc) (ls : Array Slot), Wld G ZY M s.heap H locs → lv_has ls 4 [(0, .ref (G.2.1 0)), (1, .int v1), (2, .int v2)] → p6_least_26 k18 k26 v1 v2 M = some (r, M') → WXi G ZY p l e 5 s m args below meth c r M' H locs (F0 m 26 ls []) := by
  intro v1 v2 M H locs ls hw hl hf
  have hx := F.1.1
  have hb := F.1.2.1
  unfold p6_least_26 at hf
  refine lv_iload_n hx hb dX6_least_26 rfl (lv_at hl 2 rfl) ?_
  refine lv_aload_n hx hb dX6_least_27 rfl (lv_at hl 0 rfl) ?_
  refine g6_1 F hw tw_611 dX6_least_28 ?_
  refine lv_icmp_ge (tgt := 76) hx hb dX6_least_31 (by decide) (fun c1 => ?_) (fun c1 => ?_)
  · have hf := it_t hf c1
    obtain ⟨x2, ex2, hf⟩ := lt_elim hf
    refine lv_iinc (v := x2) (lv' := [(1, .int x2), (0, .ref (G.2.1 0)), (2, .int v2)]) hx hb dX6_least_76 hl (k := 1) rfl (by rw [ex2]; rfl) (by decide) rfl (fun ls hl => ?_)
    refine lv_goto (tgt := 18) hx hb dX6_least_79 (by decide) ?_
    exact hk18 x2 M _ _ ls hw (lv_sub hl [1, 0] rfl) hf
  · have hf := it_f hf c1
    refine lv_aload_n hx hb dX6_least_34 rfl (lv_at hl 0 rfl) ?_
    refine g6_21 F hw tw_655 dX6_least_35 ?_
    refine lv_iload_n hx hb dX6_least_38 rfl (lv_at hl 2 rfl) ?_
    refine lv_dup2_11 hx hb dX6_least_39 rfl rfl ?_
    obtain ⟨g3, hf⟩ := gd_some hf
    refine x_iald F hw sM12 g3 dX6_least_40 ?_
    refine lv_iload_n hx hb dX6_least_41 rfl (lv_at hl 1 rfl) ?_
    refine lv_iadd hx hb dX6_least_42 ?_
    refine x_iast F hw sM12 g3 dX6_least_43 (fun H locs hw => ?_)
    obtain ⟨M4, eM4, hf⟩ := lt_elim hf
    rw [← eM4] at hw
    refine lv_aload_n hx hb dX6_least_44 rfl (lv_at hl 0 rfl) ?_
    obtain ⟨r7, M6, hc5, hf⟩ := bd_some hf
    refine x_aftI hw (x_runV (rest := []) F hw hl.1 vw_RX6_244 (sM) rfl (c6_canAll hc5) rfl rfl (Nat.le_of_ble_eq_true rfl) ⟨Nat.le_of_ble_eq_true rfl, Nat.le_of_ble_eq_true rfl⟩ dX6_least_45) (fun H locs hw => ?_)
    refine lv_istore_n (lv' := [(3, .int r7), (0, .ref (G.2.1 0)), (1, .int v1), (2, .int v2)]) hx hb dX6_least_48 rfl hl (by decide) rfl (fun ls hl => ?_)
    refine lv_aload_n hx hb dX6_least_49 rfl (lv_at hl 1 rfl) ?_
    refine g6_21 F hw tw_655 dX6_least_50 ?_
    refine lv_iload_n hx hb dX6_least_53 rfl (lv_at hl 3 rfl) ?_
    refine lv_dup2_11 hx hb dX6_least_54 rfl rfl ?_
    refine x_iald F hw sM12 g3 dX6_least_55 ?_
    refine lv_iload_n hx hb dX6_least_56 rfl (lv_at hl 2 rfl) ?_
    refine lv_isub hx hb dX6_least_57 ?_
    refine x_iast F hw sM12 g3 dX6_least_58 (fun H locs hw => ?_)
    obtain ⟨M8, eM8, hf⟩ := lt_elim hf
    rw [← eM8] at hw
    refine lv_iload_n hx hb dX6_least_59 rfl (lv_at hl 0 rfl) ?_
    refine lv_if_eq (tgt := 70) hx hb dX6_least_60 (by decide) (fun c9 => ?_) (fun c9 => ?_)
    · have hf := it_t hf c9
      obtain ⟨x10, ex10, hf⟩ := lt_elim hf
      refine lv_iinc (v := x10) (lv' := [(2, .int x10), (3, .int r7), (0, .ref (G.2.1 0)), (1, .int v1)]) hx hb dX6_least_70 hl (k := 3) rfl (by rw [ex10]; rfl) (by decide) rfl (fun ls hl => ?_)
      refine lv_goto (tgt := 26) hx hb dX6_least_73 (by decide) ?_
      exact hk26 v1 x10 M8 _ _ ls hw (lv_sub hl [2, 3, 0] rfl) hf
    · have hf := it_f hf c9
      refine lv_aload_n hx hb dX6_least_63 rfl (lv_at hl 1 rfl) ?_
      refine lv_iload_n hx hb dX6_least_64 rfl (lv_at hl 3 rfl) ?_
      refine s6_7 F hw tw_604 dX6_least_65 (fun H locs hw => ?_)
      obtain ⟨M11, eM11, hf⟩ := lt_elim hf
      rw [← eM11] at hw
      refine lv_iload_n hx hb dX6_least_68 rfl (lv_at hl 2 rfl) ?_
      exact x_iret F hw hr hk hf dX6_least_69
theorem z6_least_26 {G : XG} {p : Program} {l : Launch} {e : Env} {s : State} {m : MethodId} {args : Array Value} {below : List Frame} {meth : Method} {c : Code} (F : Fx G ZY p m c cX6_least 4 s args RX6) (hr : meth.sig.returnType = some .int) (hk : meth.locks = false) {r : Int32} {M' : SX} (k18 : Int32 → SX → Option (Int32 × SX)) (hk18 : ∀ (v1 : Int32) (M : SX) (H : Heap) (locs : List Loc) (ls : Array Slot), Wld G ZY M s.heap H locs → lv_has ls 4 [(0, .ref (G.2.1 0)), (1, .int v1)] → k18 v1 M = some (r, M') → WXi G ZY p l e 5 s m args below meth c r M' H locs (F0 m 18 ls [])) : ∀ n : Nat, ∀ (v1 : Int32) (v2 : Int32) (M : SX) (H : Heap) (locs : List Loc) (ls : Array Slot), Wld G ZY M s.heap H locs → lv_has ls 4 [(0, .ref (G.2.1 0)), (1, .int v1), (2, .int v2)] → xlp2 (p6_least_26 k18) n v1 v2 M = some (r, M') → WXi G ZY p l e 5 s m args below meth c r M' H locs (F0 m 26 ls []) := by
  intro n
  induction n with
  | zero => intro _ _ _ _ _ _ _ _ hf; cases hf
  | succ n ih => exact w6_least_26 F hr hk k18 hk18 (xlp2 (p6_least_26 k18) n) ih
def p6_least_18 (k18 : Int32 → SX → Option (Int32 × SX)) (v1 : Int32) (M : SX) : Option (Int32 × SX) :=
  if (100 : Int32) ≤ v1 then (some ((-9), M))
  else (xlp2 (p6_least_26 k18) FU v1 0 M)
set_option maxHeartbeats 4000000 in
set_option maxRecDepth 100000 in
theorem w6_least_18 {G : XG} {p : Program} {l : Launch} {e : Env} {s : State} {m : MethodId} {args : Array Value} {below : List Frame} {meth : Method} {c : Code} (F : Fx G ZY p m c cX6_least 4 s args RX6) (hr : meth.sig.returnType = some .int) (hk : meth.locks = false) {r : Int32} {M' : SX} (k18 : Int32 → SX → Option (Int32 × SX)) (hk18 : ∀ (v1 : Int32) (M : SX) (H : Heap) (locs : List Loc) (ls : Array Slot), Wld G ZY M s.heap H locs → lv_has ls 4 [(0, .ref (G.2.1 0)), (1, .int v1)] → k18 v1 M = some (r, M') → WXi G ZY p l e 5 s m args below meth c r M' H locs (F0 m 18 ls [])) : ∀ (v1 : Int32) (M : SX) (H : Heap) (locs : List Loc) (ls : Array Slot), Wld G ZY M s.heap H locs → lv_has ls 4 [(0, .ref (G.2.1 0)), (1, .int v1)] → p6_least_18 k18 v1 M = some (r, M') → WXi G ZY p l e 5 s m args below meth c r M' H locs (F0 m 18 ls []) := by
  intro v1 M H locs ls hw hl hf
  have hx := F.1.1
  have hb := F.1.2.1
  unfold p6_least_18 at hf
  refine lv_iload_n hx hb dX6_least_18 rfl (lv_at hl 1 rfl) ?_
  refine lv_bipush (v := 100) hx hb dX6_least_19 (by decide) ?_
  refine lv_icmp_ge (tgt := 82) hx hb dX6_least_21 (by decide) (fun c1 => ?_) (fun c1 => ?_)
  · have hf := it_t hf c1
    refine lv_bipush (v := (-9)) hx hb dX6_least_82 (by decide) ?_
    exact x_iret F hw hr hk hf dX6_least_84
  · have hf := it_f hf c1
    refine lv_iconst (v := 0) hx hb dX6_least_24 (by decide) ?_
    refine lv_istore_n (lv' := [(2, .int 0), (0, .ref (G.2.1 0)), (1, .int v1)]) hx hb dX6_least_25 rfl hl (by decide) rfl (fun ls hl => ?_)
    exact z6_least_26 F hr hk k18 hk18 FU v1 0 M _ _ ls hw (lv_sub hl [1, 2, 0] rfl) hf
theorem z6_least_18 {G : XG} {p : Program} {l : Launch} {e : Env} {s : State} {m : MethodId} {args : Array Value} {below : List Frame} {meth : Method} {c : Code} (F : Fx G ZY p m c cX6_least 4 s args RX6) (hr : meth.sig.returnType = some .int) (hk : meth.locks = false) {r : Int32} {M' : SX} : ∀ n : Nat, ∀ (v1 : Int32) (M : SX) (H : Heap) (locs : List Loc) (ls : Array Slot), Wld G ZY M s.heap H locs → lv_has ls 4 [(0, .ref (G.2.1 0)), (1, .int v1)] → xlp1 p6_least_18 n v1 M = some (r, M') → WXi G ZY p l e 5 s m args below meth c r M' H locs (F0 m 18 ls []) := by
  intro n
  induction n with
  | zero => intro _ _ _ _ _ _ _ hf; cases hf
  | succ n ih => exact w6_least_18 F hr hk (xlp1 p6_least_18 n) ih
def p6_least (M : SX) : Option (Int32 × SX) :=
  if (M.1 0 1) = 0 then (some ((-4), M))
  else (bv (p6_layTried 0 0 M) (fun M3 => xlp1 p6_least_18 FU 0 M3))
set_option maxHeartbeats 4000000 in
set_option maxRecDepth 100000 in
theorem c6_least {l : Launch} {G : XG} {r : Int32} {M' : SX} {M : SX} (hf : p6_least M = some (r, M')) : Met l yX6_least (.code yX6_least cX6_least 4 (some .int) :: TBL) (rmX 5) (xPc G ZY M [.ref (G.2.1 0)]) (xQi G ZY r M') 0 0 (inA G ZY) := by
  refine x_met (cc := cX6_least) (by decide) (Nat.le_of_ble_eq_true rfl) ?_
  intro p e s m below meth c ls F hr hk hl hw
  have F : Fx G ZY p m c cX6_least 4 s [.ref (G.2.1 0)].toArray RX6 := F
  have hl : lv_has ls 4 [(0, .ref (G.2.1 0))] := hl
  have hx := F.1.1
  have hb := F.1.2.1
  unfold p6_least at hf
  refine lv_aload_n hx hb dX6_least_0 rfl (lv_at hl 0 rfl) ?_
  refine g6_1 F hw tw_611 dX6_least_1 ?_
  refine lv_if_ne (tgt := 10) hx hb dX6_least_4 (by decide) (fun c1 => ?_) (fun c1 => ?_)
  · have hf := it_f hf c1
    refine lv_aload_n hx hb dX6_least_10 rfl (lv_at hl 0 rfl) ?_
    refine lv_iconst (v := 0) hx hb dX6_least_11 (by decide) ?_
    refine lv_iconst (v := 0) hx hb dX6_least_12 (by decide) ?_
    obtain ⟨M3, hc2, hf⟩ := bv_some hf
    refine x_aftV hw (x_runV (rest := []) F hw hl.1 vw_RX6_231 (sM) rfl (c6_layTried 0 0 hc2) rfl rfl (Nat.le_of_ble_eq_true rfl) ⟨Nat.le_of_ble_eq_true rfl, Nat.le_of_ble_eq_true rfl⟩ dX6_least_13) (fun H locs hw => ?_)
    refine lv_iconst (v := 0) hx hb dX6_least_16 (by decide) ?_
    refine lv_istore_n (lv' := [(1, .int 0), (0, .ref (G.2.1 0))]) hx hb dX6_least_17 rfl hl (by decide) rfl (fun ls hl => ?_)
    exact z6_least_18 F hr hk FU 0 M3 _ _ ls hw (lv_sub hl [1, 0] rfl) hf
  · have hf := it_t hf c1
    refine lv_bipush (v := (-4)) hx hb dX6_least_7 (by decide) ?_
    exact x_iret F hw hr hk hf dX6_least_9
