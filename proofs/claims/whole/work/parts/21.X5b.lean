theorem dX5_refusalOfAside_0 : decode cX5_refusalOfAside 0 = .ok (.aload_n 0, 1) := by decide +kernel
theorem dX5_refusalOfAside_1 : decode cX5_refusalOfAside 1 = .ok (.getfield 14, 3) := by decide +kernel
theorem dX5_refusalOfAside_4 : decode cX5_refusalOfAside 4 = .ok (.iload_n 1, 1) := by decide +kernel
theorem dX5_refusalOfAside_5 : decode cX5_refusalOfAside 5 = .ok (.invokevirtual 64, 3) := by decide +kernel
theorem dX5_refusalOfAside_8 : decode cX5_refusalOfAside 8 = .ok (.ifCond .ne 5, 3) := by decide +kernel
theorem dX5_refusalOfAside_11 : decode cX5_refusalOfAside 11 = .ok (.iconst (-1), 1) := by decide +kernel
theorem dX5_refusalOfAside_12 : decode cX5_refusalOfAside 12 = .ok (.ireturn, 1) := by decide +kernel
theorem dX5_refusalOfAside_13 : decode cX5_refusalOfAside 13 = .ok (.aload_n 0, 1) := by decide +kernel
theorem dX5_refusalOfAside_14 : decode cX5_refusalOfAside 14 = .ok (.getfield 31, 3) := by decide +kernel
theorem dX5_refusalOfAside_17 : decode cX5_refusalOfAside 17 = .ok (.getfield 126, 3) := by decide +kernel
theorem dX5_refusalOfAside_20 : decode cX5_refusalOfAside 20 = .ok (.ifCond .ne 8, 3) := by decide +kernel
theorem dX5_refusalOfAside_23 : decode cX5_refusalOfAside 23 = .ok (.bipush (-4), 2) := by decide +kernel
theorem dX5_refusalOfAside_25 : decode cX5_refusalOfAside 25 = .ok (.goto 12, 3) := by decide +kernel
theorem dX5_refusalOfAside_28 : decode cX5_refusalOfAside 28 = .ok (.aload_n 0, 1) := by decide +kernel
theorem dX5_refusalOfAside_29 : decode cX5_refusalOfAside 29 = .ok (.aload_n 0, 1) := by decide +kernel
theorem dX5_refusalOfAside_30 : decode cX5_refusalOfAside 30 = .ok (.getfield 14, 3) := by decide +kernel
theorem dX5_refusalOfAside_33 : decode cX5_refusalOfAside 33 = .ok (.iload_n 1, 1) := by decide +kernel
theorem dX5_refusalOfAside_34 : decode cX5_refusalOfAside 34 = .ok (.invokevirtual 87, 3) := by decide +kernel
theorem dX5_refusalOfAside_37 : decode cX5_refusalOfAside 37 = .ok (.ireturn, 1) := by decide +kernel
def p5_refusalOfAside (a1 : Int32) (M : SX) : Option (Int32 × SX) :=
  bd (p4_isNumber 1 a1 M) (fun r3 M2 => if r3 = 0 then (some ((-1), M2))
  else (if (M2.1 17 0) = 0 then (some ((-4), M2))
  else (bd (p5_refusalOfSheet 1 a1 M2) (fun r8 M7 => some (r8, M7)))))
set_option maxHeartbeats 4000000 in
set_option maxRecDepth 100000 in
theorem c5_refusalOfAside {l : Launch} {G : XG} {r : Int32} {M' : SX} {M : SX} (a1 : Int32) (hf : p5_refusalOfAside a1 M = some (r, M')) : Met l yX5_refusalOfAside (.code yX5_refusalOfAside cX5_refusalOfAside 2 (some .int) :: TBL) (rmX 2) (xPc G ZX M [.ref (G.2.1 0), .int a1]) (xQi G ZX r M') 0 0 (inA G ZX) := by
  refine x_met (cc := cX5_refusalOfAside) (by decide) (Nat.le_of_ble_eq_true rfl) ?_
  intro p e s m below meth c ls F hr hk hl hw
  have F : Fx G ZX p m c cX5_refusalOfAside 2 s [.ref (G.2.1 0), .int a1].toArray RX5 := F
  have hl : lv_has ls 2 [(0, .ref (G.2.1 0)), (1, .int a1)] := hl
  have hx := F.1.1
  have hb := F.1.2.1
  unfold p5_refusalOfAside at hf
  refine lv_aload_n hx hb dX5_refusalOfAside_0 rfl (lv_at hl 0 rfl) ?_
  refine g5_0 F hw tw_334 dX5_refusalOfAside_1 ?_
  refine lv_iload_n hx hb dX5_refusalOfAside_4 rfl (lv_at hl 1 rfl) ?_
  obtain ⟨r3, M2, hc1, hf⟩ := bd_some hf
  refine x_aftI hw (x_runV (rest := []) F hw hl.1 vw_RX5_64 (sS isS_1) rfl (c4_isNumber 1 isS_1 a1 hc1) rfl rfl (Nat.le_of_ble_eq_true rfl) ⟨Nat.le_of_ble_eq_true rfl, Nat.le_of_ble_eq_true rfl⟩ dX5_refusalOfAside_5) (fun H locs hw => ?_)
  refine lv_if_ne (tgt := 13) hx hb dX5_refusalOfAside_8 (by decide) (fun c4 => ?_) (fun c4 => ?_)
  · have hf := it_f hf c4
    refine lv_aload_n hx hb dX5_refusalOfAside_13 rfl (lv_at hl 0 rfl) ?_
    refine g5_3 F hw tw_306 dX5_refusalOfAside_14 ?_
    refine g1_0 isL_17 F hw tw_305 dX5_refusalOfAside_17 ?_
    refine lv_if_ne (tgt := 28) hx hb dX5_refusalOfAside_20 (by decide) (fun c5 => ?_) (fun c5 => ?_)
    · have hf := it_f hf c5
      refine lv_aload_n hx hb dX5_refusalOfAside_28 rfl (lv_at hl 0 rfl) ?_
      refine lv_aload_n hx hb dX5_refusalOfAside_29 rfl (lv_at hl 0 rfl) ?_
      refine g5_0 F hw tw_334 dX5_refusalOfAside_30 ?_
      refine lv_iload_n hx hb dX5_refusalOfAside_33 rfl (lv_at hl 1 rfl) ?_
      obtain ⟨r8, M7, hc6, hf⟩ := bd_some hf
      refine x_aftI hw (x_runV (rest := []) F hw hl.1 vw_RX5_87 (sP) rfl (c5_refusalOfSheet 1 isS_1 a1 hc6) rfl rfl (Nat.le_of_ble_eq_true rfl) ⟨Nat.le_of_ble_eq_true rfl, Nat.le_of_ble_eq_true rfl⟩ dX5_refusalOfAside_34) (fun H locs hw => ?_)
      exact x_iret F hw hr hk hf dX5_refusalOfAside_37
    · have hf := it_t hf c5
      refine lv_bipush (v := (-4)) hx hb dX5_refusalOfAside_23 (by decide) ?_
      refine lv_goto (tgt := 37) hx hb dX5_refusalOfAside_25 (by decide) ?_
      exact x_iret F hw hr hk hf dX5_refusalOfAside_37
  · have hf := it_t hf c4
    refine lv_iconst (v := (-1)) hx hb dX5_refusalOfAside_11 (by decide) ?_
    exact x_iret F hw hr hk hf dX5_refusalOfAside_12
theorem dX5_lay_0 : decode cX5_lay 0 = .ok (.aload_n 0, 1) := by decide +kernel
theorem dX5_lay_1 : decode cX5_lay 1 = .ok (.aload_n 0, 1) := by decide +kernel
theorem dX5_lay_2 : decode cX5_lay 2 = .ok (.getfield 14, 3) := by decide +kernel
theorem dX5_lay_5 : decode cX5_lay 5 = .ok (.iload_n 1, 1) := by decide +kernel
theorem dX5_lay_6 : decode cX5_lay 6 = .ok (.iload_n 2, 1) := by decide +kernel
theorem dX5_lay_7 : decode cX5_lay 7 = .ok (.invokevirtual 76, 3) := by decide +kernel
theorem dX5_lay_10 : decode cX5_lay 10 = .ok (.istore 4, 2) := by decide +kernel
theorem dX5_lay_12 : decode cX5_lay 12 = .ok (.iload 4, 2) := by decide +kernel
theorem dX5_lay_14 : decode cX5_lay 14 = .ok (.ifCond .eq 6, 3) := by decide +kernel
theorem dX5_lay_17 : decode cX5_lay 17 = .ok (.iload 4, 2) := by decide +kernel
theorem dX5_lay_19 : decode cX5_lay 19 = .ok (.ireturn, 1) := by decide +kernel
theorem dX5_lay_20 : decode cX5_lay 20 = .ok (.aload_n 0, 1) := by decide +kernel
theorem dX5_lay_21 : decode cX5_lay 21 = .ok (.aload_n 0, 1) := by decide +kernel
theorem dX5_lay_22 : decode cX5_lay 22 = .ok (.getfield 14, 3) := by decide +kernel
theorem dX5_lay_25 : decode cX5_lay 25 = .ok (.iload_n 1, 1) := by decide +kernel
theorem dX5_lay_26 : decode cX5_lay 26 = .ok (.iload_n 2, 1) := by decide +kernel
theorem dX5_lay_27 : decode cX5_lay 27 = .ok (.invokevirtual 80, 3) := by decide +kernel
theorem dX5_lay_30 : decode cX5_lay 30 = .ok (.putfield 54, 3) := by decide +kernel
theorem dX5_lay_33 : decode cX5_lay 33 = .ok (.aload_n 0, 1) := by decide +kernel
theorem dX5_lay_34 : decode cX5_lay 34 = .ok (.getfield 14, 3) := by decide +kernel
theorem dX5_lay_37 : decode cX5_lay 37 = .ok (.iload_n 1, 1) := by decide +kernel
theorem dX5_lay_38 : decode cX5_lay 38 = .ok (.iload_n 2, 1) := by decide +kernel
theorem dX5_lay_39 : decode cX5_lay 39 = .ok (.iload_n 3, 1) := by decide +kernel
theorem dX5_lay_40 : decode cX5_lay 40 = .ok (.invokevirtual 84, 3) := by decide +kernel
theorem dX5_lay_43 : decode cX5_lay 43 = .ok (.iconst 1, 1) := by decide +kernel
theorem dX5_lay_44 : decode cX5_lay 44 = .ok (.ireturn, 1) := by decide +kernel
def p5_lay (a1 : Int32) (a2 : Int32) (a3 : Int32) (M : SX) : Option (Int32 × SX) :=
  bd (p5_refusalOfPlace 1 a1 a2 M) (fun r3 M2 => if r3 = 0 then (bd (p4_valueAt 1 a1 a2 M2) (fun r7 M6 => lt_ (wI M6 0 8 r7) (fun M8 => bv (p4_setValue 1 a1 a2 a3 M8) (fun M10 => some (1, M10)))))
  else (some (r3, M2)))
set_option maxHeartbeats 4000000 in
set_option maxRecDepth 100000 in
theorem c5_lay {l : Launch} {G : XG} {r : Int32} {M' : SX} {M : SX} (a1 : Int32) (a2 : Int32) (a3 : Int32) (hf : p5_lay a1 a2 a3 M = some (r, M')) : Met l yX5_lay (.code yX5_lay cX5_lay 5 (some .int) :: TBL) (rmX 3) (xPc G ZX M [.ref (G.2.1 0), .int a1, .int a2, .int a3]) (xQi G ZX r M') 0 0 (inA G ZX) := by
  refine x_met (cc := cX5_lay) (by decide) (Nat.le_of_ble_eq_true rfl) ?_
  intro p e s m below meth c ls F hr hk hl hw
  have F : Fx G ZX p m c cX5_lay 5 s [.ref (G.2.1 0), .int a1, .int a2, .int a3].toArray RX5 := F
  have hl : lv_has ls 5 [(0, .ref (G.2.1 0)), (1, .int a1), (2, .int a2), (3, .int a3)] := hl
  have hx := F.1.1
  have hb := F.1.2.1
  unfold p5_lay at hf
  refine lv_aload_n hx hb dX5_lay_0 rfl (lv_at hl 0 rfl) ?_
  refine lv_aload_n hx hb dX5_lay_1 rfl (lv_at hl 0 rfl) ?_
  refine g5_0 F hw tw_334 dX5_lay_2 ?_
  refine lv_iload_n hx hb dX5_lay_5 rfl (lv_at hl 1 rfl) ?_
  refine lv_iload_n hx hb dX5_lay_6 rfl (lv_at hl 2 rfl) ?_
  obtain ⟨r3, M2, hc1, hf⟩ := bd_some hf
  refine x_aftI hw (x_runV (rest := []) F hw hl.1 vw_RX5_76 (sP) rfl (c5_refusalOfPlace 1 isS_1 a1 a2 hc1) rfl rfl (Nat.le_of_ble_eq_true rfl) ⟨Nat.le_of_ble_eq_true rfl, Nat.le_of_ble_eq_true rfl⟩ dX5_lay_7) (fun H locs hw => ?_)
  refine lv_istore (lv' := [(4, .int r3), (0, .ref (G.2.1 0)), (1, .int a1), (2, .int a2), (3, .int a3)]) hx hb dX5_lay_10 hl (by decide) rfl (fun ls hl => ?_)
  refine lv_iload hx hb dX5_lay_12 (lv_at hl 0 rfl) ?_
  refine lv_if_eq (tgt := 20) hx hb dX5_lay_14 (by decide) (fun c4 => ?_) (fun c4 => ?_)
  · have hf := it_t hf c4
    refine lv_aload_n hx hb dX5_lay_20 rfl (lv_at hl 1 rfl) ?_
    refine lv_aload_n hx hb dX5_lay_21 rfl (lv_at hl 1 rfl) ?_
    refine g5_0 F hw tw_334 dX5_lay_22 ?_
    refine lv_iload_n hx hb dX5_lay_25 rfl (lv_at hl 2 rfl) ?_
    refine lv_iload_n hx hb dX5_lay_26 rfl (lv_at hl 3 rfl) ?_
    obtain ⟨r7, M6, hc5, hf⟩ := bd_some hf
    refine x_aftI hw (x_runV (rest := [.ref (G.2.1 0)]) F hw hl.1 vw_RX5_80 (sS isS_1) rfl (c4_valueAt 1 isS_1 a1 a2 hc5) rfl rfl (Nat.le_of_ble_eq_true rfl) ⟨Nat.le_of_ble_eq_true rfl, Nat.le_of_ble_eq_true rfl⟩ dX5_lay_27) (fun H locs hw => ?_)
    refine s5_8 F hw tw_299 dX5_lay_30 (fun H locs hw => ?_)
    obtain ⟨M8, eM8, hf⟩ := lt_elim hf
    rw [← eM8] at hw
    refine lv_aload_n hx hb dX5_lay_33 rfl (lv_at hl 1 rfl) ?_
    refine g5_0 F hw tw_334 dX5_lay_34 ?_
    refine lv_iload_n hx hb dX5_lay_37 rfl (lv_at hl 2 rfl) ?_
    refine lv_iload_n hx hb dX5_lay_38 rfl (lv_at hl 3 rfl) ?_
    refine lv_iload_n hx hb dX5_lay_39 rfl (lv_at hl 4 rfl) ?_
    obtain ⟨M10, hc9, hf⟩ := bv_some hf
    refine x_aftV hw (x_runV (rest := []) F hw hl.1 vw_RX5_84 (sS isS_1) rfl (c4_setValue 1 isS_1 a1 a2 a3 hc9) rfl rfl (Nat.le_of_ble_eq_true rfl) ⟨Nat.le_of_ble_eq_true rfl, Nat.le_of_ble_eq_true rfl⟩ dX5_lay_40) (fun H locs hw => ?_)
    refine lv_iconst (v := 1) hx hb dX5_lay_43 (by decide) ?_
    exact x_iret F hw hr hk hf dX5_lay_44
  · have hf := it_f hf c4
    refine lv_iload hx hb dX5_lay_17 (lv_at hl 0 rfl) ?_
    exact x_iret F hw hr hk hf dX5_lay_19
theorem dX5_at_0 : decode cX5_at 0 = .ok (.aload_n 0, 1) := by decide +kernel
theorem dX5_at_1 : decode cX5_at 1 = .ok (.aload_n 0, 1) := by decide +kernel
theorem dX5_at_2 : decode cX5_at 2 = .ok (.getfield 14, 3) := by decide +kernel
theorem dX5_at_5 : decode cX5_at 5 = .ok (.iload_n 1, 1) := by decide +kernel
theorem dX5_at_6 : decode cX5_at 6 = .ok (.iload_n 2, 1) := by decide +kernel
theorem dX5_at_7 : decode cX5_at 7 = .ok (.invokevirtual 76, 3) := by decide +kernel
theorem dX5_at_10 : decode cX5_at 10 = .ok (.istore_n 3, 1) := by decide +kernel
theorem dX5_at_11 : decode cX5_at 11 = .ok (.iload_n 3, 1) := by decide +kernel
theorem dX5_at_12 : decode cX5_at 12 = .ok (.ifCond .eq 5, 3) := by decide +kernel
theorem dX5_at_15 : decode cX5_at 15 = .ok (.iload_n 3, 1) := by decide +kernel
theorem dX5_at_16 : decode cX5_at 16 = .ok (.ireturn, 1) := by decide +kernel
theorem dX5_at_17 : decode cX5_at 17 = .ok (.aload_n 0, 1) := by decide +kernel
theorem dX5_at_18 : decode cX5_at 18 = .ok (.aload_n 0, 1) := by decide +kernel
theorem dX5_at_19 : decode cX5_at 19 = .ok (.getfield 14, 3) := by decide +kernel
theorem dX5_at_22 : decode cX5_at 22 = .ok (.iload_n 1, 1) := by decide +kernel
theorem dX5_at_23 : decode cX5_at 23 = .ok (.iload_n 2, 1) := by decide +kernel
theorem dX5_at_24 : decode cX5_at 24 = .ok (.invokevirtual 80, 3) := by decide +kernel
theorem dX5_at_27 : decode cX5_at 27 = .ok (.putfield 54, 3) := by decide +kernel
theorem dX5_at_30 : decode cX5_at 30 = .ok (.iconst 1, 1) := by decide +kernel
theorem dX5_at_31 : decode cX5_at 31 = .ok (.ireturn, 1) := by decide +kernel
def p5_at (a1 : Int32) (a2 : Int32) (M : SX) : Option (Int32 × SX) :=
  bd (p5_refusalOfPlace 1 a1 a2 M) (fun r3 M2 => if r3 = 0 then (bd (p4_valueAt 1 a1 a2 M2) (fun r7 M6 => lt_ (wI M6 0 8 r7) (fun M8 => some (1, M8))))
  else (some (r3, M2)))
set_option maxHeartbeats 4000000 in
set_option maxRecDepth 100000 in
theorem c5_at {l : Launch} {G : XG} {r : Int32} {M' : SX} {M : SX} (a1 : Int32) (a2 : Int32) (hf : p5_at a1 a2 M = some (r, M')) : Met l yX5_at (.code yX5_at cX5_at 4 (some .int) :: TBL) (rmX 3) (xPc G ZX M [.ref (G.2.1 0), .int a1, .int a2]) (xQi G ZX r M') 0 0 (inA G ZX) := by
  refine x_met (cc := cX5_at) (by decide) (Nat.le_of_ble_eq_true rfl) ?_
  intro p e s m below meth c ls F hr hk hl hw
  have F : Fx G ZX p m c cX5_at 4 s [.ref (G.2.1 0), .int a1, .int a2].toArray RX5 := F
  have hl : lv_has ls 4 [(0, .ref (G.2.1 0)), (1, .int a1), (2, .int a2)] := hl
  have hx := F.1.1
  have hb := F.1.2.1
  unfold p5_at at hf
  refine lv_aload_n hx hb dX5_at_0 rfl (lv_at hl 0 rfl) ?_
  refine lv_aload_n hx hb dX5_at_1 rfl (lv_at hl 0 rfl) ?_
  refine g5_0 F hw tw_334 dX5_at_2 ?_
  refine lv_iload_n hx hb dX5_at_5 rfl (lv_at hl 1 rfl) ?_
  refine lv_iload_n hx hb dX5_at_6 rfl (lv_at hl 2 rfl) ?_
  obtain ⟨r3, M2, hc1, hf⟩ := bd_some hf
  refine x_aftI hw (x_runV (rest := []) F hw hl.1 vw_RX5_76 (sP) rfl (c5_refusalOfPlace 1 isS_1 a1 a2 hc1) rfl rfl (Nat.le_of_ble_eq_true rfl) ⟨Nat.le_of_ble_eq_true rfl, Nat.le_of_ble_eq_true rfl⟩ dX5_at_7) (fun H locs hw => ?_)
  refine lv_istore_n (lv' := [(3, .int r3), (0, .ref (G.2.1 0)), (1, .int a1), (2, .int a2)]) hx hb dX5_at_10 rfl hl (by decide) rfl (fun ls hl => ?_)
  refine lv_iload_n hx hb dX5_at_11 rfl (lv_at hl 0 rfl) ?_
  refine lv_if_eq (tgt := 17) hx hb dX5_at_12 (by decide) (fun c4 => ?_) (fun c4 => ?_)
  · have hf := it_t hf c4
    refine lv_aload_n hx hb dX5_at_17 rfl (lv_at hl 1 rfl) ?_
    refine lv_aload_n hx hb dX5_at_18 rfl (lv_at hl 1 rfl) ?_
    refine g5_0 F hw tw_334 dX5_at_19 ?_
    refine lv_iload_n hx hb dX5_at_22 rfl (lv_at hl 2 rfl) ?_
    refine lv_iload_n hx hb dX5_at_23 rfl (lv_at hl 3 rfl) ?_
    obtain ⟨r7, M6, hc5, hf⟩ := bd_some hf
    refine x_aftI hw (x_runV (rest := [.ref (G.2.1 0)]) F hw hl.1 vw_RX5_80 (sS isS_1) rfl (c4_valueAt 1 isS_1 a1 a2 hc5) rfl rfl (Nat.le_of_ble_eq_true rfl) ⟨Nat.le_of_ble_eq_true rfl, Nat.le_of_ble_eq_true rfl⟩ dX5_at_24) (fun H locs hw => ?_)
    refine s5_8 F hw tw_299 dX5_at_27 (fun H locs hw => ?_)
    obtain ⟨M8, eM8, hf⟩ := lt_elim hf
    rw [← eM8] at hw
    refine lv_iconst (v := 1) hx hb dX5_at_30 (by decide) ?_
    exact x_iret F hw hr hk hf dX5_at_31
  · have hf := it_f hf c4
    refine lv_iload_n hx hb dX5_at_15 rfl (lv_at hl 0 rfl) ?_
    exact x_iret F hw hr hk hf dX5_at_16
theorem dX5_put_0 : decode cX5_put 0 = .ok (.aload_n 0, 1) := by decide +kernel
theorem dX5_put_1 : decode cX5_put 1 = .ok (.aload_n 0, 1) := by decide +kernel
theorem dX5_put_2 : decode cX5_put 2 = .ok (.getfield 18, 3) := by decide +kernel
theorem dX5_put_5 : decode cX5_put 5 = .ok (.iload_n 1, 1) := by decide +kernel
theorem dX5_put_6 : decode cX5_put 6 = .ok (.iload_n 2, 1) := by decide +kernel
theorem dX5_put_7 : decode cX5_put 7 = .ok (.invokevirtual 76, 3) := by decide +kernel
theorem dX5_put_10 : decode cX5_put 10 = .ok (.istore 4, 2) := by decide +kernel
theorem dX5_put_12 : decode cX5_put 12 = .ok (.iload 4, 2) := by decide +kernel
theorem dX5_put_14 : decode cX5_put 14 = .ok (.ifCond .eq 6, 3) := by decide +kernel
theorem dX5_put_17 : decode cX5_put 17 = .ok (.iload 4, 2) := by decide +kernel
theorem dX5_put_19 : decode cX5_put 19 = .ok (.ireturn, 1) := by decide +kernel
theorem dX5_put_20 : decode cX5_put 20 = .ok (.aload_n 0, 1) := by decide +kernel
theorem dX5_put_21 : decode cX5_put 21 = .ok (.getfield 18, 3) := by decide +kernel
theorem dX5_put_24 : decode cX5_put 24 = .ok (.iload_n 1, 1) := by decide +kernel
theorem dX5_put_25 : decode cX5_put 25 = .ok (.iload_n 2, 1) := by decide +kernel
theorem dX5_put_26 : decode cX5_put 26 = .ok (.invokevirtual 80, 3) := by decide +kernel
theorem dX5_put_29 : decode cX5_put 29 = .ok (.istore 5, 2) := by decide +kernel
theorem dX5_put_31 : decode cX5_put 31 = .ok (.aload_n 0, 1) := by decide +kernel
theorem dX5_put_32 : decode cX5_put 32 = .ok (.getfield 18, 3) := by decide +kernel
theorem dX5_put_35 : decode cX5_put 35 = .ok (.iload_n 1, 1) := by decide +kernel
theorem dX5_put_36 : decode cX5_put 36 = .ok (.iload_n 2, 1) := by decide +kernel
theorem dX5_put_37 : decode cX5_put 37 = .ok (.iload_n 3, 1) := by decide +kernel
theorem dX5_put_38 : decode cX5_put 38 = .ok (.i2b, 1) := by decide +kernel
theorem dX5_put_39 : decode cX5_put 39 = .ok (.invokevirtual 84, 3) := by decide +kernel
theorem dX5_put_42 : decode cX5_put 42 = .ok (.iload 5, 2) := by decide +kernel
theorem dX5_put_44 : decode cX5_put 44 = .ok (.sipush 1000, 3) := by decide +kernel
theorem dX5_put_47 : decode cX5_put 47 = .ok (.iadd, 1) := by decide +kernel
theorem dX5_put_48 : decode cX5_put 48 = .ok (.ireturn, 1) := by decide +kernel
def p5_put (a1 : Int32) (a2 : Int32) (a3 : Int32) (M : SX) : Option (Int32 × SX) :=
  bd (p5_refusalOfPlace 4 a1 a2 M) (fun r3 M2 => if r3 = 0 then (bd (p4_valueAt 4 a1 a2 M2) (fun r7 M6 => bv (p4_setValue 4 a1 a2 ((Int32.toInt8 a3).toInt32) M6) (fun M9 => some (r7 + 1000, M9))))
  else (some (r3, M2)))
set_option maxHeartbeats 4000000 in
set_option maxRecDepth 100000 in
theorem c5_put {l : Launch} {G : XG} {r : Int32} {M' : SX} {M : SX} (a1 : Int32) (a2 : Int32) (a3 : Int32) (hf : p5_put a1 a2 a3 M = some (r, M')) : Met l yX5_put (.code yX5_put cX5_put 6 (some .int) :: TBL) (rmX 3) (xPc G ZX M [.ref (G.2.1 0), .int a1, .int a2, .int a3]) (xQi G ZX r M') 0 0 (inA G ZX) := by
  refine x_met (cc := cX5_put) (by decide) (Nat.le_of_ble_eq_true rfl) ?_
  intro p e s m below meth c ls F hr hk hl hw
  have F : Fx G ZX p m c cX5_put 6 s [.ref (G.2.1 0), .int a1, .int a2, .int a3].toArray RX5 := F
  have hl : lv_has ls 6 [(0, .ref (G.2.1 0)), (1, .int a1), (2, .int a2), (3, .int a3)] := hl
  have hx := F.1.1
  have hb := F.1.2.1
  unfold p5_put at hf
  refine lv_aload_n hx hb dX5_put_0 rfl (lv_at hl 0 rfl) ?_
  refine lv_aload_n hx hb dX5_put_1 rfl (lv_at hl 0 rfl) ?_
  refine g5_1 F hw tw_367 dX5_put_2 ?_
  refine lv_iload_n hx hb dX5_put_5 rfl (lv_at hl 1 rfl) ?_
  refine lv_iload_n hx hb dX5_put_6 rfl (lv_at hl 2 rfl) ?_
  obtain ⟨r3, M2, hc1, hf⟩ := bd_some hf
  refine x_aftI hw (x_runV (rest := []) F hw hl.1 vw_RX5_76 (sP) rfl (c5_refusalOfPlace 4 isS_4 a1 a2 hc1) rfl rfl (Nat.le_of_ble_eq_true rfl) ⟨Nat.le_of_ble_eq_true rfl, Nat.le_of_ble_eq_true rfl⟩ dX5_put_7) (fun H locs hw => ?_)
  refine lv_istore (lv' := [(4, .int r3), (0, .ref (G.2.1 0)), (1, .int a1), (2, .int a2), (3, .int a3)]) hx hb dX5_put_10 hl (by decide) rfl (fun ls hl => ?_)
  refine lv_iload hx hb dX5_put_12 (lv_at hl 0 rfl) ?_
  refine lv_if_eq (tgt := 20) hx hb dX5_put_14 (by decide) (fun c4 => ?_) (fun c4 => ?_)
  · have hf := it_t hf c4
    refine lv_aload_n hx hb dX5_put_20 rfl (lv_at hl 1 rfl) ?_
    refine g5_1 F hw tw_367 dX5_put_21 ?_
    refine lv_iload_n hx hb dX5_put_24 rfl (lv_at hl 2 rfl) ?_
    refine lv_iload_n hx hb dX5_put_25 rfl (lv_at hl 3 rfl) ?_
    obtain ⟨r7, M6, hc5, hf⟩ := bd_some hf
    refine x_aftI hw (x_runV (rest := []) F hw hl.1 vw_RX5_80 (sS isS_4) rfl (c4_valueAt 4 isS_4 a1 a2 hc5) rfl rfl (Nat.le_of_ble_eq_true rfl) ⟨Nat.le_of_ble_eq_true rfl, Nat.le_of_ble_eq_true rfl⟩ dX5_put_26) (fun H locs hw => ?_)
    refine lv_istore (lv' := [(5, .int r7), (4, .int r3), (0, .ref (G.2.1 0)), (1, .int a1), (2, .int a2), (3, .int a3)]) hx hb dX5_put_29 hl (by decide) rfl (fun ls hl => ?_)
    refine lv_aload_n hx hb dX5_put_31 rfl (lv_at hl 2 rfl) ?_
    refine g5_1 F hw tw_367 dX5_put_32 ?_
    refine lv_iload_n hx hb dX5_put_35 rfl (lv_at hl 3 rfl) ?_
    refine lv_iload_n hx hb dX5_put_36 rfl (lv_at hl 4 rfl) ?_
    refine lv_iload_n hx hb dX5_put_37 rfl (lv_at hl 5 rfl) ?_
    refine lv_i2b (v := (Int32.toInt8 a3).toInt32) hx hb dX5_put_38 rfl ?_
    obtain ⟨M9, hc8, hf⟩ := bv_some hf
    refine x_aftV hw (x_runV (rest := []) F hw hl.1 vw_RX5_84 (sS isS_4) rfl (c4_setValue 4 isS_4 a1 a2 ((Int32.toInt8 a3).toInt32) hc8) rfl rfl (Nat.le_of_ble_eq_true rfl) ⟨Nat.le_of_ble_eq_true rfl, Nat.le_of_ble_eq_true rfl⟩ dX5_put_39) (fun H locs hw => ?_)
    refine lv_iload hx hb dX5_put_42 (lv_at hl 0 rfl) ?_
    refine lv_sipush (v := 1000) hx hb dX5_put_44 (by decide) ?_
    refine lv_iadd hx hb dX5_put_47 ?_
    exact x_iret F hw hr hk hf dX5_put_48
  · have hf := it_f hf c4
    refine lv_iload hx hb dX5_put_17 (lv_at hl 0 rfl) ?_
    exact x_iret F hw hr hk hf dX5_put_19
theorem dX5_pawn_0 : decode cX5_pawn 0 = .ok (.aload_n 0, 1) := by decide +kernel
theorem dX5_pawn_1 : decode cX5_pawn 1 = .ok (.getfield 31, 3) := by decide +kernel
theorem dX5_pawn_4 : decode cX5_pawn 4 = .ok (.iload_n 1, 1) := by decide +kernel
theorem dX5_pawn_5 : decode cX5_pawn 5 = .ok (.invokevirtual 129, 3) := by decide +kernel
theorem dX5_pawn_8 : decode cX5_pawn 8 = .ok (.ifCond .eq 30, 3) := by decide +kernel
theorem dX5_pawn_11 : decode cX5_pawn 11 = .ok (.aload_n 0, 1) := by decide +kernel
theorem dX5_pawn_12 : decode cX5_pawn 12 = .ok (.getfield 31, 3) := by decide +kernel
theorem dX5_pawn_15 : decode cX5_pawn 15 = .ok (.iload_n 2, 1) := by decide +kernel
theorem dX5_pawn_16 : decode cX5_pawn 16 = .ok (.invokevirtual 129, 3) := by decide +kernel
theorem dX5_pawn_19 : decode cX5_pawn 19 = .ok (.ifCond .eq 19, 3) := by decide +kernel
theorem dX5_pawn_22 : decode cX5_pawn 22 = .ok (.iload_n 1, 1) := by decide +kernel
theorem dX5_pawn_23 : decode cX5_pawn 23 = .ok (.iload_n 2, 1) := by decide +kernel
theorem dX5_pawn_24 : decode cX5_pawn 24 = .ok (.if_icmp .eq 14, 3) := by decide +kernel
theorem dX5_pawn_27 : decode cX5_pawn 27 = .ok (.iload_n 3, 1) := by decide +kernel
theorem dX5_pawn_28 : decode cX5_pawn 28 = .ok (.iconst 1, 1) := by decide +kernel
theorem dX5_pawn_29 : decode cX5_pawn 29 = .ok (.if_icmp .lt 9, 3) := by decide +kernel
theorem dX5_pawn_32 : decode cX5_pawn 32 = .ok (.iload_n 3, 1) := by decide +kernel
theorem dX5_pawn_33 : decode cX5_pawn 33 = .ok (.bipush 9, 2) := by decide +kernel
theorem dX5_pawn_35 : decode cX5_pawn 35 = .ok (.if_icmp .le 5, 3) := by decide +kernel
theorem dX5_pawn_38 : decode cX5_pawn 38 = .ok (.iconst (-1), 1) := by decide +kernel
theorem dX5_pawn_39 : decode cX5_pawn 39 = .ok (.ireturn, 1) := by decide +kernel
theorem dX5_pawn_40 : decode cX5_pawn 40 = .ok (.aload_n 0, 1) := by decide +kernel
theorem dX5_pawn_41 : decode cX5_pawn 41 = .ok (.getfield 31, 3) := by decide +kernel
theorem dX5_pawn_44 : decode cX5_pawn 44 = .ok (.iload_n 1, 1) := by decide +kernel
theorem dX5_pawn_45 : decode cX5_pawn 45 = .ok (.iload_n 2, 1) := by decide +kernel
theorem dX5_pawn_46 : decode cX5_pawn 46 = .ok (.iload_n 3, 1) := by decide +kernel
theorem dX5_pawn_47 : decode cX5_pawn 47 = .ok (.invokevirtual 184, 3) := by decide +kernel
theorem dX5_pawn_50 : decode cX5_pawn 50 = .ok (.ifCond .ne 6, 3) := by decide +kernel
theorem dX5_pawn_53 : decode cX5_pawn 53 = .ok (.bipush (-4), 2) := by decide +kernel
theorem dX5_pawn_55 : decode cX5_pawn 55 = .ok (.ireturn, 1) := by decide +kernel
theorem dX5_pawn_56 : decode cX5_pawn 56 = .ok (.aload_n 0, 1) := by decide +kernel
theorem dX5_pawn_57 : decode cX5_pawn 57 = .ok (.getfield 31, 3) := by decide +kernel
theorem dX5_pawn_60 : decode cX5_pawn 60 = .ok (.getfield 163, 3) := by decide +kernel
theorem dX5_pawn_63 : decode cX5_pawn 63 = .ok (.iconst 1, 1) := by decide +kernel
theorem dX5_pawn_64 : decode cX5_pawn 64 = .ok (.invokevirtual 178, 3) := by decide +kernel
theorem dX5_pawn_67 : decode cX5_pawn 67 = .ok (.ifCond .ne 6, 3) := by decide +kernel
theorem dX5_pawn_70 : decode cX5_pawn 70 = .ok (.bipush (-2), 2) := by decide +kernel
theorem dX5_pawn_72 : decode cX5_pawn 72 = .ok (.ireturn, 1) := by decide +kernel
theorem dX5_pawn_73 : decode cX5_pawn 73 = .ok (.aload_n 0, 1) := by decide +kernel
theorem dX5_pawn_74 : decode cX5_pawn 74 = .ok (.getfield 31, 3) := by decide +kernel
theorem dX5_pawn_77 : decode cX5_pawn 77 = .ok (.iload_n 1, 1) := by decide +kernel
theorem dX5_pawn_78 : decode cX5_pawn 78 = .ok (.iload_n 2, 1) := by decide +kernel
theorem dX5_pawn_79 : decode cX5_pawn 79 = .ok (.iload_n 3, 1) := by decide +kernel
theorem dX5_pawn_80 : decode cX5_pawn 80 = .ok (.invokevirtual 187, 3) := by decide +kernel
theorem dX5_pawn_83 : decode cX5_pawn 83 = .ok (.aload_n 0, 1) := by decide +kernel
theorem dX5_pawn_84 : decode cX5_pawn 84 = .ok (.getfield 31, 3) := by decide +kernel
theorem dX5_pawn_87 : decode cX5_pawn 87 = .ok (.invokevirtual 190, 3) := by decide +kernel
theorem dX5_pawn_90 : decode cX5_pawn 90 = .ok (.invokestatic 151, 3) := by decide +kernel
theorem dX5_pawn_93 : decode cX5_pawn 93 = .ok (.ireturn, 1) := by decide +kernel
def p5_pawn (a1 : Int32) (a2 : Int32) (a3 : Int32) (M : SX) : Option (Int32 × SX) :=
  bd (p1_isShop 17 a1 M) (fun r3 M2 => if r3 = 0 then (some ((-1), M2))
  else (bd (p1_isShop 17 a2 M2) (fun r7 M6 => if r7 = 0 then (some ((-1), M6))
  else (if a1 = a2 then (some ((-1), M6))
  else (if a3 < (1 : Int32) then (some ((-1), M6))
  else (if a3 ≤ (9 : Int32) then (bd (p1_canPawn 17 a1 a2 a3 M6) (fun r14 M13 => if r14 = 0 then (some ((-4), M13))
  else (bd (p0_hasRoom (17 + 7) 1 M13) (fun r18 M17 => if r18 = 0 then (some ((-2), M17))
  else (bv (p1_doPawn 17 a1 a2 a3 M17) (fun M21 => bd (p1_pawnedSet 17 M21) (fun r24 M23 => bd (pj_bits r24 M23) (fun r27 M26 => some (r27, M26)))))))))
  else (some ((-1), M6))))))))
set_option maxHeartbeats 4000000 in
set_option maxRecDepth 100000 in
theorem c5_pawn {l : Launch} {G : XG} {r : Int32} {M' : SX} {M : SX} (a1 : Int32) (a2 : Int32) (a3 : Int32) (hf : p5_pawn a1 a2 a3 M = some (r, M')) : Met l yX5_pawn (.code yX5_pawn cX5_pawn 4 (some .int) :: TBL) (rmX 3) (xPc G ZX M [.ref (G.2.1 0), .int a1, .int a2, .int a3]) (xQi G ZX r M') 0 0 (inA G ZX) := by
  refine x_met (cc := cX5_pawn) (by decide) (Nat.le_of_ble_eq_true rfl) ?_
  intro p e s m below meth c ls F hr hk hl hw
  have F : Fx G ZX p m c cX5_pawn 4 s [.ref (G.2.1 0), .int a1, .int a2, .int a3].toArray RX5 := F
  have hl : lv_has ls 4 [(0, .ref (G.2.1 0)), (1, .int a1), (2, .int a2), (3, .int a3)] := hl
  have hx := F.1.1
  have hb := F.1.2.1
  unfold p5_pawn at hf
  refine lv_aload_n hx hb dX5_pawn_0 rfl (lv_at hl 0 rfl) ?_
  refine g5_3 F hw tw_306 dX5_pawn_1 ?_
  refine lv_iload_n hx hb dX5_pawn_4 rfl (lv_at hl 1 rfl) ?_
  obtain ⟨r3, M2, hc1, hf⟩ := bd_some hf
  refine x_aftI hw (x_runV (rest := []) F hw hl.1 vw_RX5_129 (sL isL_17) rfl (c1_isShop 17 isL_17 a1 hc1) rfl rfl (Nat.le_of_ble_eq_true rfl) ⟨Nat.le_of_ble_eq_true rfl, Nat.le_of_ble_eq_true rfl⟩ dX5_pawn_5) (fun H locs hw => ?_)
  refine lv_if_eq (tgt := 38) hx hb dX5_pawn_8 (by decide) (fun c4 => ?_) (fun c4 => ?_)
  · have hf := it_t hf c4
    refine lv_iconst (v := (-1)) hx hb dX5_pawn_38 (by decide) ?_
    exact x_iret F hw hr hk hf dX5_pawn_39
  · have hf := it_f hf c4
    refine lv_aload_n hx hb dX5_pawn_11 rfl (lv_at hl 0 rfl) ?_
    refine g5_3 F hw tw_306 dX5_pawn_12 ?_
    refine lv_iload_n hx hb dX5_pawn_15 rfl (lv_at hl 2 rfl) ?_
    obtain ⟨r7, M6, hc5, hf⟩ := bd_some hf
    refine x_aftI hw (x_runV (rest := []) F hw hl.1 vw_RX5_129 (sL isL_17) rfl (c1_isShop 17 isL_17 a2 hc5) rfl rfl (Nat.le_of_ble_eq_true rfl) ⟨Nat.le_of_ble_eq_true rfl, Nat.le_of_ble_eq_true rfl⟩ dX5_pawn_16) (fun H locs hw => ?_)
    refine lv_if_eq (tgt := 38) hx hb dX5_pawn_19 (by decide) (fun c8 => ?_) (fun c8 => ?_)
    · have hf := it_t hf c8
      refine lv_iconst (v := (-1)) hx hb dX5_pawn_38 (by decide) ?_
      exact x_iret F hw hr hk hf dX5_pawn_39
    · have hf := it_f hf c8
      refine lv_iload_n hx hb dX5_pawn_22 rfl (lv_at hl 1 rfl) ?_
      refine lv_iload_n hx hb dX5_pawn_23 rfl (lv_at hl 2 rfl) ?_
      refine lv_icmp_eq (tgt := 38) hx hb dX5_pawn_24 (by decide) (fun c9 => ?_) (fun c9 => ?_)
      · have hf := it_t hf c9
        refine lv_iconst (v := (-1)) hx hb dX5_pawn_38 (by decide) ?_
        exact x_iret F hw hr hk hf dX5_pawn_39
      · have hf := it_f hf c9
        refine lv_iload_n hx hb dX5_pawn_27 rfl (lv_at hl 3 rfl) ?_
        refine lv_iconst (v := 1) hx hb dX5_pawn_28 (by decide) ?_
        refine lv_icmp_lt (tgt := 38) hx hb dX5_pawn_29 (by decide) (fun c10 => ?_) (fun c10 => ?_)
        · have hf := it_t hf c10
          refine lv_iconst (v := (-1)) hx hb dX5_pawn_38 (by decide) ?_
          exact x_iret F hw hr hk hf dX5_pawn_39
        · have hf := it_f hf c10
          refine lv_iload_n hx hb dX5_pawn_32 rfl (lv_at hl 3 rfl) ?_
          refine lv_bipush (v := 9) hx hb dX5_pawn_33 (by decide) ?_
          refine lv_icmp_le (tgt := 40) hx hb dX5_pawn_35 (by decide) (fun c11 => ?_) (fun c11 => ?_)
          · have hf := it_t hf c11
            refine lv_aload_n hx hb dX5_pawn_40 rfl (lv_at hl 0 rfl) ?_
            refine g5_3 F hw tw_306 dX5_pawn_41 ?_
            refine lv_iload_n hx hb dX5_pawn_44 rfl (lv_at hl 1 rfl) ?_
            refine lv_iload_n hx hb dX5_pawn_45 rfl (lv_at hl 2 rfl) ?_
            refine lv_iload_n hx hb dX5_pawn_46 rfl (lv_at hl 3 rfl) ?_
            obtain ⟨r14, M13, hc12, hf⟩ := bd_some hf
            refine x_aftI hw (x_runV (rest := []) F hw hl.1 vw_RX5_184 (sL isL_17) rfl (c1_canPawn 17 isL_17 a1 a2 a3 hc12) rfl rfl (Nat.le_of_ble_eq_true rfl) ⟨Nat.le_of_ble_eq_true rfl, Nat.le_of_ble_eq_true rfl⟩ dX5_pawn_47) (fun H locs hw => ?_)
            refine lv_if_ne (tgt := 56) hx hb dX5_pawn_50 (by decide) (fun c15 => ?_) (fun c15 => ?_)
            · have hf := it_f hf c15
              refine lv_aload_n hx hb dX5_pawn_56 rfl (lv_at hl 0 rfl) ?_
              refine g5_3 F hw tw_306 dX5_pawn_57 ?_
              refine g1_7 isL_17 F hw tw_309 dX5_pawn_60 ?_
              refine lv_iconst (v := 1) hx hb dX5_pawn_63 (by decide) ?_
              obtain ⟨r18, M17, hc16, hf⟩ := bd_some hf
              refine x_aftI hw (x_runV (rest := []) F hw hl.1 vw_RX5_178 (sD (isD_of isL_17)) rfl (c0_hasRoom (17 + 7) (isD_of isL_17) 1 hc16) rfl rfl (Nat.le_of_ble_eq_true rfl) ⟨Nat.le_of_ble_eq_true rfl, Nat.le_of_ble_eq_true rfl⟩ dX5_pawn_64) (fun H locs hw => ?_)
              refine lv_if_ne (tgt := 73) hx hb dX5_pawn_67 (by decide) (fun c19 => ?_) (fun c19 => ?_)
              · have hf := it_f hf c19
                refine lv_aload_n hx hb dX5_pawn_73 rfl (lv_at hl 0 rfl) ?_
                refine g5_3 F hw tw_306 dX5_pawn_74 ?_
                refine lv_iload_n hx hb dX5_pawn_77 rfl (lv_at hl 1 rfl) ?_
                refine lv_iload_n hx hb dX5_pawn_78 rfl (lv_at hl 2 rfl) ?_
                refine lv_iload_n hx hb dX5_pawn_79 rfl (lv_at hl 3 rfl) ?_
                obtain ⟨M21, hc20, hf⟩ := bv_some hf
                refine x_aftV hw (x_runV (rest := []) F hw hl.1 vw_RX5_187 (sL isL_17) rfl (c1_doPawn 17 isL_17 a1 a2 a3 hc20) rfl rfl (Nat.le_of_ble_eq_true rfl) ⟨Nat.le_of_ble_eq_true rfl, Nat.le_of_ble_eq_true rfl⟩ dX5_pawn_80) (fun H locs hw => ?_)
                refine lv_aload_n hx hb dX5_pawn_83 rfl (lv_at hl 0 rfl) ?_
                refine g5_3 F hw tw_306 dX5_pawn_84 ?_
                obtain ⟨r24, M23, hc22, hf⟩ := bd_some hf
                refine x_aftI hw (x_runV (rest := []) F hw hl.1 vw_RX5_190 (sL isL_17) rfl (c1_pawnedSet 17 isL_17 hc22) rfl rfl (Nat.le_of_ble_eq_true rfl) ⟨Nat.le_of_ble_eq_true rfl, Nat.le_of_ble_eq_true rfl⟩ dX5_pawn_87) (fun H locs hw => ?_)
                obtain ⟨r27, M26, hc25, hf⟩ := bd_some hf
                refine x_aftI hw (x_runS (rest := []) F hw hl.1 sw_RX5_151 (cj_bits r24 hc25) rfl rfl (Nat.le_of_ble_eq_true rfl) ⟨Nat.le_of_ble_eq_true rfl, Nat.le_of_ble_eq_true rfl⟩ dX5_pawn_90) (fun H locs hw => ?_)
                exact x_iret F hw hr hk hf dX5_pawn_93
              · have hf := it_t hf c19
                refine lv_bipush (v := (-2)) hx hb dX5_pawn_70 (by decide) ?_
                exact x_iret F hw hr hk hf dX5_pawn_72
            · have hf := it_t hf c15
              refine lv_bipush (v := (-4)) hx hb dX5_pawn_53 (by decide) ?_
              exact x_iret F hw hr hk hf dX5_pawn_55
          · have hf := it_f hf c11
            refine lv_iconst (v := (-1)) hx hb dX5_pawn_38 (by decide) ?_
            exact x_iret F hw hr hk hf dX5_pawn_39
theorem dX5_give_0 : decode cX5_give 0 = .ok (.aload_n 0, 1) := by decide +kernel
theorem dX5_give_1 : decode cX5_give 1 = .ok (.getfield 31, 3) := by decide +kernel
theorem dX5_give_4 : decode cX5_give 4 = .ok (.iload_n 1, 1) := by decide +kernel
theorem dX5_give_5 : decode cX5_give 5 = .ok (.invokevirtual 129, 3) := by decide +kernel
theorem dX5_give_8 : decode cX5_give 8 = .ok (.ifCond .eq 14, 3) := by decide +kernel
theorem dX5_give_11 : decode cX5_give 11 = .ok (.iload_n 2, 1) := by decide +kernel
theorem dX5_give_12 : decode cX5_give 12 = .ok (.iconst 1, 1) := by decide +kernel
theorem dX5_give_13 : decode cX5_give 13 = .ok (.if_icmp .lt 9, 3) := by decide +kernel
theorem dX5_give_16 : decode cX5_give 16 = .ok (.iload_n 2, 1) := by decide +kernel
theorem dX5_give_17 : decode cX5_give 17 = .ok (.bipush 99, 2) := by decide +kernel
theorem dX5_give_19 : decode cX5_give 19 = .ok (.if_icmp .le 5, 3) := by decide +kernel
theorem dX5_give_22 : decode cX5_give 22 = .ok (.iconst (-1), 1) := by decide +kernel
theorem dX5_give_23 : decode cX5_give 23 = .ok (.ireturn, 1) := by decide +kernel
theorem dX5_give_24 : decode cX5_give 24 = .ok (.aload_n 0, 1) := by decide +kernel
theorem dX5_give_25 : decode cX5_give 25 = .ok (.getfield 31, 3) := by decide +kernel
theorem dX5_give_28 : decode cX5_give 28 = .ok (.getfield 203, 3) := by decide +kernel
theorem dX5_give_31 : decode cX5_give 31 = .ok (.iload_n 1, 1) := by decide +kernel
theorem dX5_give_32 : decode cX5_give 32 = .ok (.iaload, 1) := by decide +kernel
theorem dX5_give_33 : decode cX5_give 33 = .ok (.iload_n 2, 1) := by decide +kernel
theorem dX5_give_34 : decode cX5_give 34 = .ok (.iadd, 1) := by decide +kernel
theorem dX5_give_35 : decode cX5_give 35 = .ok (.sipush 9999, 3) := by decide +kernel
theorem dX5_give_38 : decode cX5_give 38 = .ok (.if_icmp .le 6, 3) := by decide +kernel
theorem dX5_give_41 : decode cX5_give 41 = .ok (.bipush (-4), 2) := by decide +kernel
theorem dX5_give_43 : decode cX5_give 43 = .ok (.ireturn, 1) := by decide +kernel
theorem dX5_give_44 : decode cX5_give 44 = .ok (.aload_n 0, 1) := by decide +kernel
theorem dX5_give_45 : decode cX5_give 45 = .ok (.getfield 31, 3) := by decide +kernel
theorem dX5_give_48 : decode cX5_give 48 = .ok (.getfield 163, 3) := by decide +kernel
theorem dX5_give_51 : decode cX5_give 51 = .ok (.iconst 1, 1) := by decide +kernel
theorem dX5_give_52 : decode cX5_give 52 = .ok (.invokevirtual 178, 3) := by decide +kernel
theorem dX5_give_55 : decode cX5_give 55 = .ok (.ifCond .ne 6, 3) := by decide +kernel
theorem dX5_give_58 : decode cX5_give 58 = .ok (.bipush (-2), 2) := by decide +kernel
theorem dX5_give_60 : decode cX5_give 60 = .ok (.ireturn, 1) := by decide +kernel
theorem dX5_give_61 : decode cX5_give 61 = .ok (.aload_n 0, 1) := by decide +kernel
theorem dX5_give_62 : decode cX5_give 62 = .ok (.getfield 31, 3) := by decide +kernel
theorem dX5_give_65 : decode cX5_give 65 = .ok (.iload_n 1, 1) := by decide +kernel
theorem dX5_give_66 : decode cX5_give 66 = .ok (.iload_n 2, 1) := by decide +kernel
theorem dX5_give_67 : decode cX5_give 67 = .ok (.invokevirtual 206, 3) := by decide +kernel
theorem dX5_give_70 : decode cX5_give 70 = .ok (.aload_n 0, 1) := by decide +kernel
theorem dX5_give_71 : decode cX5_give 71 = .ok (.getfield 31, 3) := by decide +kernel
theorem dX5_give_74 : decode cX5_give 74 = .ok (.getfield 203, 3) := by decide +kernel
theorem dX5_give_77 : decode cX5_give 77 = .ok (.iload_n 1, 1) := by decide +kernel
theorem dX5_give_78 : decode cX5_give 78 = .ok (.iaload, 1) := by decide +kernel
theorem dX5_give_79 : decode cX5_give 79 = .ok (.ireturn, 1) := by decide +kernel
def p5_give (a1 : Int32) (a2 : Int32) (M : SX) : Option (Int32 × SX) :=
  bd (p1_isShop 17 a1 M) (fun r3 M2 => if r3 = 0 then (some ((-1), M2))
  else (if a2 < (1 : Int32) then (some ((-1), M2))
  else (if a2 ≤ (99 : Int32) then (gd (bIn a1 6) ( if ((M2.1 (17 + 2) (Int32.toNatClampNeg a1)) + a2) ≤ (9999 : Int32) then (bd (p0_hasRoom (17 + 7) 1 M2) (fun r11 M10 => if r11 = 0 then (some ((-2), M10))
  else (bv (p1_doGive 17 a1 a2 M10) (fun M14 => some (M14.1 (17 + 2) (Int32.toNatClampNeg a1), M14)))))
  else (some ((-4), M2))))
  else (some ((-1), M2)))))
set_option maxHeartbeats 4000000 in
set_option maxRecDepth 100000 in
theorem c5_give {l : Launch} {G : XG} {r : Int32} {M' : SX} {M : SX} (a1 : Int32) (a2 : Int32) (hf : p5_give a1 a2 M = some (r, M')) : Met l yX5_give (.code yX5_give cX5_give 3 (some .int) :: TBL) (rmX 3) (xPc G ZX M [.ref (G.2.1 0), .int a1, .int a2]) (xQi G ZX r M') 0 0 (inA G ZX) := by
  refine x_met (cc := cX5_give) (by decide) (Nat.le_of_ble_eq_true rfl) ?_
  intro p e s m below meth c ls F hr hk hl hw
  have F : Fx G ZX p m c cX5_give 3 s [.ref (G.2.1 0), .int a1, .int a2].toArray RX5 := F
  have hl : lv_has ls 3 [(0, .ref (G.2.1 0)), (1, .int a1), (2, .int a2)] := hl
  have hx := F.1.1
  have hb := F.1.2.1
  unfold p5_give at hf
  refine lv_aload_n hx hb dX5_give_0 rfl (lv_at hl 0 rfl) ?_
  refine g5_3 F hw tw_306 dX5_give_1 ?_
  refine lv_iload_n hx hb dX5_give_4 rfl (lv_at hl 1 rfl) ?_
  obtain ⟨r3, M2, hc1, hf⟩ := bd_some hf
  refine x_aftI hw (x_runV (rest := []) F hw hl.1 vw_RX5_129 (sL isL_17) rfl (c1_isShop 17 isL_17 a1 hc1) rfl rfl (Nat.le_of_ble_eq_true rfl) ⟨Nat.le_of_ble_eq_true rfl, Nat.le_of_ble_eq_true rfl⟩ dX5_give_5) (fun H locs hw => ?_)
  refine lv_if_eq (tgt := 22) hx hb dX5_give_8 (by decide) (fun c4 => ?_) (fun c4 => ?_)
  · have hf := it_t hf c4
    refine lv_iconst (v := (-1)) hx hb dX5_give_22 (by decide) ?_
    exact x_iret F hw hr hk hf dX5_give_23
  · have hf := it_f hf c4
    refine lv_iload_n hx hb dX5_give_11 rfl (lv_at hl 2 rfl) ?_
    refine lv_iconst (v := 1) hx hb dX5_give_12 (by decide) ?_
    refine lv_icmp_lt (tgt := 22) hx hb dX5_give_13 (by decide) (fun c5 => ?_) (fun c5 => ?_)
    · have hf := it_t hf c5
      refine lv_iconst (v := (-1)) hx hb dX5_give_22 (by decide) ?_
      exact x_iret F hw hr hk hf dX5_give_23
    · have hf := it_f hf c5
      refine lv_iload_n hx hb dX5_give_16 rfl (lv_at hl 2 rfl) ?_
      refine lv_bipush (v := 99) hx hb dX5_give_17 (by decide) ?_
      refine lv_icmp_le (tgt := 24) hx hb dX5_give_19 (by decide) (fun c6 => ?_) (fun c6 => ?_)
      · have hf := it_t hf c6
        refine lv_aload_n hx hb dX5_give_24 rfl (lv_at hl 0 rfl) ?_
        refine g5_3 F hw tw_306 dX5_give_25 ?_
        refine g1_2 isL_17 F hw tw_394 dX5_give_28 ?_
        refine lv_iload_n hx hb dX5_give_31 rfl (lv_at hl 1 rfl) ?_
        obtain ⟨g7, hf⟩ := gd_some hf
        refine x_iald F hw (sL2 isL_17) g7 dX5_give_32 ?_
        refine lv_iload_n hx hb dX5_give_33 rfl (lv_at hl 2 rfl) ?_
        refine lv_iadd hx hb dX5_give_34 ?_
        refine lv_sipush (v := 9999) hx hb dX5_give_35 (by decide) ?_
        refine lv_icmp_le (tgt := 44) hx hb dX5_give_38 (by decide) (fun c8 => ?_) (fun c8 => ?_)
        · have hf := it_t hf c8
          refine lv_aload_n hx hb dX5_give_44 rfl (lv_at hl 0 rfl) ?_
          refine g5_3 F hw tw_306 dX5_give_45 ?_
          refine g1_7 isL_17 F hw tw_309 dX5_give_48 ?_
          refine lv_iconst (v := 1) hx hb dX5_give_51 (by decide) ?_
          obtain ⟨r11, M10, hc9, hf⟩ := bd_some hf
          refine x_aftI hw (x_runV (rest := []) F hw hl.1 vw_RX5_178 (sD (isD_of isL_17)) rfl (c0_hasRoom (17 + 7) (isD_of isL_17) 1 hc9) rfl rfl (Nat.le_of_ble_eq_true rfl) ⟨Nat.le_of_ble_eq_true rfl, Nat.le_of_ble_eq_true rfl⟩ dX5_give_52) (fun H locs hw => ?_)
          refine lv_if_ne (tgt := 61) hx hb dX5_give_55 (by decide) (fun c12 => ?_) (fun c12 => ?_)
          · have hf := it_f hf c12
            refine lv_aload_n hx hb dX5_give_61 rfl (lv_at hl 0 rfl) ?_
            refine g5_3 F hw tw_306 dX5_give_62 ?_
            refine lv_iload_n hx hb dX5_give_65 rfl (lv_at hl 1 rfl) ?_
            refine lv_iload_n hx hb dX5_give_66 rfl (lv_at hl 2 rfl) ?_
            obtain ⟨M14, hc13, hf⟩ := bv_some hf
            refine x_aftV hw (x_runV (rest := []) F hw hl.1 vw_RX5_206 (sL isL_17) rfl (c1_doGive 17 isL_17 a1 a2 hc13) rfl rfl (Nat.le_of_ble_eq_true rfl) ⟨Nat.le_of_ble_eq_true rfl, Nat.le_of_ble_eq_true rfl⟩ dX5_give_67) (fun H locs hw => ?_)
            refine lv_aload_n hx hb dX5_give_70 rfl (lv_at hl 0 rfl) ?_
            refine g5_3 F hw tw_306 dX5_give_71 ?_
            refine g1_2 isL_17 F hw tw_394 dX5_give_74 ?_
            refine lv_iload_n hx hb dX5_give_77 rfl (lv_at hl 1 rfl) ?_
            refine x_iald F hw (sL2 isL_17) g7 dX5_give_78 ?_
            exact x_iret F hw hr hk hf dX5_give_79
          · have hf := it_t hf c12
            refine lv_bipush (v := (-2)) hx hb dX5_give_58 (by decide) ?_
            exact x_iret F hw hr hk hf dX5_give_60
        · have hf := it_f hf c8
          refine lv_bipush (v := (-4)) hx hb dX5_give_41 (by decide) ?_
          exact x_iret F hw hr hk hf dX5_give_43
      · have hf := it_f hf c6
        refine lv_iconst (v := (-1)) hx hb dX5_give_22 (by decide) ?_
        exact x_iret F hw hr hk hf dX5_give_23
theorem dX5_keep_0 : decode cX5_keep 0 = .ok (.iload_n 1, 1) := by decide +kernel
theorem dX5_keep_1 : decode cX5_keep 1 = .ok (.ifCond .lt 8, 3) := by decide +kernel
theorem dX5_keep_4 : decode cX5_keep 4 = .ok (.iload_n 1, 1) := by decide +kernel
theorem dX5_keep_5 : decode cX5_keep 5 = .ok (.iconst 3, 1) := by decide +kernel
theorem dX5_keep_6 : decode cX5_keep 6 = .ok (.if_icmp .lt 5, 3) := by decide +kernel
theorem dX5_keep_9 : decode cX5_keep 9 = .ok (.iconst (-1), 1) := by decide +kernel
theorem dX5_keep_10 : decode cX5_keep 10 = .ok (.ireturn, 1) := by decide +kernel
theorem dX5_keep_11 : decode cX5_keep 11 = .ok (.aload_n 0, 1) := by decide +kernel
theorem dX5_keep_12 : decode cX5_keep 12 = .ok (.getfield 31, 3) := by decide +kernel
theorem dX5_keep_15 : decode cX5_keep 15 = .ok (.getfield 126, 3) := by decide +kernel
theorem dX5_keep_18 : decode cX5_keep 18 = .ok (.ifCond .ne 6, 3) := by decide +kernel
theorem dX5_keep_21 : decode cX5_keep 21 = .ok (.bipush (-4), 2) := by decide +kernel
theorem dX5_keep_23 : decode cX5_keep 23 = .ok (.ireturn, 1) := by decide +kernel
theorem dX5_keep_24 : decode cX5_keep 24 = .ok (.aload_n 0, 1) := by decide +kernel
theorem dX5_keep_25 : decode cX5_keep 25 = .ok (.getfield 35, 3) := by decide +kernel
theorem dX5_keep_28 : decode cX5_keep 28 = .ok (.iload_n 1, 1) := by decide +kernel
theorem dX5_keep_29 : decode cX5_keep 29 = .ok (.aaload, 1) := by decide +kernel
theorem dX5_keep_30 : decode cX5_keep 30 = .ok (.aload_n 0, 1) := by decide +kernel
theorem dX5_keep_31 : decode cX5_keep 31 = .ok (.getfield 31, 3) := by decide +kernel
theorem dX5_keep_34 : decode cX5_keep 34 = .ok (.invokevirtual 119, 3) := by decide +kernel
theorem dX5_keep_37 : decode cX5_keep 37 = .ok (.aload_n 0, 1) := by decide +kernel
theorem dX5_keep_38 : decode cX5_keep 38 = .ok (.getfield 31, 3) := by decide +kernel
theorem dX5_keep_41 : decode cX5_keep 41 = .ok (.getfield 163, 3) := by decide +kernel
theorem dX5_keep_44 : decode cX5_keep 44 = .ok (.getfield 167, 3) := by decide +kernel
theorem dX5_keep_47 : decode cX5_keep 47 = .ok (.ireturn, 1) := by decide +kernel
def p5_keep (a1 : Int32) (M : SX) : Option (Int32 × SX) :=
  if a1 < 0 then (some ((-1), M))
  else (if a1 < (3 : Int32) then (if (M.1 17 0) = 0 then (some ((-4), M))
  else (gd (bIn a1 3) ( bv (p1_becomeLike (27 + 9 * Int32.toNatClampNeg a1) 17 M) (fun M6 => some (M6.1 (17 + 7) 1, M6)))))
  else (some ((-1), M)))
set_option maxHeartbeats 4000000 in
set_option maxRecDepth 100000 in
theorem c5_keep {l : Launch} {G : XG} {r : Int32} {M' : SX} {M : SX} (a1 : Int32) (hf : p5_keep a1 M = some (r, M')) : Met l yX5_keep (.code yX5_keep cX5_keep 2 (some .int) :: TBL) (rmX 3) (xPc G ZX M [.ref (G.2.1 0), .int a1]) (xQi G ZX r M') 0 0 (inA G ZX) := by
  refine x_met (cc := cX5_keep) (by decide) (Nat.le_of_ble_eq_true rfl) ?_
  intro p e s m below meth c ls F hr hk hl hw
  have F : Fx G ZX p m c cX5_keep 2 s [.ref (G.2.1 0), .int a1].toArray RX5 := F
  have hl : lv_has ls 2 [(0, .ref (G.2.1 0)), (1, .int a1)] := hl
  have hx := F.1.1
  have hb := F.1.2.1
  unfold p5_keep at hf
  refine lv_iload_n hx hb dX5_keep_0 rfl (lv_at hl 1 rfl) ?_
  refine lv_if_lt (tgt := 9) hx hb dX5_keep_1 (by decide) (fun c1 => ?_) (fun c1 => ?_)
  · have hf := it_t hf c1
    refine lv_iconst (v := (-1)) hx hb dX5_keep_9 (by decide) ?_
    exact x_iret F hw hr hk hf dX5_keep_10
  · have hf := it_f hf c1
    refine lv_iload_n hx hb dX5_keep_4 rfl (lv_at hl 1 rfl) ?_
    refine lv_iconst (v := 3) hx hb dX5_keep_5 (by decide) ?_
    refine lv_icmp_lt (tgt := 11) hx hb dX5_keep_6 (by decide) (fun c2 => ?_) (fun c2 => ?_)
    · have hf := it_t hf c2
      refine lv_aload_n hx hb dX5_keep_11 rfl (lv_at hl 0 rfl) ?_
      refine g5_3 F hw tw_306 dX5_keep_12 ?_
      refine g1_0 isL_17 F hw tw_305 dX5_keep_15 ?_
      refine lv_if_ne (tgt := 24) hx hb dX5_keep_18 (by decide) (fun c3 => ?_) (fun c3 => ?_)
      · have hf := it_f hf c3
        refine lv_aload_n hx hb dX5_keep_24 rfl (lv_at hl 0 rfl) ?_
        refine g5_4 F hw tw_304 dX5_keep_25 ?_
        refine lv_iload_n hx hb dX5_keep_28 rfl (lv_at hl 1 rfl) ?_
        obtain ⟨g4, hf⟩ := gd_some hf
        refine x_aald F hw sP26 g4 dX5_keep_29 ?_
        refine lv_aload_n hx hb dX5_keep_30 rfl (lv_at hl 0 rfl) ?_
        refine g5_3 F hw tw_306 dX5_keep_31 ?_
        obtain ⟨M6, hc5, hf⟩ := bv_some hf
        refine x_aftV hw (x_runV (rest := []) F hw hl.1 vw_RX5_119 (sL (isL_k g4)) rfl (c1_becomeLike (27 + 9 * Int32.toNatClampNeg a1) (isL_k g4) 17 isL_17 hc5) rfl rfl (Nat.le_of_ble_eq_true rfl) ⟨Nat.le_of_ble_eq_true rfl, Nat.le_of_ble_eq_true rfl⟩ dX5_keep_34) (fun H locs hw => ?_)
        refine lv_aload_n hx hb dX5_keep_37 rfl (lv_at hl 0 rfl) ?_
        refine g5_3 F hw tw_306 dX5_keep_38 ?_
        refine g1_7 isL_17 F hw tw_309 dX5_keep_41 ?_
        refine g0_1 (isD_of isL_17) F hw tw_310 dX5_keep_44 ?_
        exact x_iret F hw hr hk hf dX5_keep_47
      · have hf := it_t hf c3
        refine lv_bipush (v := (-4)) hx hb dX5_keep_21 (by decide) ?_
        exact x_iret F hw hr hk hf dX5_keep_23
    · have hf := it_f hf c2
      refine lv_iconst (v := (-1)) hx hb dX5_keep_9 (by decide) ?_
      exact x_iret F hw hr hk hf dX5_keep_10
theorem dX5_on_0 : decode cX5_on 0 = .ok (.iload_n 1, 1) := by decide +kernel
theorem dX5_on_1 : decode cX5_on 1 = .ok (.ifCond .lt 8, 3) := by decide +kernel
theorem dX5_on_4 : decode cX5_on 4 = .ok (.iload_n 1, 1) := by decide +kernel
theorem dX5_on_5 : decode cX5_on 5 = .ok (.iconst 3, 1) := by decide +kernel
theorem dX5_on_6 : decode cX5_on 6 = .ok (.if_icmp .lt 5, 3) := by decide +kernel
theorem dX5_on_9 : decode cX5_on 9 = .ok (.iconst (-1), 1) := by decide +kernel
theorem dX5_on_10 : decode cX5_on 10 = .ok (.ireturn, 1) := by decide +kernel
theorem dX5_on_11 : decode cX5_on 11 = .ok (.aload_n 0, 1) := by decide +kernel
theorem dX5_on_12 : decode cX5_on 12 = .ok (.getfield 35, 3) := by decide +kernel
theorem dX5_on_15 : decode cX5_on 15 = .ok (.iload_n 1, 1) := by decide +kernel
theorem dX5_on_16 : decode cX5_on 16 = .ok (.aaload, 1) := by decide +kernel
theorem dX5_on_17 : decode cX5_on 17 = .ok (.getfield 126, 3) := by decide +kernel
theorem dX5_on_20 : decode cX5_on 20 = .ok (.ifCond .ne 9, 3) := by decide +kernel
theorem dX5_on_23 : decode cX5_on 23 = .ok (.aload_n 0, 1) := by decide +kernel
theorem dX5_on_24 : decode cX5_on 24 = .ok (.iconst 1, 1) := by decide +kernel
theorem dX5_on_25 : decode cX5_on 25 = .ok (.invokevirtual 68, 3) := by decide +kernel
theorem dX5_on_28 : decode cX5_on 28 = .ok (.ireturn, 1) := by decide +kernel
theorem dX5_on_29 : decode cX5_on 29 = .ok (.aload_n 0, 1) := by decide +kernel
theorem dX5_on_30 : decode cX5_on 30 = .ok (.getfield 31, 3) := by decide +kernel
theorem dX5_on_33 : decode cX5_on 33 = .ok (.aload_n 0, 1) := by decide +kernel
theorem dX5_on_34 : decode cX5_on 34 = .ok (.getfield 35, 3) := by decide +kernel
theorem dX5_on_37 : decode cX5_on 37 = .ok (.iload_n 1, 1) := by decide +kernel
theorem dX5_on_38 : decode cX5_on 38 = .ok (.aaload, 1) := by decide +kernel
theorem dX5_on_39 : decode cX5_on 39 = .ok (.invokevirtual 119, 3) := by decide +kernel
theorem dX5_on_42 : decode cX5_on 42 = .ok (.aload_n 0, 1) := by decide +kernel
theorem dX5_on_43 : decode cX5_on 43 = .ok (.getfield 31, 3) := by decide +kernel
theorem dX5_on_46 : decode cX5_on 46 = .ok (.getfield 163, 3) := by decide +kernel
theorem dX5_on_49 : decode cX5_on 49 = .ok (.getfield 167, 3) := by decide +kernel
theorem dX5_on_52 : decode cX5_on 52 = .ok (.ireturn, 1) := by decide +kernel
def p5_on (a1 : Int32) (M : SX) : Option (Int32 × SX) :=
  if a1 < 0 then (some ((-1), M))
  else (if a1 < (3 : Int32) then (gd (bIn a1 3) ( if (M.1 (27 + 9 * Int32.toNatClampNeg a1) 0) = 0 then (bd (p5_found 1 M) (fun r9 M8 => some (r9, M8)))
  else (bv (p1_becomeLike 17 (27 + 9 * Int32.toNatClampNeg a1) M) (fun M6 => some (M6.1 (17 + 7) 1, M6)))))
  else (some ((-1), M)))
set_option maxHeartbeats 4000000 in
set_option maxRecDepth 100000 in
theorem c5_on {l : Launch} {G : XG} {r : Int32} {M' : SX} {M : SX} (a1 : Int32) (hf : p5_on a1 M = some (r, M')) : Met l yX5_on (.code yX5_on cX5_on 2 (some .int) :: TBL) (rmX 3) (xPc G ZX M [.ref (G.2.1 0), .int a1]) (xQi G ZX r M') 0 0 (inA G ZX) := by
  refine x_met (cc := cX5_on) (by decide) (Nat.le_of_ble_eq_true rfl) ?_
  intro p e s m below meth c ls F hr hk hl hw
  have F : Fx G ZX p m c cX5_on 2 s [.ref (G.2.1 0), .int a1].toArray RX5 := F
  have hl : lv_has ls 2 [(0, .ref (G.2.1 0)), (1, .int a1)] := hl
  have hx := F.1.1
  have hb := F.1.2.1
  unfold p5_on at hf
  refine lv_iload_n hx hb dX5_on_0 rfl (lv_at hl 1 rfl) ?_
  refine lv_if_lt (tgt := 9) hx hb dX5_on_1 (by decide) (fun c1 => ?_) (fun c1 => ?_)
  · have hf := it_t hf c1
    refine lv_iconst (v := (-1)) hx hb dX5_on_9 (by decide) ?_
    exact x_iret F hw hr hk hf dX5_on_10
  · have hf := it_f hf c1
    refine lv_iload_n hx hb dX5_on_4 rfl (lv_at hl 1 rfl) ?_
    refine lv_iconst (v := 3) hx hb dX5_on_5 (by decide) ?_
    refine lv_icmp_lt (tgt := 11) hx hb dX5_on_6 (by decide) (fun c2 => ?_) (fun c2 => ?_)
    · have hf := it_t hf c2
      refine lv_aload_n hx hb dX5_on_11 rfl (lv_at hl 0 rfl) ?_
      refine g5_4 F hw tw_304 dX5_on_12 ?_
      refine lv_iload_n hx hb dX5_on_15 rfl (lv_at hl 1 rfl) ?_
      obtain ⟨g3, hf⟩ := gd_some hf
      refine x_aald F hw sP26 g3 dX5_on_16 ?_
      refine g1_0 (isL_k g3) F hw tw_305 dX5_on_17 ?_
      refine lv_if_ne (tgt := 29) hx hb dX5_on_20 (by decide) (fun c4 => ?_) (fun c4 => ?_)
      · have hf := it_f hf c4
        refine lv_aload_n hx hb dX5_on_29 rfl (lv_at hl 0 rfl) ?_
        refine g5_3 F hw tw_306 dX5_on_30 ?_
        refine lv_aload_n hx hb dX5_on_33 rfl (lv_at hl 0 rfl) ?_
        refine g5_4 F hw tw_304 dX5_on_34 ?_
        refine lv_iload_n hx hb dX5_on_37 rfl (lv_at hl 1 rfl) ?_
        refine x_aald F hw sP26 g3 dX5_on_38 ?_
        obtain ⟨M6, hc5, hf⟩ := bv_some hf
        refine x_aftV hw (x_runV (rest := []) F hw hl.1 vw_RX5_119 (sL isL_17) rfl (c1_becomeLike 17 isL_17 (27 + 9 * Int32.toNatClampNeg a1) (isL_k g3) hc5) rfl rfl (Nat.le_of_ble_eq_true rfl) ⟨Nat.le_of_ble_eq_true rfl, Nat.le_of_ble_eq_true rfl⟩ dX5_on_39) (fun H locs hw => ?_)
        refine lv_aload_n hx hb dX5_on_42 rfl (lv_at hl 0 rfl) ?_
        refine g5_3 F hw tw_306 dX5_on_43 ?_
        refine g1_7 isL_17 F hw tw_309 dX5_on_46 ?_
        refine g0_1 (isD_of isL_17) F hw tw_310 dX5_on_49 ?_
        exact x_iret F hw hr hk hf dX5_on_52
      · have hf := it_t hf c4
        refine lv_aload_n hx hb dX5_on_23 rfl (lv_at hl 0 rfl) ?_
        refine lv_iconst (v := 1) hx hb dX5_on_24 (by decide) ?_
        obtain ⟨r9, M8, hc7, hf⟩ := bd_some hf
        refine x_aftI hw (x_runV (rest := []) F hw hl.1 vw_RX5_68 (sP) rfl (c5_found 1 hc7) rfl rfl (Nat.le_of_ble_eq_true rfl) ⟨Nat.le_of_ble_eq_true rfl, Nat.le_of_ble_eq_true rfl⟩ dX5_on_25) (fun H locs hw => ?_)
        exact x_iret F hw hr hk hf dX5_on_28
    · have hf := it_f hf c2
      refine lv_iconst (v := (-1)) hx hb dX5_on_9 (by decide) ?_
      exact x_iret F hw hr hk hf dX5_on_10
theorem dX5_inside_0 : decode cX5_inside 0 = .ok (.aload_n 0, 1) := by decide +kernel
theorem dX5_inside_1 : decode cX5_inside 1 = .ok (.getfield 31, 3) := by decide +kernel
theorem dX5_inside_4 : decode cX5_inside 4 = .ok (.iload_n 1, 1) := by decide +kernel
theorem dX5_inside_5 : decode cX5_inside 5 = .ok (.invokevirtual 129, 3) := by decide +kernel
theorem dX5_inside_8 : decode cX5_inside 8 = .ok (.ifCond .eq 14, 3) := by decide +kernel
theorem dX5_inside_11 : decode cX5_inside 11 = .ok (.aload_n 0, 1) := by decide +kernel
theorem dX5_inside_12 : decode cX5_inside 12 = .ok (.getfield 31, 3) := by decide +kernel
theorem dX5_inside_15 : decode cX5_inside 15 = .ok (.iload_n 1, 1) := by decide +kernel
theorem dX5_inside_16 : decode cX5_inside 16 = .ok (.invokevirtual 218, 3) := by decide +kernel
theorem dX5_inside_19 : decode cX5_inside 19 = .ok (.goto 4, 3) := by decide +kernel
theorem dX5_inside_22 : decode cX5_inside 22 = .ok (.iconst (-1), 1) := by decide +kernel
theorem dX5_inside_23 : decode cX5_inside 23 = .ok (.ireturn, 1) := by decide +kernel
def p5_inside (a1 : Int32) (M : SX) : Option (Int32 × SX) :=
  bd (p1_isShop 17 a1 M) (fun r3 M2 => if r3 = 0 then (some ((-1), M2))
  else (bd (p1_insideOf 17 a1 M2) (fun r7 M6 => some (r7, M6))))
set_option maxHeartbeats 4000000 in
set_option maxRecDepth 100000 in
theorem c5_inside {l : Launch} {G : XG} {r : Int32} {M' : SX} {M : SX} (a1 : Int32) (hf : p5_inside a1 M = some (r, M')) : Met l yX5_inside (.code yX5_inside cX5_inside 2 (some .int) :: TBL) (rmX 3) (xPc G ZX M [.ref (G.2.1 0), .int a1]) (xQi G ZX r M') 0 0 (inA G ZX) := by
  refine x_met (cc := cX5_inside) (by decide) (Nat.le_of_ble_eq_true rfl) ?_
  intro p e s m below meth c ls F hr hk hl hw
  have F : Fx G ZX p m c cX5_inside 2 s [.ref (G.2.1 0), .int a1].toArray RX5 := F
  have hl : lv_has ls 2 [(0, .ref (G.2.1 0)), (1, .int a1)] := hl
  have hx := F.1.1
  have hb := F.1.2.1
  unfold p5_inside at hf
  refine lv_aload_n hx hb dX5_inside_0 rfl (lv_at hl 0 rfl) ?_
  refine g5_3 F hw tw_306 dX5_inside_1 ?_
  refine lv_iload_n hx hb dX5_inside_4 rfl (lv_at hl 1 rfl) ?_
  obtain ⟨r3, M2, hc1, hf⟩ := bd_some hf
  refine x_aftI hw (x_runV (rest := []) F hw hl.1 vw_RX5_129 (sL isL_17) rfl (c1_isShop 17 isL_17 a1 hc1) rfl rfl (Nat.le_of_ble_eq_true rfl) ⟨Nat.le_of_ble_eq_true rfl, Nat.le_of_ble_eq_true rfl⟩ dX5_inside_5) (fun H locs hw => ?_)
  refine lv_if_eq (tgt := 22) hx hb dX5_inside_8 (by decide) (fun c4 => ?_) (fun c4 => ?_)
  · have hf := it_t hf c4
    refine lv_iconst (v := (-1)) hx hb dX5_inside_22 (by decide) ?_
    exact x_iret F hw hr hk hf dX5_inside_23
  · have hf := it_f hf c4
    refine lv_aload_n hx hb dX5_inside_11 rfl (lv_at hl 0 rfl) ?_
    refine g5_3 F hw tw_306 dX5_inside_12 ?_
    refine lv_iload_n hx hb dX5_inside_15 rfl (lv_at hl 1 rfl) ?_
    obtain ⟨r7, M6, hc5, hf⟩ := bd_some hf
    refine x_aftI hw (x_runV (rest := []) F hw hl.1 vw_RX5_218 (sL isL_17) rfl (c1_insideOf 17 isL_17 a1 hc5) rfl rfl (Nat.le_of_ble_eq_true rfl) ⟨Nat.le_of_ble_eq_true rfl, Nat.le_of_ble_eq_true rfl⟩ dX5_inside_16) (fun H locs hw => ?_)
    refine lv_goto (tgt := 23) hx hb dX5_inside_19 (by decide) ?_
    exact x_iret F hw hr hk hf dX5_inside_23
theorem dX5_goods_0 : decode cX5_goods 0 = .ok (.aload_n 0, 1) := by decide +kernel
theorem dX5_goods_1 : decode cX5_goods 1 = .ok (.getfield 31, 3) := by decide +kernel
theorem dX5_goods_4 : decode cX5_goods 4 = .ok (.iload_n 1, 1) := by decide +kernel
theorem dX5_goods_5 : decode cX5_goods 5 = .ok (.invokevirtual 129, 3) := by decide +kernel
theorem dX5_goods_8 : decode cX5_goods 8 = .ok (.ifCond .eq 21, 3) := by decide +kernel
theorem dX5_goods_11 : decode cX5_goods 11 = .ok (.aload_n 0, 1) := by decide +kernel
theorem dX5_goods_12 : decode cX5_goods 12 = .ok (.getfield 31, 3) := by decide +kernel
theorem dX5_goods_15 : decode cX5_goods 15 = .ok (.aload_n 0, 1) := by decide +kernel
theorem dX5_goods_16 : decode cX5_goods 16 = .ok (.getfield 31, 3) := by decide +kernel
theorem dX5_goods_19 : decode cX5_goods 19 = .ok (.iload_n 1, 1) := by decide +kernel
theorem dX5_goods_20 : decode cX5_goods 20 = .ok (.invokevirtual 218, 3) := by decide +kernel
theorem dX5_goods_23 : decode cX5_goods 23 = .ok (.invokevirtual 227, 3) := by decide +kernel
theorem dX5_goods_26 : decode cX5_goods 26 = .ok (.goto 4, 3) := by decide +kernel
theorem dX5_goods_29 : decode cX5_goods 29 = .ok (.iconst (-1), 1) := by decide +kernel
theorem dX5_goods_30 : decode cX5_goods 30 = .ok (.ireturn, 1) := by decide +kernel
def p5_goods (a1 : Int32) (M : SX) : Option (Int32 × SX) :=
  bd (p1_isShop 17 a1 M) (fun r3 M2 => if r3 = 0 then (some ((-1), M2))
  else (bd (p1_insideOf 17 a1 M2) (fun r7 M6 => bd (p1_stockOf 17 r7 M6) (fun r10 M9 => some (r10, M9)))))
set_option maxHeartbeats 4000000 in
set_option maxRecDepth 100000 in
theorem c5_goods {l : Launch} {G : XG} {r : Int32} {M' : SX} {M : SX} (a1 : Int32) (hf : p5_goods a1 M = some (r, M')) : Met l yX5_goods (.code yX5_goods cX5_goods 2 (some .int) :: TBL) (rmX 3) (xPc G ZX M [.ref (G.2.1 0), .int a1]) (xQi G ZX r M') 0 0 (inA G ZX) := by
  refine x_met (cc := cX5_goods) (by decide) (Nat.le_of_ble_eq_true rfl) ?_
  intro p e s m below meth c ls F hr hk hl hw
  have F : Fx G ZX p m c cX5_goods 2 s [.ref (G.2.1 0), .int a1].toArray RX5 := F
  have hl : lv_has ls 2 [(0, .ref (G.2.1 0)), (1, .int a1)] := hl
  have hx := F.1.1
  have hb := F.1.2.1
  unfold p5_goods at hf
  refine lv_aload_n hx hb dX5_goods_0 rfl (lv_at hl 0 rfl) ?_
  refine g5_3 F hw tw_306 dX5_goods_1 ?_
  refine lv_iload_n hx hb dX5_goods_4 rfl (lv_at hl 1 rfl) ?_
  obtain ⟨r3, M2, hc1, hf⟩ := bd_some hf
  refine x_aftI hw (x_runV (rest := []) F hw hl.1 vw_RX5_129 (sL isL_17) rfl (c1_isShop 17 isL_17 a1 hc1) rfl rfl (Nat.le_of_ble_eq_true rfl) ⟨Nat.le_of_ble_eq_true rfl, Nat.le_of_ble_eq_true rfl⟩ dX5_goods_5) (fun H locs hw => ?_)
  refine lv_if_eq (tgt := 29) hx hb dX5_goods_8 (by decide) (fun c4 => ?_) (fun c4 => ?_)
  · have hf := it_t hf c4
    refine lv_iconst (v := (-1)) hx hb dX5_goods_29 (by decide) ?_
    exact x_iret F hw hr hk hf dX5_goods_30
  · have hf := it_f hf c4
    refine lv_aload_n hx hb dX5_goods_11 rfl (lv_at hl 0 rfl) ?_
    refine g5_3 F hw tw_306 dX5_goods_12 ?_
    refine lv_aload_n hx hb dX5_goods_15 rfl (lv_at hl 0 rfl) ?_
    refine g5_3 F hw tw_306 dX5_goods_16 ?_
    refine lv_iload_n hx hb dX5_goods_19 rfl (lv_at hl 1 rfl) ?_
    obtain ⟨r7, M6, hc5, hf⟩ := bd_some hf
    refine x_aftI hw (x_runV (rest := [.ref (G.2.1 17)]) F hw hl.1 vw_RX5_218 (sL isL_17) rfl (c1_insideOf 17 isL_17 a1 hc5) rfl rfl (Nat.le_of_ble_eq_true rfl) ⟨Nat.le_of_ble_eq_true rfl, Nat.le_of_ble_eq_true rfl⟩ dX5_goods_20) (fun H locs hw => ?_)
    obtain ⟨r10, M9, hc8, hf⟩ := bd_some hf
    refine x_aftI hw (x_runV (rest := []) F hw hl.1 vw_RX5_227 (sL isL_17) rfl (c1_stockOf 17 isL_17 r7 hc8) rfl rfl (Nat.le_of_ble_eq_true rfl) ⟨Nat.le_of_ble_eq_true rfl, Nat.le_of_ble_eq_true rfl⟩ dX5_goods_23) (fun H locs hw => ?_)
    refine lv_goto (tgt := 30) hx hb dX5_goods_26 (by decide) ?_
    exact x_iret F hw hr hk hf dX5_goods_30
theorem dX5_hangs_0 : decode cX5_hangs 0 = .ok (.aload_n 0, 1) := by decide +kernel
theorem dX5_hangs_1 : decode cX5_hangs 1 = .ok (.getfield 31, 3) := by decide +kernel
theorem dX5_hangs_4 : decode cX5_hangs 4 = .ok (.getfield 126, 3) := by decide +kernel
theorem dX5_hangs_7 : decode cX5_hangs 7 = .ok (.ifCond .ne 6, 3) := by decide +kernel
theorem dX5_hangs_10 : decode cX5_hangs 10 = .ok (.bipush (-4), 2) := by decide +kernel
theorem dX5_hangs_12 : decode cX5_hangs 12 = .ok (.ireturn, 1) := by decide +kernel
theorem dX5_hangs_13 : decode cX5_hangs 13 = .ok (.iconst 0, 1) := by decide +kernel
theorem dX5_hangs_14 : decode cX5_hangs 14 = .ok (.istore_n 1, 1) := by decide +kernel
theorem dX5_hangs_15 : decode cX5_hangs 15 = .ok (.iconst 0, 1) := by decide +kernel
theorem dX5_hangs_16 : decode cX5_hangs 16 = .ok (.istore_n 2, 1) := by decide +kernel
theorem dX5_hangs_17 : decode cX5_hangs 17 = .ok (.iconst 0, 1) := by decide +kernel
theorem dX5_hangs_18 : decode cX5_hangs 18 = .ok (.istore_n 3, 1) := by decide +kernel
theorem dX5_hangs_19 : decode cX5_hangs 19 = .ok (.iload_n 3, 1) := by decide +kernel
theorem dX5_hangs_20 : decode cX5_hangs 20 = .ok (.aload_n 0, 1) := by decide +kernel
theorem dX5_hangs_21 : decode cX5_hangs 21 = .ok (.getfield 31, 3) := by decide +kernel
theorem dX5_hangs_24 : decode cX5_hangs 24 = .ok (.getfield 126, 3) := by decide +kernel
theorem dX5_hangs_27 : decode cX5_hangs 27 = .ok (.if_icmp .ge 33, 3) := by decide +kernel
theorem dX5_hangs_30 : decode cX5_hangs 30 = .ok (.aload_n 0, 1) := by decide +kernel
theorem dX5_hangs_31 : decode cX5_hangs 31 = .ok (.getfield 31, 3) := by decide +kernel
theorem dX5_hangs_34 : decode cX5_hangs 34 = .ok (.iload_n 3, 1) := by decide +kernel
theorem dX5_hangs_35 : decode cX5_hangs 35 = .ok (.invokevirtual 218, 3) := by decide +kernel
theorem dX5_hangs_38 : decode cX5_hangs 38 = .ok (.invokestatic 151, 3) := by decide +kernel
theorem dX5_hangs_41 : decode cX5_hangs 41 = .ok (.istore 4, 2) := by decide +kernel
theorem dX5_hangs_43 : decode cX5_hangs 43 = .ok (.iload 4, 2) := by decide +kernel
theorem dX5_hangs_45 : decode cX5_hangs 45 = .ok (.iload_n 2, 1) := by decide +kernel
theorem dX5_hangs_46 : decode cX5_hangs 46 = .ok (.if_icmp .le 8, 3) := by decide +kernel
theorem dX5_hangs_49 : decode cX5_hangs 49 = .ok (.iload 4, 2) := by decide +kernel
theorem dX5_hangs_51 : decode cX5_hangs 51 = .ok (.istore_n 2, 1) := by decide +kernel
theorem dX5_hangs_52 : decode cX5_hangs 52 = .ok (.iload_n 3, 1) := by decide +kernel
theorem dX5_hangs_53 : decode cX5_hangs 53 = .ok (.istore_n 1, 1) := by decide +kernel
theorem dX5_hangs_54 : decode cX5_hangs 54 = .ok (.iinc 3 1, 3) := by decide +kernel
theorem dX5_hangs_57 : decode cX5_hangs 57 = .ok (.goto (-38), 3) := by decide +kernel
theorem dX5_hangs_60 : decode cX5_hangs 60 = .ok (.aload_n 0, 1) := by decide +kernel
theorem dX5_hangs_61 : decode cX5_hangs 61 = .ok (.iload_n 2, 1) := by decide +kernel
theorem dX5_hangs_62 : decode cX5_hangs 62 = .ok (.putfield 54, 3) := by decide +kernel
theorem dX5_hangs_65 : decode cX5_hangs 65 = .ok (.iload_n 1, 1) := by decide +kernel
theorem dX5_hangs_66 : decode cX5_hangs 66 = .ok (.ireturn, 1) := by decide +kernel
def p5_hangs_54 (k19 : Int32 → Int32 → Int32 → SX → Option (Int32 × SX)) (v1 : Int32) (v2 : Int32) (v3 : Int32) (M : SX) : Option (Int32 × SX) :=
  lt_ (v3 + 1) (fun x1 => k19 v1 v2 x1 M)
set_option maxHeartbeats 4000000 in
set_option maxRecDepth 100000 in
theorem w5_hangs_54 {G : XG} {p : Program} {l : Launch} {e : Env} {s : State} {m : MethodId} {args : Array Value} {below : List Frame} {meth : Method} {c : Code} (F : Fx G ZX p m c cX5_hangs 5 s args RX5) (hr : meth.sig.returnType = some .int) (hk : meth.locks = false) {r : Int32} {M' : SX} (k19 : Int32 → Int32 → Int32 → SX → Option (Int32 × SX)) (hk19 : ∀ (v1 : Int32) (v2 : Int32) (v3 : Int32) (M : SX) (H : Heap) (locs : List Loc) (ls : Array Slot), Wld G ZX M s.heap H locs → lv_has ls 5 [(0, .ref (G.2.1 0)), (1, .int v1), (2, .int v2), (3, .int v3)] → k19 v1 v2 v3 M = some (r, M') → WXi G ZX p l e 3 s m args below meth c r M' H locs (F0 m 19 ls [])) : ∀ (v1 : Int32) (v2 : Int32) (v3 : Int32) (M : SX) (H : Heap) (locs : List Loc) (ls : Array Slot), Wld G ZX M s.heap H locs → lv_has ls 5 [(0, .ref (G.2.1 0)), (1, .int v1), (2, .int v2), (3, .int v3)] → p5_hangs_54 k19 v1 v2 v3 M = some (r, M') → WXi G ZX p l e 3 s m args below meth c r M' H locs (F0 m 54 ls []) := by
  intro v1 v2 v3 M H locs ls hw hl hf
  have hx := F.1.1
  have hb := F.1.2.1
  unfold p5_hangs_54 at hf
  obtain ⟨x1, ex1, hf⟩ := lt_elim hf
  refine lv_iinc (v := x1) (lv' := [(3, .int x1), (0, .ref (G.2.1 0)), (1, .int v1), (2, .int v2)]) hx hb dX5_hangs_54 hl (k := 3) rfl (by rw [ex1]; rfl) (by decide) rfl (fun ls hl => ?_)
  refine lv_goto (tgt := 19) hx hb dX5_hangs_57 (by decide) ?_
  exact hk19 v1 v2 x1 M _ _ ls hw (lv_sub hl [1, 2, 3, 0] rfl) hf
def p5_hangs_19 (k19 : Int32 → Int32 → Int32 → SX → Option (Int32 × SX)) (v1 : Int32) (v2 : Int32) (v3 : Int32) (M : SX) : Option (Int32 × SX) :=
  if (M.1 17 0) ≤ v3 then (lt_ (wI M 0 8 v2) (fun M2 => some (v1, M2)))
  else (bd (p1_insideOf 17 v3 M) (fun r5 M4 => bd (pj_bits r5 M4) (fun r8 M7 => if r8 ≤ v2 then (p5_hangs_54 k19 v1 v2 v3 M7)
  else (p5_hangs_54 k19 v3 r8 v3 M7))))
set_option maxHeartbeats 4000000 in
set_option maxRecDepth 100000 in
theorem w5_hangs_19 {G : XG} {p : Program} {l : Launch} {e : Env} {s : State} {m : MethodId} {args : Array Value} {below : List Frame} {meth : Method} {c : Code} (F : Fx G ZX p m c cX5_hangs 5 s args RX5) (hr : meth.sig.returnType = some .int) (hk : meth.locks = false) {r : Int32} {M' : SX} (k19 : Int32 → Int32 → Int32 → SX → Option (Int32 × SX)) (hk19 : ∀ (v1 : Int32) (v2 : Int32) (v3 : Int32) (M : SX) (H : Heap) (locs : List Loc) (ls : Array Slot), Wld G ZX M s.heap H locs → lv_has ls 5 [(0, .ref (G.2.1 0)), (1, .int v1), (2, .int v2), (3, .int v3)] → k19 v1 v2 v3 M = some (r, M') → WXi G ZX p l e 3 s m args below meth c r M' H locs (F0 m 19 ls [])) : ∀ (v1 : Int32) (v2 : Int32) (v3 : Int32) (M : SX) (H : Heap) (locs : List Loc) (ls : Array Slot), Wld G ZX M s.heap H locs → lv_has ls 5 [(0, .ref (G.2.1 0)), (1, .int v1), (2, .int v2), (3, .int v3)] → p5_hangs_19 k19 v1 v2 v3 M = some (r, M') → WXi G ZX p l e 3 s m args below meth c r M' H locs (F0 m 19 ls []) := by
  intro v1 v2 v3 M H locs ls hw hl hf
  have hx := F.1.1
  have hb := F.1.2.1
  unfold p5_hangs_19 at hf
  refine lv_iload_n hx hb dX5_hangs_19 rfl (lv_at hl 3 rfl) ?_
  refine lv_aload_n hx hb dX5_hangs_20 rfl (lv_at hl 0 rfl) ?_
  refine g5_3 F hw tw_306 dX5_hangs_21 ?_
  refine g1_0 isL_17 F hw tw_305 dX5_hangs_24 ?_
  refine lv_icmp_ge (tgt := 60) hx hb dX5_hangs_27 (by decide) (fun c1 => ?_) (fun c1 => ?_)
  · have hf := it_t hf c1
    refine lv_aload_n hx hb dX5_hangs_60 rfl (lv_at hl 0 rfl) ?_
    refine lv_iload_n hx hb dX5_hangs_61 rfl (lv_at hl 2 rfl) ?_
    refine s5_8 F hw tw_299 dX5_hangs_62 (fun H locs hw => ?_)
    obtain ⟨M2, eM2, hf⟩ := lt_elim hf
    rw [← eM2] at hw
    refine lv_iload_n hx hb dX5_hangs_65 rfl (lv_at hl 1 rfl) ?_
    exact x_iret F hw hr hk hf dX5_hangs_66
  · have hf := it_f hf c1
    refine lv_aload_n hx hb dX5_hangs_30 rfl (lv_at hl 0 rfl) ?_
    refine g5_3 F hw tw_306 dX5_hangs_31 ?_
    refine lv_iload_n hx hb dX5_hangs_34 rfl (lv_at hl 3 rfl) ?_
    obtain ⟨r5, M4, hc3, hf⟩ := bd_some hf
    refine x_aftI hw (x_runV (rest := []) F hw hl.1 vw_RX5_218 (sL isL_17) rfl (c1_insideOf 17 isL_17 v3 hc3) rfl rfl (Nat.le_of_ble_eq_true rfl) ⟨Nat.le_of_ble_eq_true rfl, Nat.le_of_ble_eq_true rfl⟩ dX5_hangs_35) (fun H locs hw => ?_)
    obtain ⟨r8, M7, hc6, hf⟩ := bd_some hf
    refine x_aftI hw (x_runS (rest := []) F hw hl.1 sw_RX5_151 (cj_bits r5 hc6) rfl rfl (Nat.le_of_ble_eq_true rfl) ⟨Nat.le_of_ble_eq_true rfl, Nat.le_of_ble_eq_true rfl⟩ dX5_hangs_38) (fun H locs hw => ?_)
    refine lv_istore (lv' := [(4, .int r8), (0, .ref (G.2.1 0)), (1, .int v1), (2, .int v2), (3, .int v3)]) hx hb dX5_hangs_41 hl (by decide) rfl (fun ls hl => ?_)
    refine lv_iload hx hb dX5_hangs_43 (lv_at hl 0 rfl) ?_
    refine lv_iload_n hx hb dX5_hangs_45 rfl (lv_at hl 3 rfl) ?_
    refine lv_icmp_le (tgt := 54) hx hb dX5_hangs_46 (by decide) (fun c9 => ?_) (fun c9 => ?_)
    · have hf := it_t hf c9
      exact w5_hangs_54 F hr hk k19 hk19 v1 v2 v3 M7 _ _ ls hw (lv_sub hl [1, 2, 3, 4] rfl) hf
    · have hf := it_f hf c9
      refine lv_iload hx hb dX5_hangs_49 (lv_at hl 0 rfl) ?_
      refine lv_istore_n (lv' := [(2, .int r8), (4, .int r8), (0, .ref (G.2.1 0)), (1, .int v1), (3, .int v3)]) hx hb dX5_hangs_51 rfl hl (by decide) rfl (fun ls hl => ?_)
      refine lv_iload_n hx hb dX5_hangs_52 rfl (lv_at hl 4 rfl) ?_
      refine lv_istore_n (lv' := [(1, .int v3), (2, .int r8), (4, .int r8), (0, .ref (G.2.1 0)), (3, .int v3)]) hx hb dX5_hangs_53 rfl hl (by decide) rfl (fun ls hl => ?_)
      exact w5_hangs_54 F hr hk k19 hk19 v3 r8 v3 M7 _ _ ls hw (lv_sub hl [3, 0, 1, 4] rfl) hf
theorem z5_hangs_19 {G : XG} {p : Program} {l : Launch} {e : Env} {s : State} {m : MethodId} {args : Array Value} {below : List Frame} {meth : Method} {c : Code} (F : Fx G ZX p m c cX5_hangs 5 s args RX5) (hr : meth.sig.returnType = some .int) (hk : meth.locks = false) {r : Int32} {M' : SX} : ∀ n : Nat, ∀ (v1 : Int32) (v2 : Int32) (v3 : Int32) (M : SX) (H : Heap) (locs : List Loc) (ls : Array Slot), Wld G ZX M s.heap H locs → lv_has ls 5 [(0, .ref (G.2.1 0)), (1, .int v1), (2, .int v2), (3, .int v3)] → xlp3 p5_hangs_19 n v1 v2 v3 M = some (r, M') → WXi G ZX p l e 3 s m args below meth c r M' H locs (F0 m 19 ls []) := by
  intro n
  induction n with
  | zero => intro _ _ _ _ _ _ _ _ _ hf; cases hf
  | succ n ih => exact w5_hangs_19 F hr hk (xlp3 p5_hangs_19 n) ih
def p5_hangs (M : SX) : Option (Int32 × SX) :=
  if (M.1 17 0) = 0 then (some ((-4), M))
  else (xlp3 p5_hangs_19 FU 0 0 0 M)
set_option maxHeartbeats 4000000 in
set_option maxRecDepth 100000 in
theorem c5_hangs {l : Launch} {G : XG} {r : Int32} {M' : SX} {M : SX} (hf : p5_hangs M = some (r, M')) : Met l yX5_hangs (.code yX5_hangs cX5_hangs 5 (some .int) :: TBL) (rmX 3) (xPc G ZX M [.ref (G.2.1 0)]) (xQi G ZX r M') 0 0 (inA G ZX) := by
  refine x_met (cc := cX5_hangs) (by decide) (Nat.le_of_ble_eq_true rfl) ?_
  intro p e s m below meth c ls F hr hk hl hw
  have F : Fx G ZX p m c cX5_hangs 5 s [.ref (G.2.1 0)].toArray RX5 := F
  have hl : lv_has ls 5 [(0, .ref (G.2.1 0))] := hl
  have hx := F.1.1
  have hb := F.1.2.1
  unfold p5_hangs at hf
  refine lv_aload_n hx hb dX5_hangs_0 rfl (lv_at hl 0 rfl) ?_
  refine g5_3 F hw tw_306 dX5_hangs_1 ?_
  refine g1_0 isL_17 F hw tw_305 dX5_hangs_4 ?_
  refine lv_if_ne (tgt := 13) hx hb dX5_hangs_7 (by decide) (fun c1 => ?_) (fun c1 => ?_)
  · have hf := it_f hf c1
    refine lv_iconst (v := 0) hx hb dX5_hangs_13 (by decide) ?_
    refine lv_istore_n (lv' := [(1, .int 0), (0, .ref (G.2.1 0))]) hx hb dX5_hangs_14 rfl hl (by decide) rfl (fun ls hl => ?_)
    refine lv_iconst (v := 0) hx hb dX5_hangs_15 (by decide) ?_
    refine lv_istore_n (lv' := [(2, .int 0), (1, .int 0), (0, .ref (G.2.1 0))]) hx hb dX5_hangs_16 rfl hl (by decide) rfl (fun ls hl => ?_)
    refine lv_iconst (v := 0) hx hb dX5_hangs_17 (by decide) ?_
    refine lv_istore_n (lv' := [(3, .int 0), (2, .int 0), (1, .int 0), (0, .ref (G.2.1 0))]) hx hb dX5_hangs_18 rfl hl (by decide) rfl (fun ls hl => ?_)
    exact z5_hangs_19 F hr hk FU 0 0 0 M _ _ ls hw (lv_sub hl [3, 2, 1, 0] rfl) hf
  · have hf := it_t hf c1
    refine lv_bipush (v := (-4)) hx hb dX5_hangs_10 (by decide) ?_
    exact x_iret F hw hr hk hf dX5_hangs_12
theorem dX5_refusalOfOrder_0 : decode cX5_refusalOfOrder 0 = .ok (.aload_n 0, 1) := by decide +kernel
theorem dX5_refusalOfOrder_1 : decode cX5_refusalOfOrder 1 = .ok (.iload_n 1, 1) := by decide +kernel
theorem dX5_refusalOfOrder_2 : decode cX5_refusalOfOrder 2 = .ok (.invokevirtual 296, 3) := by decide +kernel
theorem dX5_refusalOfOrder_5 : decode cX5_refusalOfOrder 5 = .ok (.istore_n 2, 1) := by decide +kernel
theorem dX5_refusalOfOrder_6 : decode cX5_refusalOfOrder 6 = .ok (.iload_n 2, 1) := by decide +kernel
theorem dX5_refusalOfOrder_7 : decode cX5_refusalOfOrder 7 = .ok (.ifCond .eq 5, 3) := by decide +kernel
theorem dX5_refusalOfOrder_10 : decode cX5_refusalOfOrder 10 = .ok (.iload_n 2, 1) := by decide +kernel
theorem dX5_refusalOfOrder_11 : decode cX5_refusalOfOrder 11 = .ok (.ireturn, 1) := by decide +kernel
theorem dX5_refusalOfOrder_12 : decode cX5_refusalOfOrder 12 = .ok (.aload_n 0, 1) := by decide +kernel
theorem dX5_refusalOfOrder_13 : decode cX5_refusalOfOrder 13 = .ok (.getfield 14, 3) := by decide +kernel
theorem dX5_refusalOfOrder_16 : decode cX5_refusalOfOrder 16 = .ok (.iload_n 1, 1) := by decide +kernel
theorem dX5_refusalOfOrder_17 : decode cX5_refusalOfOrder 17 = .ok (.invokevirtual 106, 3) := by decide +kernel
theorem dX5_refusalOfOrder_20 : decode cX5_refusalOfOrder 20 = .ok (.bipush 6, 2) := by decide +kernel
theorem dX5_refusalOfOrder_22 : decode cX5_refusalOfOrder 22 = .ok (.if_icmp .le 9, 3) := by decide +kernel
theorem dX5_refusalOfOrder_25 : decode cX5_refusalOfOrder 25 = .ok (.aload_n 0, 1) := by decide +kernel
theorem dX5_refusalOfOrder_26 : decode cX5_refusalOfOrder 26 = .ok (.iconst 5, 1) := by decide +kernel
theorem dX5_refusalOfOrder_27 : decode cX5_refusalOfOrder 27 = .ok (.invokevirtual 68, 3) := by decide +kernel
theorem dX5_refusalOfOrder_30 : decode cX5_refusalOfOrder 30 = .ok (.ireturn, 1) := by decide +kernel
theorem dX5_refusalOfOrder_31 : decode cX5_refusalOfOrder 31 = .ok (.aload_n 0, 1) := by decide +kernel
theorem dX5_refusalOfOrder_32 : decode cX5_refusalOfOrder 32 = .ok (.getfield 14, 3) := by decide +kernel
theorem dX5_refusalOfOrder_35 : decode cX5_refusalOfOrder 35 = .ok (.iload_n 1, 1) := by decide +kernel
theorem dX5_refusalOfOrder_36 : decode cX5_refusalOfOrder 36 = .ok (.aload_n 0, 1) := by decide +kernel
theorem dX5_refusalOfOrder_37 : decode cX5_refusalOfOrder 37 = .ok (.getfield 31, 3) := by decide +kernel
theorem dX5_refusalOfOrder_40 : decode cX5_refusalOfOrder 40 = .ok (.getfield 126, 3) := by decide +kernel
theorem dX5_refusalOfOrder_43 : decode cX5_refusalOfOrder 43 = .ok (.invokevirtual 299, 3) := by decide +kernel
theorem dX5_refusalOfOrder_46 : decode cX5_refusalOfOrder 46 = .ok (.ifCond .eq 7, 3) := by decide +kernel
theorem dX5_refusalOfOrder_49 : decode cX5_refusalOfOrder 49 = .ok (.iconst 0, 1) := by decide +kernel
theorem dX5_refusalOfOrder_50 : decode cX5_refusalOfOrder 50 = .ok (.goto 8, 3) := by decide +kernel
theorem dX5_refusalOfOrder_53 : decode cX5_refusalOfOrder 53 = .ok (.aload_n 0, 1) := by decide +kernel
theorem dX5_refusalOfOrder_54 : decode cX5_refusalOfOrder 54 = .ok (.iconst 3, 1) := by decide +kernel
theorem dX5_refusalOfOrder_55 : decode cX5_refusalOfOrder 55 = .ok (.invokevirtual 68, 3) := by decide +kernel
theorem dX5_refusalOfOrder_58 : decode cX5_refusalOfOrder 58 = .ok (.ireturn, 1) := by decide +kernel
def p5_refusalOfOrder (a1 : Int32) (M : SX) : Option (Int32 × SX) :=
  bd (p5_refusalOfAside a1 M) (fun r3 M2 => if r3 = 0 then (bd (p4_sizeOf 1 a1 M2) (fun r7 M6 => if r7 ≤ (6 : Int32) then (bd (p4_allBelow 1 a1 (M6.1 17 0) M6) (fun r11 M10 => if r11 = 0 then (bd (p5_found 3 M10) (fun r15 M14 => some (r15, M14)))
  else (some (0, M10))))
  else (bd (p5_found 5 M6) (fun r18 M17 => some (r18, M17)))))
  else (some (r3, M2)))
set_option maxHeartbeats 4000000 in
set_option maxRecDepth 100000 in
theorem c5_refusalOfOrder {l : Launch} {G : XG} {r : Int32} {M' : SX} {M : SX} (a1 : Int32) (hf : p5_refusalOfOrder a1 M = some (r, M')) : Met l yX5_refusalOfOrder (.code yX5_refusalOfOrder cX5_refusalOfOrder 3 (some .int) :: TBL) (rmX 3) (xPc G ZX M [.ref (G.2.1 0), .int a1]) (xQi G ZX r M') 0 0 (inA G ZX) := by
  refine x_met (cc := cX5_refusalOfOrder) (by decide) (Nat.le_of_ble_eq_true rfl) ?_
  intro p e s m below meth c ls F hr hk hl hw
  have F : Fx G ZX p m c cX5_refusalOfOrder 3 s [.ref (G.2.1 0), .int a1].toArray RX5 := F
  have hl : lv_has ls 3 [(0, .ref (G.2.1 0)), (1, .int a1)] := hl
  have hx := F.1.1
  have hb := F.1.2.1
  unfold p5_refusalOfOrder at hf
  refine lv_aload_n hx hb dX5_refusalOfOrder_0 rfl (lv_at hl 0 rfl) ?_
  refine lv_iload_n hx hb dX5_refusalOfOrder_1 rfl (lv_at hl 1 rfl) ?_
  obtain ⟨r3, M2, hc1, hf⟩ := bd_some hf
  refine x_aftI hw (x_runV (rest := []) F hw hl.1 vw_RX5_296 (sP) rfl (c5_refusalOfAside a1 hc1) rfl rfl (Nat.le_of_ble_eq_true rfl) ⟨Nat.le_of_ble_eq_true rfl, Nat.le_of_ble_eq_true rfl⟩ dX5_refusalOfOrder_2) (fun H locs hw => ?_)
  refine lv_istore_n (lv' := [(2, .int r3), (0, .ref (G.2.1 0)), (1, .int a1)]) hx hb dX5_refusalOfOrder_5 rfl hl (by decide) rfl (fun ls hl => ?_)
  refine lv_iload_n hx hb dX5_refusalOfOrder_6 rfl (lv_at hl 0 rfl) ?_
  refine lv_if_eq (tgt := 12) hx hb dX5_refusalOfOrder_7 (by decide) (fun c4 => ?_) (fun c4 => ?_)
  · have hf := it_t hf c4
    refine lv_aload_n hx hb dX5_refusalOfOrder_12 rfl (lv_at hl 1 rfl) ?_
    refine g5_0 F hw tw_334 dX5_refusalOfOrder_13 ?_
    refine lv_iload_n hx hb dX5_refusalOfOrder_16 rfl (lv_at hl 2 rfl) ?_
    obtain ⟨r7, M6, hc5, hf⟩ := bd_some hf
    refine x_aftI hw (x_runV (rest := []) F hw hl.1 vw_RX5_106 (sS isS_1) rfl (c4_sizeOf 1 isS_1 a1 hc5) rfl rfl (Nat.le_of_ble_eq_true rfl) ⟨Nat.le_of_ble_eq_true rfl, Nat.le_of_ble_eq_true rfl⟩ dX5_refusalOfOrder_17) (fun H locs hw => ?_)
    refine lv_bipush (v := 6) hx hb dX5_refusalOfOrder_20 (by decide) ?_
    refine lv_icmp_le (tgt := 31) hx hb dX5_refusalOfOrder_22 (by decide) (fun c8 => ?_) (fun c8 => ?_)
    · have hf := it_t hf c8
      refine lv_aload_n hx hb dX5_refusalOfOrder_31 rfl (lv_at hl 1 rfl) ?_
      refine g5_0 F hw tw_334 dX5_refusalOfOrder_32 ?_
      refine lv_iload_n hx hb dX5_refusalOfOrder_35 rfl (lv_at hl 2 rfl) ?_
      refine lv_aload_n hx hb dX5_refusalOfOrder_36 rfl (lv_at hl 1 rfl) ?_
      refine g5_3 F hw tw_306 dX5_refusalOfOrder_37 ?_
      refine g1_0 isL_17 F hw tw_305 dX5_refusalOfOrder_40 ?_
      obtain ⟨r11, M10, hc9, hf⟩ := bd_some hf
      refine x_aftI hw (x_runV (rest := []) F hw hl.1 vw_RX5_299 (sS isS_1) rfl (c4_allBelow 1 isS_1 a1 (M6.1 17 0) hc9) rfl rfl (Nat.le_of_ble_eq_true rfl) ⟨Nat.le_of_ble_eq_true rfl, Nat.le_of_ble_eq_true rfl⟩ dX5_refusalOfOrder_43) (fun H locs hw => ?_)
      refine lv_if_eq (tgt := 53) hx hb dX5_refusalOfOrder_46 (by decide) (fun c12 => ?_) (fun c12 => ?_)
      · have hf := it_t hf c12
        refine lv_aload_n hx hb dX5_refusalOfOrder_53 rfl (lv_at hl 1 rfl) ?_
        refine lv_iconst (v := 3) hx hb dX5_refusalOfOrder_54 (by decide) ?_
        obtain ⟨r15, M14, hc13, hf⟩ := bd_some hf
        refine x_aftI hw (x_runV (rest := []) F hw hl.1 vw_RX5_68 (sP) rfl (c5_found 3 hc13) rfl rfl (Nat.le_of_ble_eq_true rfl) ⟨Nat.le_of_ble_eq_true rfl, Nat.le_of_ble_eq_true rfl⟩ dX5_refusalOfOrder_55) (fun H locs hw => ?_)
        exact x_iret F hw hr hk hf dX5_refusalOfOrder_58
      · have hf := it_f hf c12
        refine lv_iconst (v := 0) hx hb dX5_refusalOfOrder_49 (by decide) ?_
        refine lv_goto (tgt := 58) hx hb dX5_refusalOfOrder_50 (by decide) ?_
        exact x_iret F hw hr hk hf dX5_refusalOfOrder_58
    · have hf := it_f hf c8
      refine lv_aload_n hx hb dX5_refusalOfOrder_25 rfl (lv_at hl 1 rfl) ?_
      refine lv_iconst (v := 5) hx hb dX5_refusalOfOrder_26 (by decide) ?_
      obtain ⟨r18, M17, hc16, hf⟩ := bd_some hf
      refine x_aftI hw (x_runV (rest := []) F hw hl.1 vw_RX5_68 (sP) rfl (c5_found 5 hc16) rfl rfl (Nat.le_of_ble_eq_true rfl) ⟨Nat.le_of_ble_eq_true rfl, Nat.le_of_ble_eq_true rfl⟩ dX5_refusalOfOrder_27) (fun H locs hw => ?_)
      exact x_iret F hw hr hk hf dX5_refusalOfOrder_30
  · have hf := it_f hf c4
    refine lv_iload_n hx hb dX5_refusalOfOrder_10 rfl (lv_at hl 0 rfl) ?_
    exact x_iret F hw hr hk hf dX5_refusalOfOrder_11
theorem dX5_refusalOfSets_0 : decode cX5_refusalOfSets 0 = .ok (.aload_n 0, 1) := by decide +kernel
theorem dX5_refusalOfSets_1 : decode cX5_refusalOfSets 1 = .ok (.iload_n 1, 1) := by decide +kernel
theorem dX5_refusalOfSets_2 : decode cX5_refusalOfSets 2 = .ok (.invokevirtual 296, 3) := by decide +kernel
theorem dX5_refusalOfSets_5 : decode cX5_refusalOfSets 5 = .ok (.istore_n 2, 1) := by decide +kernel
theorem dX5_refusalOfSets_6 : decode cX5_refusalOfSets 6 = .ok (.iload_n 2, 1) := by decide +kernel
theorem dX5_refusalOfSets_7 : decode cX5_refusalOfSets 7 = .ok (.ifCond .eq 5, 3) := by decide +kernel
theorem dX5_refusalOfSets_10 : decode cX5_refusalOfSets 10 = .ok (.iload_n 2, 1) := by decide +kernel
theorem dX5_refusalOfSets_11 : decode cX5_refusalOfSets 11 = .ok (.ireturn, 1) := by decide +kernel
theorem dX5_refusalOfSets_12 : decode cX5_refusalOfSets 12 = .ok (.aload_n 0, 1) := by decide +kernel
theorem dX5_refusalOfSets_13 : decode cX5_refusalOfSets 13 = .ok (.getfield 14, 3) := by decide +kernel
theorem dX5_refusalOfSets_16 : decode cX5_refusalOfSets 16 = .ok (.iload_n 1, 1) := by decide +kernel
theorem dX5_refusalOfSets_17 : decode cX5_refusalOfSets 17 = .ok (.invokevirtual 106, 3) := by decide +kernel
theorem dX5_refusalOfSets_20 : decode cX5_refusalOfSets 20 = .ok (.iconst 1, 1) := by decide +kernel
theorem dX5_refusalOfSets_21 : decode cX5_refusalOfSets 21 = .ok (.if_icmp .lt 16, 3) := by decide +kernel
theorem dX5_refusalOfSets_24 : decode cX5_refusalOfSets 24 = .ok (.aload_n 0, 1) := by decide +kernel
theorem dX5_refusalOfSets_25 : decode cX5_refusalOfSets 25 = .ok (.getfield 14, 3) := by decide +kernel
theorem dX5_refusalOfSets_28 : decode cX5_refusalOfSets 28 = .ok (.iload_n 1, 1) := by decide +kernel
theorem dX5_refusalOfSets_29 : decode cX5_refusalOfSets 29 = .ok (.invokevirtual 106, 3) := by decide +kernel
theorem dX5_refusalOfSets_32 : decode cX5_refusalOfSets 32 = .ok (.bipush 6, 2) := by decide +kernel
theorem dX5_refusalOfSets_34 : decode cX5_refusalOfSets 34 = .ok (.if_icmp .le 9, 3) := by decide +kernel
theorem dX5_refusalOfSets_37 : decode cX5_refusalOfSets 37 = .ok (.aload_n 0, 1) := by decide +kernel
theorem dX5_refusalOfSets_38 : decode cX5_refusalOfSets 38 = .ok (.iconst 5, 1) := by decide +kernel
theorem dX5_refusalOfSets_39 : decode cX5_refusalOfSets 39 = .ok (.invokevirtual 68, 3) := by decide +kernel
theorem dX5_refusalOfSets_42 : decode cX5_refusalOfSets 42 = .ok (.ireturn, 1) := by decide +kernel
theorem dX5_refusalOfSets_43 : decode cX5_refusalOfSets 43 = .ok (.aload_n 0, 1) := by decide +kernel
theorem dX5_refusalOfSets_44 : decode cX5_refusalOfSets 44 = .ok (.getfield 14, 3) := by decide +kernel
theorem dX5_refusalOfSets_47 : decode cX5_refusalOfSets 47 = .ok (.iload_n 1, 1) := by decide +kernel
theorem dX5_refusalOfSets_48 : decode cX5_refusalOfSets 48 = .ok (.iconst 1, 1) := by decide +kernel
theorem dX5_refusalOfSets_49 : decode cX5_refusalOfSets 49 = .ok (.aload_n 0, 1) := by decide +kernel
theorem dX5_refusalOfSets_50 : decode cX5_refusalOfSets 50 = .ok (.getfield 31, 3) := by decide +kernel
theorem dX5_refusalOfSets_53 : decode cX5_refusalOfSets 53 = .ok (.getfield 126, 3) := by decide +kernel
theorem dX5_refusalOfSets_56 : decode cX5_refusalOfSets 56 = .ok (.ishl, 1) := by decide +kernel
theorem dX5_refusalOfSets_57 : decode cX5_refusalOfSets 57 = .ok (.invokevirtual 299, 3) := by decide +kernel
theorem dX5_refusalOfSets_60 : decode cX5_refusalOfSets 60 = .ok (.ifCond .eq 7, 3) := by decide +kernel
theorem dX5_refusalOfSets_63 : decode cX5_refusalOfSets 63 = .ok (.iconst 0, 1) := by decide +kernel
theorem dX5_refusalOfSets_64 : decode cX5_refusalOfSets 64 = .ok (.goto 8, 3) := by decide +kernel
theorem dX5_refusalOfSets_67 : decode cX5_refusalOfSets 67 = .ok (.aload_n 0, 1) := by decide +kernel
theorem dX5_refusalOfSets_68 : decode cX5_refusalOfSets 68 = .ok (.iconst 3, 1) := by decide +kernel
theorem dX5_refusalOfSets_69 : decode cX5_refusalOfSets 69 = .ok (.invokevirtual 68, 3) := by decide +kernel
theorem dX5_refusalOfSets_72 : decode cX5_refusalOfSets 72 = .ok (.ireturn, 1) := by decide +kernel
def p5_refusalOfSets_37 (M : SX) : Option (Int32 × SX) :=
  bd (p5_found 5 M) (fun r3 M2 => some (r3, M2))
set_option maxHeartbeats 4000000 in
set_option maxRecDepth 100000 in
theorem w5_refusalOfSets_37 {G : XG} {p : Program} {l : Launch} {e : Env} {s : State} {m : MethodId} {args : Array Value} {below : List Frame} {meth : Method} {c : Code} (F : Fx G ZX p m c cX5_refusalOfSets 3 s args RX5) (hr : meth.sig.returnType = some .int) (hk : meth.locks = false) {r : Int32} {M' : SX} : ∀ (M : SX) (H : Heap) (locs : List Loc) (ls : Array Slot), Wld G ZX M s.heap H locs → lv_has ls 3 [(0, .ref (G.2.1 0))] → p5_refusalOfSets_37 M = some (r, M') → WXi G ZX p l e 3 s m args below meth c r M' H locs (F0 m 37 ls []) := by
  intro M H locs ls hw hl hf
  have hx := F.1.1
  have hb := F.1.2.1
  unfold p5_refusalOfSets_37 at hf
  refine lv_aload_n hx hb dX5_refusalOfSets_37 rfl (lv_at hl 0 rfl) ?_
  refine lv_iconst (v := 5) hx hb dX5_refusalOfSets_38 (by decide) ?_
  obtain ⟨r3, M2, hc1, hf⟩ := bd_some hf
  refine x_aftI hw (x_runV (rest := []) F hw hl.1 vw_RX5_68 (sP) rfl (c5_found 5 hc1) rfl rfl (Nat.le_of_ble_eq_true rfl) ⟨Nat.le_of_ble_eq_true rfl, Nat.le_of_ble_eq_true rfl⟩ dX5_refusalOfSets_39) (fun H locs hw => ?_)
  exact x_iret F hw hr hk hf dX5_refusalOfSets_42
def p5_refusalOfSets (a1 : Int32) (M : SX) : Option (Int32 × SX) :=
  bd (p5_refusalOfAside a1 M) (fun r3 M2 => if r3 = 0 then (bd (p4_sizeOf 1 a1 M2) (fun r7 M6 => if r7 < (1 : Int32) then (p5_refusalOfSets_37 M6)
  else (bd (p4_sizeOf 1 a1 M6) (fun r11 M10 => if r11 ≤ (6 : Int32) then (bd (p4_allBelow 1 a1 ((1 : Int32) <<< ((M10.1 17 0) &&& 31)) M10) (fun r15 M14 => if r15 = 0 then (bd (p5_found 3 M14) (fun r19 M18 => some (r19, M18)))
  else (some (0, M14))))
  else (p5_refusalOfSets_37 M10)))))
  else (some (r3, M2)))
set_option maxHeartbeats 4000000 in
set_option maxRecDepth 100000 in
theorem c5_refusalOfSets {l : Launch} {G : XG} {r : Int32} {M' : SX} {M : SX} (a1 : Int32) (hf : p5_refusalOfSets a1 M = some (r, M')) : Met l yX5_refusalOfSets (.code yX5_refusalOfSets cX5_refusalOfSets 3 (some .int) :: TBL) (rmX 3) (xPc G ZX M [.ref (G.2.1 0), .int a1]) (xQi G ZX r M') 0 0 (inA G ZX) := by
  refine x_met (cc := cX5_refusalOfSets) (by decide) (Nat.le_of_ble_eq_true rfl) ?_
  intro p e s m below meth c ls F hr hk hl hw
  have F : Fx G ZX p m c cX5_refusalOfSets 3 s [.ref (G.2.1 0), .int a1].toArray RX5 := F
  have hl : lv_has ls 3 [(0, .ref (G.2.1 0)), (1, .int a1)] := hl
  have hx := F.1.1
  have hb := F.1.2.1
  unfold p5_refusalOfSets at hf
  refine lv_aload_n hx hb dX5_refusalOfSets_0 rfl (lv_at hl 0 rfl) ?_
  refine lv_iload_n hx hb dX5_refusalOfSets_1 rfl (lv_at hl 1 rfl) ?_
  obtain ⟨r3, M2, hc1, hf⟩ := bd_some hf
  refine x_aftI hw (x_runV (rest := []) F hw hl.1 vw_RX5_296 (sP) rfl (c5_refusalOfAside a1 hc1) rfl rfl (Nat.le_of_ble_eq_true rfl) ⟨Nat.le_of_ble_eq_true rfl, Nat.le_of_ble_eq_true rfl⟩ dX5_refusalOfSets_2) (fun H locs hw => ?_)
  refine lv_istore_n (lv' := [(2, .int r3), (0, .ref (G.2.1 0)), (1, .int a1)]) hx hb dX5_refusalOfSets_5 rfl hl (by decide) rfl (fun ls hl => ?_)
  refine lv_iload_n hx hb dX5_refusalOfSets_6 rfl (lv_at hl 0 rfl) ?_
  refine lv_if_eq (tgt := 12) hx hb dX5_refusalOfSets_7 (by decide) (fun c4 => ?_) (fun c4 => ?_)
  · have hf := it_t hf c4
    refine lv_aload_n hx hb dX5_refusalOfSets_12 rfl (lv_at hl 1 rfl) ?_
    refine g5_0 F hw tw_334 dX5_refusalOfSets_13 ?_
    refine lv_iload_n hx hb dX5_refusalOfSets_16 rfl (lv_at hl 2 rfl) ?_
    obtain ⟨r7, M6, hc5, hf⟩ := bd_some hf
    refine x_aftI hw (x_runV (rest := []) F hw hl.1 vw_RX5_106 (sS isS_1) rfl (c4_sizeOf 1 isS_1 a1 hc5) rfl rfl (Nat.le_of_ble_eq_true rfl) ⟨Nat.le_of_ble_eq_true rfl, Nat.le_of_ble_eq_true rfl⟩ dX5_refusalOfSets_17) (fun H locs hw => ?_)
    refine lv_iconst (v := 1) hx hb dX5_refusalOfSets_20 (by decide) ?_
    refine lv_icmp_lt (tgt := 37) hx hb dX5_refusalOfSets_21 (by decide) (fun c8 => ?_) (fun c8 => ?_)
    · have hf := it_t hf c8
      exact w5_refusalOfSets_37 F hr hk M6 _ _ ls hw (lv_sub hl [1] rfl) hf
    · have hf := it_f hf c8
      refine lv_aload_n hx hb dX5_refusalOfSets_24 rfl (lv_at hl 1 rfl) ?_
      refine g5_0 F hw tw_334 dX5_refusalOfSets_25 ?_
      refine lv_iload_n hx hb dX5_refusalOfSets_28 rfl (lv_at hl 2 rfl) ?_
      obtain ⟨r11, M10, hc9, hf⟩ := bd_some hf
      refine x_aftI hw (x_runV (rest := []) F hw hl.1 vw_RX5_106 (sS isS_1) rfl (c4_sizeOf 1 isS_1 a1 hc9) rfl rfl (Nat.le_of_ble_eq_true rfl) ⟨Nat.le_of_ble_eq_true rfl, Nat.le_of_ble_eq_true rfl⟩ dX5_refusalOfSets_29) (fun H locs hw => ?_)
      refine lv_bipush (v := 6) hx hb dX5_refusalOfSets_32 (by decide) ?_
      refine lv_icmp_le (tgt := 43) hx hb dX5_refusalOfSets_34 (by decide) (fun c12 => ?_) (fun c12 => ?_)
      · have hf := it_t hf c12
        refine lv_aload_n hx hb dX5_refusalOfSets_43 rfl (lv_at hl 1 rfl) ?_
        refine g5_0 F hw tw_334 dX5_refusalOfSets_44 ?_
        refine lv_iload_n hx hb dX5_refusalOfSets_47 rfl (lv_at hl 2 rfl) ?_
        refine lv_iconst (v := 1) hx hb dX5_refusalOfSets_48 (by decide) ?_
        refine lv_aload_n hx hb dX5_refusalOfSets_49 rfl (lv_at hl 1 rfl) ?_
        refine g5_3 F hw tw_306 dX5_refusalOfSets_50 ?_
        refine g1_0 isL_17 F hw tw_305 dX5_refusalOfSets_53 ?_
        refine lv_ishl hx hb dX5_refusalOfSets_56 ?_
        obtain ⟨r15, M14, hc13, hf⟩ := bd_some hf
        refine x_aftI hw (x_runV (rest := []) F hw hl.1 vw_RX5_299 (sS isS_1) rfl (c4_allBelow 1 isS_1 a1 ((1 : Int32) <<< ((M10.1 17 0) &&& 31)) hc13) rfl rfl (Nat.le_of_ble_eq_true rfl) ⟨Nat.le_of_ble_eq_true rfl, Nat.le_of_ble_eq_true rfl⟩ dX5_refusalOfSets_57) (fun H locs hw => ?_)
        refine lv_if_eq (tgt := 67) hx hb dX5_refusalOfSets_60 (by decide) (fun c16 => ?_) (fun c16 => ?_)
        · have hf := it_t hf c16
          refine lv_aload_n hx hb dX5_refusalOfSets_67 rfl (lv_at hl 1 rfl) ?_
          refine lv_iconst (v := 3) hx hb dX5_refusalOfSets_68 (by decide) ?_
          obtain ⟨r19, M18, hc17, hf⟩ := bd_some hf
          refine x_aftI hw (x_runV (rest := []) F hw hl.1 vw_RX5_68 (sP) rfl (c5_found 3 hc17) rfl rfl (Nat.le_of_ble_eq_true rfl) ⟨Nat.le_of_ble_eq_true rfl, Nat.le_of_ble_eq_true rfl⟩ dX5_refusalOfSets_69) (fun H locs hw => ?_)
          exact x_iret F hw hr hk hf dX5_refusalOfSets_72
        · have hf := it_f hf c16
          refine lv_iconst (v := 0) hx hb dX5_refusalOfSets_63 (by decide) ?_
          refine lv_goto (tgt := 72) hx hb dX5_refusalOfSets_64 (by decide) ?_
          exact x_iret F hw hr hk hf dX5_refusalOfSets_72
      · have hf := it_f hf c12
        exact w5_refusalOfSets_37 F hr hk M10 _ _ ls hw (lv_sub hl [1] rfl) hf
  · have hf := it_f hf c4
    refine lv_iload_n hx hb dX5_refusalOfSets_10 rfl (lv_at hl 0 rfl) ?_
    exact x_iret F hw hr hk hf dX5_refusalOfSets_11
