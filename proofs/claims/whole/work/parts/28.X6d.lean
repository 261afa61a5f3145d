theorem dX6_refused_0 : decode cX6_refused 0 = .ok (.iload_n 1, 1) := by decide +kernel
theorem dX6_refused_1 : decode cX6_refused 1 = .ok (.invokestatic 75, 3) := by decide +kernel
theorem dX6_refused_4 : decode cX6_refused 4 = .ok (.ifCond .ne 7, 3) := by decide +kernel
theorem dX6_refused_7 : decode cX6_refused 7 = .ok (.iconst (-1), 1) := by decide +kernel
theorem dX6_refused_8 : decode cX6_refused 8 = .ok (.goto 47, 3) := by decide +kernel
theorem dX6_refused_11 : decode cX6_refused 11 = .ok (.aload_n 0, 1) := by decide +kernel
theorem dX6_refused_12 : decode cX6_refused 12 = .ok (.getfield 16, 3) := by decide +kernel
theorem dX6_refused_15 : decode cX6_refused 15 = .ok (.iload_n 1, 1) := by decide +kernel
theorem dX6_refused_16 : decode cX6_refused 16 = .ok (.iaload, 1) := by decide +kernel
theorem dX6_refused_17 : decode cX6_refused 17 = .ok (.ifCond .ge 11, 3) := by decide +kernel
theorem dX6_refused_20 : decode cX6_refused 20 = .ok (.aload_n 0, 1) := by decide +kernel
theorem dX6_refused_21 : decode cX6_refused 21 = .ok (.iconst 1, 1) := by decide +kernel
theorem dX6_refused_22 : decode cX6_refused 22 = .ok (.invokevirtual 79, 3) := by decide +kernel
theorem dX6_refused_25 : decode cX6_refused 25 = .ok (.goto 30, 3) := by decide +kernel
theorem dX6_refused_28 : decode cX6_refused 28 = .ok (.iload_n 2, 1) := by decide +kernel
theorem dX6_refused_29 : decode cX6_refused 29 = .ok (.i2l, 1) := by decide +kernel
theorem dX6_refused_30 : decode cX6_refused 30 = .ok (.lconst 0, 1) := by decide +kernel
theorem dX6_refused_31 : decode cX6_refused 31 = .ok (.aload_n 0, 1) := by decide +kernel
theorem dX6_refused_32 : decode cX6_refused 32 = .ok (.getfield 16, 3) := by decide +kernel
theorem dX6_refused_35 : decode cX6_refused 35 = .ok (.iload_n 1, 1) := by decide +kernel
theorem dX6_refused_36 : decode cX6_refused 36 = .ok (.iaload, 1) := by decide +kernel
theorem dX6_refused_37 : decode cX6_refused 37 = .ok (.iconst 1, 1) := by decide +kernel
theorem dX6_refused_38 : decode cX6_refused 38 = .ok (.isub, 1) := by decide +kernel
theorem dX6_refused_39 : decode cX6_refused 39 = .ok (.i2l, 1) := by decide +kernel
theorem dX6_refused_40 : decode cX6_refused 40 = .ok (.invokestatic 69, 3) := by decide +kernel
theorem dX6_refused_43 : decode cX6_refused 43 = .ok (.ifCond .eq 7, 3) := by decide +kernel
theorem dX6_refused_46 : decode cX6_refused 46 = .ok (.iconst 0, 1) := by decide +kernel
theorem dX6_refused_47 : decode cX6_refused 47 = .ok (.goto 8, 3) := by decide +kernel
theorem dX6_refused_50 : decode cX6_refused 50 = .ok (.aload_n 0, 1) := by decide +kernel
theorem dX6_refused_51 : decode cX6_refused 51 = .ok (.iconst 2, 1) := by decide +kernel
theorem dX6_refused_52 : decode cX6_refused 52 = .ok (.invokevirtual 79, 3) := by decide +kernel
theorem dX6_refused_55 : decode cX6_refused 55 = .ok (.ireturn, 1) := by decide +kernel
def p6_refused (a1 : Int32) (a2 : Int32) (M : SX) : Option (Int32 × SX) :=
  bd (p6_isRow a1 M) (fun r3 M2 => if r3 = 0 then (some ((-1), M2))
  else (gd (bIn a1 6) ( if 0 ≤ (M2.1 3 (Int32.toNatClampNeg a1)) then (bd (p6_in (Int32.toInt64 a2) 0 (Int32.toInt64 ((M2.1 3 (Int32.toNatClampNeg a1)) - 1)) M2) (fun r9 M8 => if r9 = 0 then (bd (p6_find 2 M8) (fun r13 M12 => some (r13, M12)))
  else (some (0, M8))))
  else (bd (p6_find 1 M2) (fun r16 M15 => some (r16, M15))))))
set_option maxHeartbeats 4000000 in
set_option maxRecDepth 100000 in
theorem c6_refused {l : Launch} {G : XG} {r : Int32} {M' : SX} {M : SX} (a1 : Int32) (a2 : Int32) (hf : p6_refused a1 a2 M = some (r, M')) : Met l yX6_refused (.code yX6_refused cX6_refused 3 (some .int) :: TBL) (rmX 2) (xPc G ZY M [.ref (G.2.1 0), .int a1, .int a2]) (xQi G ZY r M') 0 0 (inA G ZY) := by
  refine x_met (cc := cX6_refused) (by decide) (Nat.le_of_ble_eq_true rfl) ?_
  intro p e s m below meth c ls F hr hk hl hw
  have F : Fx G ZY p m c cX6_refused 3 s [.ref (G.2.1 0), .int a1, .int a2].toArray RX6 := F
  have hl : lv_has ls 3 [(0, .ref (G.2.1 0)), (1, .int a1), (2, .int a2)] := hl
  have hx := F.1.1
  have hb := F.1.2.1
  unfold p6_refused at hf
  refine lv_iload_n hx hb dX6_refused_0 rfl (lv_at hl 1 rfl) ?_
  obtain ⟨r3, M2, hc1, hf⟩ := bd_some hf
  refine x_aftI hw (x_runS (rest := []) F hw hl.1 sw_RX6_75 (c6_isRow a1 hc1) rfl rfl (Nat.le_of_ble_eq_true rfl) ⟨Nat.le_of_ble_eq_true rfl, Nat.le_of_ble_eq_true rfl⟩ dX6_refused_1) (fun H locs hw => ?_)
  refine lv_if_ne (tgt := 11) hx hb dX6_refused_4 (by decide) (fun c4 => ?_) (fun c4 => ?_)
  · have hf := it_f hf c4
    refine lv_aload_n hx hb dX6_refused_11 rfl (lv_at hl 0 rfl) ?_
    refine g6_3 F hw tw_606 dX6_refused_12 ?_
    refine lv_iload_n hx hb dX6_refused_15 rfl (lv_at hl 1 rfl) ?_
    obtain ⟨g5, hf⟩ := gd_some hf
    refine x_iald F hw sM3 g5 dX6_refused_16 ?_
    refine lv_if_ge (tgt := 28) hx hb dX6_refused_17 (by decide) (fun c6 => ?_) (fun c6 => ?_)
    · have hf := it_t hf c6
      refine lv_iload_n hx hb dX6_refused_28 rfl (lv_at hl 2 rfl) ?_
      refine lv_i2l (v := Int32.toInt64 a2) hx hb dX6_refused_29 rfl ?_
      refine lv_lconst (v := 0) hx hb dX6_refused_30 (by decide) ?_
      refine lv_aload_n hx hb dX6_refused_31 rfl (lv_at hl 0 rfl) ?_
      refine g6_3 F hw tw_606 dX6_refused_32 ?_
      refine lv_iload_n hx hb dX6_refused_35 rfl (lv_at hl 1 rfl) ?_
      refine x_iald F hw sM3 g5 dX6_refused_36 ?_
      refine lv_iconst (v := 1) hx hb dX6_refused_37 (by decide) ?_
      refine lv_isub hx hb dX6_refused_38 ?_
      refine lv_i2l (v := Int32.toInt64 ((M2.1 3 (Int32.toNatClampNeg a1)) - 1)) hx hb dX6_refused_39 rfl ?_
      obtain ⟨r9, M8, hc7, hf⟩ := bd_some hf
      refine x_aftI hw (x_runS (rest := []) F hw hl.1 sw_RX6_69 (c6_in (Int32.toInt64 a2) 0 (Int32.toInt64 ((M2.1 3 (Int32.toNatClampNeg a1)) - 1)) hc7) rfl rfl (Nat.le_of_ble_eq_true rfl) ⟨Nat.le_of_ble_eq_true rfl, Nat.le_of_ble_eq_true rfl⟩ dX6_refused_40) (fun H locs hw => ?_)
      refine lv_if_eq (tgt := 50) hx hb dX6_refused_43 (by decide) (fun c10 => ?_) (fun c10 => ?_)
      · have hf := it_t hf c10
        refine lv_aload_n hx hb dX6_refused_50 rfl (lv_at hl 0 rfl) ?_
        refine lv_iconst (v := 2) hx hb dX6_refused_51 (by decide) ?_
        obtain ⟨r13, M12, hc11, hf⟩ := bd_some hf
        refine x_aftI hw (x_runV (rest := []) F hw hl.1 vw_RX6_79 (sM) rfl (c6_find 2 hc11) rfl rfl (Nat.le_of_ble_eq_true rfl) ⟨Nat.le_of_ble_eq_true rfl, Nat.le_of_ble_eq_true rfl⟩ dX6_refused_52) (fun H locs hw => ?_)
        exact x_iret F hw hr hk hf dX6_refused_55
      · have hf := it_f hf c10
        refine lv_iconst (v := 0) hx hb dX6_refused_46 (by decide) ?_
        refine lv_goto (tgt := 55) hx hb dX6_refused_47 (by decide) ?_
        exact x_iret F hw hr hk hf dX6_refused_55
    · have hf := it_f hf c6
      refine lv_aload_n hx hb dX6_refused_20 rfl (lv_at hl 0 rfl) ?_
      refine lv_iconst (v := 1) hx hb dX6_refused_21 (by decide) ?_
      obtain ⟨r16, M15, hc14, hf⟩ := bd_some hf
      refine x_aftI hw (x_runV (rest := []) F hw hl.1 vw_RX6_79 (sM) rfl (c6_find 1 hc14) rfl rfl (Nat.le_of_ble_eq_true rfl) ⟨Nat.le_of_ble_eq_true rfl, Nat.le_of_ble_eq_true rfl⟩ dX6_refused_22) (fun H locs hw => ?_)
      refine lv_goto (tgt := 55) hx hb dX6_refused_25 (by decide) ?_
      exact x_iret F hw hr hk hf dX6_refused_55
  · have hf := it_t hf c4
    refine lv_iconst (v := (-1)) hx hb dX6_refused_7 (by decide) ?_
    refine lv_goto (tgt := 55) hx hb dX6_refused_8 (by decide) ?_
    exact x_iret F hw hr hk hf dX6_refused_55
theorem dX6_tear_0 : decode cX6_tear 0 = .ok (.iload_n 1, 1) := by decide +kernel
theorem dX6_tear_1 : decode cX6_tear 1 = .ok (.invokestatic 75, 3) := by decide +kernel
theorem dX6_tear_4 : decode cX6_tear 4 = .ok (.ifCond .ne 5, 3) := by decide +kernel
theorem dX6_tear_7 : decode cX6_tear 7 = .ok (.iconst (-1), 1) := by decide +kernel
theorem dX6_tear_8 : decode cX6_tear 8 = .ok (.ireturn, 1) := by decide +kernel
theorem dX6_tear_9 : decode cX6_tear 9 = .ok (.aload_n 0, 1) := by decide +kernel
theorem dX6_tear_10 : decode cX6_tear 10 = .ok (.getfield 16, 3) := by decide +kernel
theorem dX6_tear_13 : decode cX6_tear 13 = .ok (.iload_n 1, 1) := by decide +kernel
theorem dX6_tear_14 : decode cX6_tear 14 = .ok (.iaload, 1) := by decide +kernel
theorem dX6_tear_15 : decode cX6_tear 15 = .ok (.ifCond .ge 9, 3) := by decide +kernel
theorem dX6_tear_18 : decode cX6_tear 18 = .ok (.aload_n 0, 1) := by decide +kernel
theorem dX6_tear_19 : decode cX6_tear 19 = .ok (.iconst 1, 1) := by decide +kernel
theorem dX6_tear_20 : decode cX6_tear 20 = .ok (.invokevirtual 79, 3) := by decide +kernel
theorem dX6_tear_23 : decode cX6_tear 23 = .ok (.ireturn, 1) := by decide +kernel
theorem dX6_tear_24 : decode cX6_tear 24 = .ok (.aload_n 0, 1) := by decide +kernel
theorem dX6_tear_25 : decode cX6_tear 25 = .ok (.getfield 16, 3) := by decide +kernel
theorem dX6_tear_28 : decode cX6_tear 28 = .ok (.iload_n 1, 1) := by decide +kernel
theorem dX6_tear_29 : decode cX6_tear 29 = .ok (.iconst (-1), 1) := by decide +kernel
theorem dX6_tear_30 : decode cX6_tear 30 = .ok (.iastore, 1) := by decide +kernel
theorem dX6_tear_31 : decode cX6_tear 31 = .ok (.iconst 1, 1) := by decide +kernel
theorem dX6_tear_32 : decode cX6_tear 32 = .ok (.ireturn, 1) := by decide +kernel
def p6_tear (a1 : Int32) (M : SX) : Option (Int32 × SX) :=
  bd (p6_isRow a1 M) (fun r3 M2 => if r3 = 0 then (some ((-1), M2))
  else (gd (bIn a1 6) ( if 0 ≤ (M2.1 3 (Int32.toNatClampNeg a1)) then (lt_ (wI M2 3 (Int32.toNatClampNeg a1) (-1)) (fun M7 => some (1, M7)))
  else (bd (p6_find 1 M2) (fun r10 M9 => some (r10, M9))))))
set_option maxHeartbeats 4000000 in
set_option maxRecDepth 100000 in
theorem c6_tear {l : Launch} {G : XG} {r : Int32} {M' : SX} {M : SX} (a1 : Int32) (hf : p6_tear a1 M = some (r, M')) : Met l yX6_tear (.code yX6_tear cX6_tear 2 (some .int) :: TBL) (rmX 2) (xPc G ZY M [.ref (G.2.1 0), .int a1]) (xQi G ZY r M') 0 0 (inA G ZY) := by
  refine x_met (cc := cX6_tear) (by decide) (Nat.le_of_ble_eq_true rfl) ?_
  intro p e s m below meth c ls F hr hk hl hw
  have F : Fx G ZY p m c cX6_tear 2 s [.ref (G.2.1 0), .int a1].toArray RX6 := F
  have hl : lv_has ls 2 [(0, .ref (G.2.1 0)), (1, .int a1)] := hl
  have hx := F.1.1
  have hb := F.1.2.1
  unfold p6_tear at hf
  refine lv_iload_n hx hb dX6_tear_0 rfl (lv_at hl 1 rfl) ?_
  obtain ⟨r3, M2, hc1, hf⟩ := bd_some hf
  refine x_aftI hw (x_runS (rest := []) F hw hl.1 sw_RX6_75 (c6_isRow a1 hc1) rfl rfl (Nat.le_of_ble_eq_true rfl) ⟨Nat.le_of_ble_eq_true rfl, Nat.le_of_ble_eq_true rfl⟩ dX6_tear_1) (fun H locs hw => ?_)
  refine lv_if_ne (tgt := 9) hx hb dX6_tear_4 (by decide) (fun c4 => ?_) (fun c4 => ?_)
  · have hf := it_f hf c4
    refine lv_aload_n hx hb dX6_tear_9 rfl (lv_at hl 0 rfl) ?_
    refine g6_3 F hw tw_606 dX6_tear_10 ?_
    refine lv_iload_n hx hb dX6_tear_13 rfl (lv_at hl 1 rfl) ?_
    obtain ⟨g5, hf⟩ := gd_some hf
    refine x_iald F hw sM3 g5 dX6_tear_14 ?_
    refine lv_if_ge (tgt := 24) hx hb dX6_tear_15 (by decide) (fun c6 => ?_) (fun c6 => ?_)
    · have hf := it_t hf c6
      refine lv_aload_n hx hb dX6_tear_24 rfl (lv_at hl 0 rfl) ?_
      refine g6_3 F hw tw_606 dX6_tear_25 ?_
      refine lv_iload_n hx hb dX6_tear_28 rfl (lv_at hl 1 rfl) ?_
      refine lv_iconst (v := (-1)) hx hb dX6_tear_29 (by decide) ?_
      refine x_iast F hw sM3 g5 dX6_tear_30 (fun H locs hw => ?_)
      obtain ⟨M7, eM7, hf⟩ := lt_elim hf
      rw [← eM7] at hw
      refine lv_iconst (v := 1) hx hb dX6_tear_31 (by decide) ?_
      exact x_iret F hw hr hk hf dX6_tear_32
    · have hf := it_f hf c6
      refine lv_aload_n hx hb dX6_tear_18 rfl (lv_at hl 0 rfl) ?_
      refine lv_iconst (v := 1) hx hb dX6_tear_19 (by decide) ?_
      obtain ⟨r10, M9, hc8, hf⟩ := bd_some hf
      refine x_aftI hw (x_runV (rest := []) F hw hl.1 vw_RX6_79 (sM) rfl (c6_find 1 hc8) rfl rfl (Nat.le_of_ble_eq_true rfl) ⟨Nat.le_of_ble_eq_true rfl, Nat.le_of_ble_eq_true rfl⟩ dX6_tear_20) (fun H locs hw => ?_)
      exact x_iret F hw hr hk hf dX6_tear_23
  · have hf := it_t hf c4
    refine lv_iconst (v := (-1)) hx hb dX6_tear_7 (by decide) ?_
    exact x_iret F hw hr hk hf dX6_tear_8
theorem dX6_copy_0 : decode cX6_copy 0 = .ok (.iload_n 1, 1) := by decide +kernel
theorem dX6_copy_1 : decode cX6_copy 1 = .ok (.invokestatic 75, 3) := by decide +kernel
theorem dX6_copy_4 : decode cX6_copy 4 = .ok (.ifCond .eq 10, 3) := by decide +kernel
theorem dX6_copy_7 : decode cX6_copy 7 = .ok (.iload_n 3, 1) := by decide +kernel
theorem dX6_copy_8 : decode cX6_copy 8 = .ok (.invokestatic 75, 3) := by decide +kernel
theorem dX6_copy_11 : decode cX6_copy 11 = .ok (.ifCond .ne 5, 3) := by decide +kernel
theorem dX6_copy_14 : decode cX6_copy 14 = .ok (.iconst (-1), 1) := by decide +kernel
theorem dX6_copy_15 : decode cX6_copy 15 = .ok (.ireturn, 1) := by decide +kernel
theorem dX6_copy_16 : decode cX6_copy 16 = .ok (.iload 5, 2) := by decide +kernel
theorem dX6_copy_18 : decode cX6_copy 18 = .ok (.ifCond .ge 9, 3) := by decide +kernel
theorem dX6_copy_21 : decode cX6_copy 21 = .ok (.aload_n 0, 1) := by decide +kernel
theorem dX6_copy_22 : decode cX6_copy 22 = .ok (.iconst 5, 1) := by decide +kernel
theorem dX6_copy_23 : decode cX6_copy 23 = .ok (.invokevirtual 79, 3) := by decide +kernel
theorem dX6_copy_26 : decode cX6_copy 26 = .ok (.ireturn, 1) := by decide +kernel
theorem dX6_copy_27 : decode cX6_copy 27 = .ok (.aload_n 0, 1) := by decide +kernel
theorem dX6_copy_28 : decode cX6_copy 28 = .ok (.getfield 16, 3) := by decide +kernel
theorem dX6_copy_31 : decode cX6_copy 31 = .ok (.iload_n 1, 1) := by decide +kernel
theorem dX6_copy_32 : decode cX6_copy 32 = .ok (.iaload, 1) := by decide +kernel
theorem dX6_copy_33 : decode cX6_copy 33 = .ok (.ifCond .lt 12, 3) := by decide +kernel
theorem dX6_copy_36 : decode cX6_copy 36 = .ok (.aload_n 0, 1) := by decide +kernel
theorem dX6_copy_37 : decode cX6_copy 37 = .ok (.getfield 16, 3) := by decide +kernel
theorem dX6_copy_40 : decode cX6_copy 40 = .ok (.iload_n 3, 1) := by decide +kernel
theorem dX6_copy_41 : decode cX6_copy 41 = .ok (.iaload, 1) := by decide +kernel
theorem dX6_copy_42 : decode cX6_copy 42 = .ok (.ifCond .ge 9, 3) := by decide +kernel
theorem dX6_copy_45 : decode cX6_copy 45 = .ok (.aload_n 0, 1) := by decide +kernel
theorem dX6_copy_46 : decode cX6_copy 46 = .ok (.iconst 1, 1) := by decide +kernel
theorem dX6_copy_47 : decode cX6_copy 47 = .ok (.invokevirtual 79, 3) := by decide +kernel
theorem dX6_copy_50 : decode cX6_copy 50 = .ok (.ireturn, 1) := by decide +kernel
theorem dX6_copy_51 : decode cX6_copy 51 = .ok (.aload_n 0, 1) := by decide +kernel
theorem dX6_copy_52 : decode cX6_copy 52 = .ok (.iload_n 1, 1) := by decide +kernel
theorem dX6_copy_53 : decode cX6_copy 53 = .ok (.iload_n 2, 1) := by decide +kernel
theorem dX6_copy_54 : decode cX6_copy 54 = .ok (.iload 5, 2) := by decide +kernel
theorem dX6_copy_56 : decode cX6_copy 56 = .ok (.invokevirtual 94, 3) := by decide +kernel
theorem dX6_copy_59 : decode cX6_copy 59 = .ok (.ifCond .eq 15, 3) := by decide +kernel
theorem dX6_copy_62 : decode cX6_copy 62 = .ok (.aload_n 0, 1) := by decide +kernel
theorem dX6_copy_63 : decode cX6_copy 63 = .ok (.iload_n 3, 1) := by decide +kernel
theorem dX6_copy_64 : decode cX6_copy 64 = .ok (.iload 4, 2) := by decide +kernel
theorem dX6_copy_66 : decode cX6_copy 66 = .ok (.iload 5, 2) := by decide +kernel
theorem dX6_copy_68 : decode cX6_copy 68 = .ok (.invokevirtual 94, 3) := by decide +kernel
theorem dX6_copy_71 : decode cX6_copy 71 = .ok (.ifCond .ne 9, 3) := by decide +kernel
theorem dX6_copy_74 : decode cX6_copy 74 = .ok (.aload_n 0, 1) := by decide +kernel
theorem dX6_copy_75 : decode cX6_copy 75 = .ok (.iconst 2, 1) := by decide +kernel
theorem dX6_copy_76 : decode cX6_copy 76 = .ok (.invokevirtual 79, 3) := by decide +kernel
theorem dX6_copy_79 : decode cX6_copy 79 = .ok (.ireturn, 1) := by decide +kernel
theorem dX6_copy_80 : decode cX6_copy 80 = .ok (.iload_n 2, 1) := by decide +kernel
theorem dX6_copy_81 : decode cX6_copy 81 = .ok (.iload 4, 2) := by decide +kernel
theorem dX6_copy_83 : decode cX6_copy 83 = .ok (.if_icmp .ge 7, 3) := by decide +kernel
theorem dX6_copy_86 : decode cX6_copy 86 = .ok (.iconst 1, 1) := by decide +kernel
theorem dX6_copy_87 : decode cX6_copy 87 = .ok (.goto 4, 3) := by decide +kernel
theorem dX6_copy_90 : decode cX6_copy 90 = .ok (.iconst 0, 1) := by decide +kernel
theorem dX6_copy_91 : decode cX6_copy 91 = .ok (.istore 6, 2) := by decide +kernel
theorem dX6_copy_93 : decode cX6_copy 93 = .ok (.iconst 0, 1) := by decide +kernel
theorem dX6_copy_94 : decode cX6_copy 94 = .ok (.istore 7, 2) := by decide +kernel
theorem dX6_copy_96 : decode cX6_copy 96 = .ok (.iload 7, 2) := by decide +kernel
theorem dX6_copy_98 : decode cX6_copy 98 = .ok (.iload 5, 2) := by decide +kernel
theorem dX6_copy_100 : decode cX6_copy 100 = .ok (.if_icmp .ge 57, 3) := by decide +kernel
theorem dX6_copy_103 : decode cX6_copy 103 = .ok (.iload 6, 2) := by decide +kernel
theorem dX6_copy_105 : decode cX6_copy 105 = .ok (.ifCond .eq 13, 3) := by decide +kernel
theorem dX6_copy_108 : decode cX6_copy 108 = .ok (.iload 5, 2) := by decide +kernel
theorem dX6_copy_110 : decode cX6_copy 110 = .ok (.iconst 1, 1) := by decide +kernel
theorem dX6_copy_111 : decode cX6_copy 111 = .ok (.isub, 1) := by decide +kernel
theorem dX6_copy_112 : decode cX6_copy 112 = .ok (.iload 7, 2) := by decide +kernel
theorem dX6_copy_114 : decode cX6_copy 114 = .ok (.isub, 1) := by decide +kernel
theorem dX6_copy_115 : decode cX6_copy 115 = .ok (.goto 5, 3) := by decide +kernel
theorem dX6_copy_118 : decode cX6_copy 118 = .ok (.iload 7, 2) := by decide +kernel
theorem dX6_copy_120 : decode cX6_copy 120 = .ok (.istore 8, 2) := by decide +kernel
theorem dX6_copy_122 : decode cX6_copy 122 = .ok (.aload_n 0, 1) := by decide +kernel
theorem dX6_copy_123 : decode cX6_copy 123 = .ok (.getfield 19, 3) := by decide +kernel
theorem dX6_copy_126 : decode cX6_copy 126 = .ok (.bipush 40, 2) := by decide +kernel
theorem dX6_copy_128 : decode cX6_copy 128 = .ok (.iload_n 3, 1) := by decide +kernel
theorem dX6_copy_129 : decode cX6_copy 129 = .ok (.imul, 1) := by decide +kernel
theorem dX6_copy_130 : decode cX6_copy 130 = .ok (.iload 4, 2) := by decide +kernel
theorem dX6_copy_132 : decode cX6_copy 132 = .ok (.iadd, 1) := by decide +kernel
theorem dX6_copy_133 : decode cX6_copy 133 = .ok (.iload 8, 2) := by decide +kernel
theorem dX6_copy_135 : decode cX6_copy 135 = .ok (.iadd, 1) := by decide +kernel
theorem dX6_copy_136 : decode cX6_copy 136 = .ok (.aload_n 0, 1) := by decide +kernel
theorem dX6_copy_137 : decode cX6_copy 137 = .ok (.getfield 19, 3) := by decide +kernel
theorem dX6_copy_140 : decode cX6_copy 140 = .ok (.bipush 40, 2) := by decide +kernel
theorem dX6_copy_142 : decode cX6_copy 142 = .ok (.iload_n 1, 1) := by decide +kernel
theorem dX6_copy_143 : decode cX6_copy 143 = .ok (.imul, 1) := by decide +kernel
theorem dX6_copy_144 : decode cX6_copy 144 = .ok (.iload_n 2, 1) := by decide +kernel
theorem dX6_copy_145 : decode cX6_copy 145 = .ok (.iadd, 1) := by decide +kernel
theorem dX6_copy_146 : decode cX6_copy 146 = .ok (.iload 8, 2) := by decide +kernel
theorem dX6_copy_148 : decode cX6_copy 148 = .ok (.iadd, 1) := by decide +kernel
theorem dX6_copy_149 : decode cX6_copy 149 = .ok (.iaload, 1) := by decide +kernel
theorem dX6_copy_150 : decode cX6_copy 150 = .ok (.iastore, 1) := by decide +kernel
theorem dX6_copy_151 : decode cX6_copy 151 = .ok (.iinc 7 1, 3) := by decide +kernel
theorem dX6_copy_154 : decode cX6_copy 154 = .ok (.goto (-58), 3) := by decide +kernel
theorem dX6_copy_157 : decode cX6_copy 157 = .ok (.iconst 1, 1) := by decide +kernel
theorem dX6_copy_158 : decode cX6_copy 158 = .ok (.ireturn, 1) := by decide +kernel
def p6_copy_45 (M : SX) : Option (Int32 × SX) :=
  bd (p6_find 1 M) (fun r3 M2 => some (r3, M2))
set_option maxHeartbeats 4000000 in
set_option maxRecDepth 100000 in
theorem w6_copy_45 {G : XG} {p : Program} {l : Launch} {e : Env} {s : State} {m : MethodId} {args : Array Value} {below : List Frame} {meth : Method} {c : Code} (F : Fx G ZY p m c cX6_copy 9 s args RX6) (hr : meth.sig.returnType = some .int) (hk : meth.locks = false) {r : Int32} {M' : SX} : ∀ (M : SX) (H : Heap) (locs : List Loc) (ls : Array Slot), Wld G ZY M s.heap H locs → lv_has ls 9 [(0, .ref (G.2.1 0))] → p6_copy_45 M = some (r, M') → WXi G ZY p l e 2 s m args below meth c r M' H locs (F0 m 45 ls []) := by
  intro M H locs ls hw hl hf
  have hx := F.1.1
  have hb := F.1.2.1
  unfold p6_copy_45 at hf
  refine lv_aload_n hx hb dX6_copy_45 rfl (lv_at hl 0 rfl) ?_
  refine lv_iconst (v := 1) hx hb dX6_copy_46 (by decide) ?_
  obtain ⟨r3, M2, hc1, hf⟩ := bd_some hf
  refine x_aftI hw (x_runV (rest := []) F hw hl.1 vw_RX6_79 (sM) rfl (c6_find 1 hc1) rfl rfl (Nat.le_of_ble_eq_true rfl) ⟨Nat.le_of_ble_eq_true rfl, Nat.le_of_ble_eq_true rfl⟩ dX6_copy_47) (fun H locs hw => ?_)
  exact x_iret F hw hr hk hf dX6_copy_50
def p6_copy_74 (M : SX) : Option (Int32 × SX) :=
  bd (p6_find 2 M) (fun r3 M2 => some (r3, M2))
set_option maxHeartbeats 4000000 in
set_option maxRecDepth 100000 in
theorem w6_copy_74 {G : XG} {p : Program} {l : Launch} {e : Env} {s : State} {m : MethodId} {args : Array Value} {below : List Frame} {meth : Method} {c : Code} (F : Fx G ZY p m c cX6_copy 9 s args RX6) (hr : meth.sig.returnType = some .int) (hk : meth.locks = false) {r : Int32} {M' : SX} : ∀ (M : SX) (H : Heap) (locs : List Loc) (ls : Array Slot), Wld G ZY M s.heap H locs → lv_has ls 9 [(0, .ref (G.2.1 0))] → p6_copy_74 M = some (r, M') → WXi G ZY p l e 2 s m args below meth c r M' H locs (F0 m 74 ls []) := by
  intro M H locs ls hw hl hf
  have hx := F.1.1
  have hb := F.1.2.1
  unfold p6_copy_74 at hf
  refine lv_aload_n hx hb dX6_copy_74 rfl (lv_at hl 0 rfl) ?_
  refine lv_iconst (v := 2) hx hb dX6_copy_75 (by decide) ?_
  obtain ⟨r3, M2, hc1, hf⟩ := bd_some hf
  refine x_aftI hw (x_runV (rest := []) F hw hl.1 vw_RX6_79 (sM) rfl (c6_find 2 hc1) rfl rfl (Nat.le_of_ble_eq_true rfl) ⟨Nat.le_of_ble_eq_true rfl, Nat.le_of_ble_eq_true rfl⟩ dX6_copy_76) (fun H locs hw => ?_)
  exact x_iret F hw hr hk hf dX6_copy_79
def p6_copy_120 (k96 : Int32 → Int32 → Int32 → Int32 → Int32 → Int32 → Int32 → SX → Option (Int32 × SX)) (v1 : Int32) (v2 : Int32) (v3 : Int32) (v4 : Int32) (v5 : Int32) (v6 : Int32) (v7 : Int32) (t0 : Int32) (M : SX) : Option (Int32 × SX) :=
  gd (bIn (((40 * v1) + v2) + t0) 240) ( gd (bIn (((40 * v3) + v4) + t0) 240) ( lt_ (wI M 4 (Int32.toNatClampNeg (((40 * v3) + v4) + t0)) (M.1 4 (Int32.toNatClampNeg (((40 * v1) + v2) + t0)))) (fun M3 => lt_ (v7 + 1) (fun x4 => k96 v1 v2 v3 v4 v5 v6 x4 M3))))
set_option maxHeartbeats 4000000 in
set_option maxRecDepth 100000 in
theorem w6_copy_120 {G : XG} {p : Program} {l : Launch} {e : Env} {s : State} {m : MethodId} {args : Array Value} {below : List Frame} {meth : Method} {c : Code} (F : Fx G ZY p m c cX6_copy 9 s args RX6) (hr : meth.sig.returnType = some .int) (hk : meth.locks = false) {r : Int32} {M' : SX} (k96 : Int32 → Int32 → Int32 → Int32 → Int32 → Int32 → Int32 → SX → Option (Int32 × SX)) (hk96 : ∀ (v1 : Int32) (v2 : Int32) (v3 : Int32) (v4 : Int32) (v5 : Int32) (v6 : Int32) (v7 : Int32) (M : SX) (H : Heap) (locs : List Loc) (ls : Array Slot), Wld G ZY M s.heap H locs → lv_has ls 9 [(0, .ref (G.2.1 0)), (1, .int v1), (2, .int v2), (3, .int v3), (4, .int v4), (5, .int v5), (6, .int v6), (7, .int v7)] → k96 v1 v2 v3 v4 v5 v6 v7 M = some (r, M') → WXi G ZY p l e 2 s m args below meth c r M' H locs (F0 m 96 ls [])) : ∀ (v1 : Int32) (v2 : Int32) (v3 : Int32) (v4 : Int32) (v5 : Int32) (v6 : Int32) (v7 : Int32) (t0 : Int32) (M : SX) (H : Heap) (locs : List Loc) (ls : Array Slot), Wld G ZY M s.heap H locs → lv_has ls 9 [(0, .ref (G.2.1 0)), (1, .int v1), (2, .int v2), (3, .int v3), (4, .int v4), (5, .int v5), (6, .int v6), (7, .int v7)] → p6_copy_120 k96 v1 v2 v3 v4 v5 v6 v7 t0 M = some (r, M') → WXi G ZY p l e 2 s m args below meth c r M' H locs (F0 m 120 ls [.int t0]) := by
  intro v1 v2 v3 v4 v5 v6 v7 t0 M H locs ls hw hl hf
  have hx := F.1.1
  have hb := F.1.2.1
  unfold p6_copy_120 at hf
  refine lv_istore (lv' := [(8, .int t0), (0, .ref (G.2.1 0)), (1, .int v1), (2, .int v2), (3, .int v3), (4, .int v4), (5, .int v5), (6, .int v6), (7, .int v7)]) hx hb dX6_copy_120 hl (by decide) rfl (fun ls hl => ?_)
  refine lv_aload_n hx hb dX6_copy_122 rfl (lv_at hl 1 rfl) ?_
  refine g6_4 F hw tw_605 dX6_copy_123 ?_
  refine lv_bipush (v := 40) hx hb dX6_copy_126 (by decide) ?_
  refine lv_iload_n hx hb dX6_copy_128 rfl (lv_at hl 4 rfl) ?_
  refine lv_imul hx hb dX6_copy_129 ?_
  refine lv_iload hx hb dX6_copy_130 (lv_at hl 5 rfl) ?_
  refine lv_iadd hx hb dX6_copy_132 ?_
  refine lv_iload hx hb dX6_copy_133 (lv_at hl 0 rfl) ?_
  refine lv_iadd hx hb dX6_copy_135 ?_
  refine lv_aload_n hx hb dX6_copy_136 rfl (lv_at hl 1 rfl) ?_
  refine g6_4 F hw tw_605 dX6_copy_137 ?_
  refine lv_bipush (v := 40) hx hb dX6_copy_140 (by decide) ?_
  refine lv_iload_n hx hb dX6_copy_142 rfl (lv_at hl 2 rfl) ?_
  refine lv_imul hx hb dX6_copy_143 ?_
  refine lv_iload_n hx hb dX6_copy_144 rfl (lv_at hl 3 rfl) ?_
  refine lv_iadd hx hb dX6_copy_145 ?_
  refine lv_iload hx hb dX6_copy_146 (lv_at hl 0 rfl) ?_
  refine lv_iadd hx hb dX6_copy_148 ?_
  obtain ⟨g1, hf⟩ := gd_some hf
  refine x_iald F hw sM4 g1 dX6_copy_149 ?_
  obtain ⟨g2, hf⟩ := gd_some hf
  refine x_iast F hw sM4 g2 dX6_copy_150 (fun H locs hw => ?_)
  obtain ⟨M3, eM3, hf⟩ := lt_elim hf
  rw [← eM3] at hw
  obtain ⟨x4, ex4, hf⟩ := lt_elim hf
  refine lv_iinc (v := x4) (lv' := [(7, .int x4), (8, .int t0), (0, .ref (G.2.1 0)), (1, .int v1), (2, .int v2), (3, .int v3), (4, .int v4), (5, .int v5), (6, .int v6)]) hx hb dX6_copy_151 hl (k := 8) rfl (by rw [ex4]; rfl) (by decide) rfl (fun ls hl => ?_)
  refine lv_goto (tgt := 96) hx hb dX6_copy_154 (by decide) ?_
  exact hk96 v1 v2 v3 v4 v5 v6 x4 M3 _ _ ls hw (lv_sub hl [2, 3, 4, 5, 6, 7, 8, 0] rfl) hf
def p6_copy_96 (k96 : Int32 → Int32 → Int32 → Int32 → Int32 → Int32 → Int32 → SX → Option (Int32 × SX)) (v1 : Int32) (v2 : Int32) (v3 : Int32) (v4 : Int32) (v5 : Int32) (v6 : Int32) (v7 : Int32) (M : SX) : Option (Int32 × SX) :=
  if v5 ≤ v7 then (some (1, M))
  else (if v6 = 0 then (p6_copy_120 k96 v1 v2 v3 v4 v5 v6 v7 v7 M)
  else (p6_copy_120 k96 v1 v2 v3 v4 v5 v6 v7 ((v5 - 1) - v7) M))
set_option maxHeartbeats 4000000 in
set_option maxRecDepth 100000 in
theorem w6_copy_96 {G : XG} {p : Program} {l : Launch} {e : Env} {s : State} {m : MethodId} {args : Array Value} {below : List Frame} {meth : Method} {c : Code} (F : Fx G ZY p m c cX6_copy 9 s args RX6) (hr : meth.sig.returnType = some .int) (hk : meth.locks = false) {r : Int32} {M' : SX} (k96 : Int32 → Int32 → Int32 → Int32 → Int32 → Int32 → Int32 → SX → Option (Int32 × SX)) (hk96 : ∀ (v1 : Int32) (v2 : Int32) (v3 : Int32) (v4 : Int32) (v5 : Int32) (v6 : Int32) (v7 : Int32) (M : SX) (H : Heap) (locs : List Loc) (ls : Array Slot), Wld G ZY M s.heap H locs → lv_has ls 9 [(0, .ref (G.2.1 0)), (1, .int v1), (2, .int v2), (3, .int v3), (4, .int v4), (5, .int v5), (6, .int v6), (7, .int v7)] → k96 v1 v2 v3 v4 v5 v6 v7 M = some (r, M') → WXi G ZY p l e 2 s m args below meth c r M' H locs (F0 m 96 ls [])) : ∀ (v1 : Int32) (v2 : Int32) (v3 : Int32) (v4 : Int32) (v5 : Int32) (v6 : Int32) (v7 : Int32) (M : SX) (H : Heap) (locs : List Loc) (ls : Array Slot), Wld G ZY M s.heap H locs → lv_has ls 9 [(0, .ref (G.2.1 0)), (1, .int v1), (2, .int v2), (3, .int v3), (4, .int v4), (5, .int v5), (6, .int v6), (7, .int v7)] → p6_copy_96 k96 v1 v2 v3 v4 v5 v6 v7 M = some (r, M') → WXi G ZY p l e 2 s m args below meth c r M' H locs (F0 m 96 ls []) := by
  intro v1 v2 v3 v4 v5 v6 v7 M H locs ls hw hl hf
  have hx := F.1.1
  have hb := F.1.2.1
  unfold p6_copy_96 at hf
  refine lv_iload hx hb dX6_copy_96 (lv_at hl 7 rfl) ?_
  refine lv_iload hx hb dX6_copy_98 (lv_at hl 5 rfl) ?_
  refine lv_icmp_ge (tgt := 157) hx hb dX6_copy_100 (by decide) (fun c1 => ?_) (fun c1 => ?_)
  · have hf := it_t hf c1
    refine lv_iconst (v := 1) hx hb dX6_copy_157 (by decide) ?_
    exact x_iret F hw hr hk hf dX6_copy_158
  · have hf := it_f hf c1
    refine lv_iload hx hb dX6_copy_103 (lv_at hl 6 rfl) ?_
    refine lv_if_eq (tgt := 118) hx hb dX6_copy_105 (by decide) (fun c2 => ?_) (fun c2 => ?_)
    · have hf := it_t hf c2
      refine lv_iload hx hb dX6_copy_118 (lv_at hl 7 rfl) ?_
      exact w6_copy_120 F hr hk k96 hk96 v1 v2 v3 v4 v5 v6 v7 v7 M _ _ ls hw (lv_sub hl [0, 1, 2, 3, 4, 5, 6, 7] rfl) hf
    · have hf := it_f hf c2
      refine lv_iload hx hb dX6_copy_108 (lv_at hl 5 rfl) ?_
      refine lv_iconst (v := 1) hx hb dX6_copy_110 (by decide) ?_
      refine lv_isub hx hb dX6_copy_111 ?_
      refine lv_iload hx hb dX6_copy_112 (lv_at hl 7 rfl) ?_
      refine lv_isub hx hb dX6_copy_114 ?_
      refine lv_goto (tgt := 120) hx hb dX6_copy_115 (by decide) ?_
      exact w6_copy_120 F hr hk k96 hk96 v1 v2 v3 v4 v5 v6 v7 ((v5 - 1) - v7) M _ _ ls hw (lv_sub hl [0, 1, 2, 3, 4, 5, 6, 7] rfl) hf
theorem z6_copy_96 {G : XG} {p : Program} {l : Launch} {e : Env} {s : State} {m : MethodId} {args : Array Value} {below : List Frame} {meth : Method} {c : Code} (F : Fx G ZY p m c cX6_copy 9 s args RX6) (hr : meth.sig.returnType = some .int) (hk : meth.locks = false) {r : Int32} {M' : SX} : ∀ n : Nat, ∀ (v1 : Int32) (v2 : Int32) (v3 : Int32) (v4 : Int32) (v5 : Int32) (v6 : Int32) (v7 : Int32) (M : SX) (H : Heap) (locs : List Loc) (ls : Array Slot), Wld G ZY M s.heap H locs → lv_has ls 9 [(0, .ref (G.2.1 0)), (1, .int v1), (2, .int v2), (3, .int v3), (4, .int v4), (5, .int v5), (6, .int v6), (7, .int v7)] → xlp7 p6_copy_96 n v1 v2 v3 v4 v5 v6 v7 M = some (r, M') → WXi G ZY p l e 2 s m args below meth c r M' H locs (F0 m 96 ls []) := by
  intro n
  induction n with
  | zero => intro _ _ _ _ _ _ _ _ _ _ _ _ _ hf; cases hf
  | succ n ih => exact w6_copy_96 F hr hk (xlp7 p6_copy_96 n) ih
def p6_copy_91 (v1 : Int32) (v2 : Int32) (v3 : Int32) (v4 : Int32) (v5 : Int32) (t0 : Int32) (M : SX) : Option (Int32 × SX) :=
  xlp7 p6_copy_96 FU v1 v2 v3 v4 v5 t0 0 M
set_option maxHeartbeats 4000000 in
set_option maxRecDepth 100000 in
theorem w6_copy_91 {G : XG} {p : Program} {l : Launch} {e : Env} {s : State} {m : MethodId} {args : Array Value} {below : List Frame} {meth : Method} {c : Code} (F : Fx G ZY p m c cX6_copy 9 s args RX6) (hr : meth.sig.returnType = some .int) (hk : meth.locks = false) {r : Int32} {M' : SX} : ∀ (v1 : Int32) (v2 : Int32) (v3 : Int32) (v4 : Int32) (v5 : Int32) (t0 : Int32) (M : SX) (H : Heap) (locs : List Loc) (ls : Array Slot), Wld G ZY M s.heap H locs → lv_has ls 9 [(0, .ref (G.2.1 0)), (1, .int v1), (2, .int v2), (3, .int v3), (4, .int v4), (5, .int v5)] → p6_copy_91 v1 v2 v3 v4 v5 t0 M = some (r, M') → WXi G ZY p l e 2 s m args below meth c r M' H locs (F0 m 91 ls [.int t0]) := by
  intro v1 v2 v3 v4 v5 t0 M H locs ls hw hl hf
  have hx := F.1.1
  have hb := F.1.2.1
  unfold p6_copy_91 at hf
  refine lv_istore (lv' := [(6, .int t0), (0, .ref (G.2.1 0)), (1, .int v1), (2, .int v2), (3, .int v3), (4, .int v4), (5, .int v5)]) hx hb dX6_copy_91 hl (by decide) rfl (fun ls hl => ?_)
  refine lv_iconst (v := 0) hx hb dX6_copy_93 (by decide) ?_
  refine lv_istore (lv' := [(7, .int 0), (6, .int t0), (0, .ref (G.2.1 0)), (1, .int v1), (2, .int v2), (3, .int v3), (4, .int v4), (5, .int v5)]) hx hb dX6_copy_94 hl (by decide) rfl (fun ls hl => ?_)
  exact z6_copy_96 F hr hk FU v1 v2 v3 v4 v5 t0 0 M _ _ ls hw (lv_sub hl [2, 3, 4, 5, 6, 7, 1, 0] rfl) hf
def p6_copy (a1 : Int32) (a2 : Int32) (a3 : Int32) (a4 : Int32) (a5 : Int32) (M : SX) : Option (Int32 × SX) :=
  bd (p6_isRow a1 M) (fun r3 M2 => if r3 = 0 then (some ((-1), M2))
  else (bd (p6_isRow a3 M2) (fun r7 M6 => if r7 = 0 then (some ((-1), M6))
  else (if 0 ≤ a5 then (gd (bIn a1 6) ( if (M6.1 3 (Int32.toNatClampNeg a1)) < 0 then (p6_copy_45 M6)
  else (gd (bIn a3 6) ( if 0 ≤ (M6.1 3 (Int32.toNatClampNeg a3)) then (bd (p6_isSpan a1 a2 a5 M6) (fun r16 M15 => if r16 = 0 then (p6_copy_74 M15)
  else (bd (p6_isSpan a3 a4 a5 M15) (fun r20 M19 => if r20 = 0 then (p6_copy_74 M19)
  else (if a4 ≤ a2 then (p6_copy_91 a1 a2 a3 a4 a5 0 M19)
  else (p6_copy_91 a1 a2 a3 a4 a5 1 M19))))))
  else (p6_copy_45 M6)))))
  else (bd (p6_find 5 M6) (fun r25 M24 => some (r25, M24)))))))
set_option maxHeartbeats 4000000 in
set_option maxRecDepth 100000 in
theorem c6_copy {l : Launch} {G : XG} {r : Int32} {M' : SX} {M : SX} (a1 : Int32) (a2 : Int32) (a3 : Int32) (a4 : Int32) (a5 : Int32) (hf : p6_copy a1 a2 a3 a4 a5 M = some (r, M')) : Met l yX6_copy (.code yX6_copy cX6_copy 9 (some .int) :: TBL) (rmX 2) (xPc G ZY M [.ref (G.2.1 0), .int a1, .int a2, .int a3, .int a4, .int a5]) (xQi G ZY r M') 0 0 (inA G ZY) := by
  refine x_met (cc := cX6_copy) (by decide) (Nat.le_of_ble_eq_true rfl) ?_
  intro p e s m below meth c ls F hr hk hl hw
  have F : Fx G ZY p m c cX6_copy 9 s [.ref (G.2.1 0), .int a1, .int a2, .int a3, .int a4, .int a5].toArray RX6 := F
  have hl : lv_has ls 9 [(0, .ref (G.2.1 0)), (1, .int a1), (2, .int a2), (3, .int a3), (4, .int a4), (5, .int a5)] := hl
  have hx := F.1.1
  have hb := F.1.2.1
  unfold p6_copy at hf
  refine lv_iload_n hx hb dX6_copy_0 rfl (lv_at hl 1 rfl) ?_
  obtain ⟨r3, M2, hc1, hf⟩ := bd_some hf
  refine x_aftI hw (x_runS (rest := []) F hw hl.1 sw_RX6_75 (c6_isRow a1 hc1) rfl rfl (Nat.le_of_ble_eq_true rfl) ⟨Nat.le_of_ble_eq_true rfl, Nat.le_of_ble_eq_true rfl⟩ dX6_copy_1) (fun H locs hw => ?_)
  refine lv_if_eq (tgt := 14) hx hb dX6_copy_4 (by decide) (fun c4 => ?_) (fun c4 => ?_)
  · have hf := it_t hf c4
    refine lv_iconst (v := (-1)) hx hb dX6_copy_14 (by decide) ?_
    exact x_iret F hw hr hk hf dX6_copy_15
  · have hf := it_f hf c4
    refine lv_iload_n hx hb dX6_copy_7 rfl (lv_at hl 3 rfl) ?_
    obtain ⟨r7, M6, hc5, hf⟩ := bd_some hf
    refine x_aftI hw (x_runS (rest := []) F hw hl.1 sw_RX6_75 (c6_isRow a3 hc5) rfl rfl (Nat.le_of_ble_eq_true rfl) ⟨Nat.le_of_ble_eq_true rfl, Nat.le_of_ble_eq_true rfl⟩ dX6_copy_8) (fun H locs hw => ?_)
    refine lv_if_ne (tgt := 16) hx hb dX6_copy_11 (by decide) (fun c8 => ?_) (fun c8 => ?_)
    · have hf := it_f hf c8
      refine lv_iload hx hb dX6_copy_16 (lv_at hl 5 rfl) ?_
      refine lv_if_ge (tgt := 27) hx hb dX6_copy_18 (by decide) (fun c9 => ?_) (fun c9 => ?_)
      · have hf := it_t hf c9
        refine lv_aload_n hx hb dX6_copy_27 rfl (lv_at hl 0 rfl) ?_
        refine g6_3 F hw tw_606 dX6_copy_28 ?_
        refine lv_iload_n hx hb dX6_copy_31 rfl (lv_at hl 1 rfl) ?_
        obtain ⟨g10, hf⟩ := gd_some hf
        refine x_iald F hw sM3 g10 dX6_copy_32 ?_
        refine lv_if_lt (tgt := 45) hx hb dX6_copy_33 (by decide) (fun c11 => ?_) (fun c11 => ?_)
        · have hf := it_t hf c11
          exact w6_copy_45 F hr hk M6 _ _ ls hw (lv_sub hl [0] rfl) hf
        · have hf := it_f hf c11
          refine lv_aload_n hx hb dX6_copy_36 rfl (lv_at hl 0 rfl) ?_
          refine g6_3 F hw tw_606 dX6_copy_37 ?_
          refine lv_iload_n hx hb dX6_copy_40 rfl (lv_at hl 3 rfl) ?_
          obtain ⟨g12, hf⟩ := gd_some hf
          refine x_iald F hw sM3 g12 dX6_copy_41 ?_
          refine lv_if_ge (tgt := 51) hx hb dX6_copy_42 (by decide) (fun c13 => ?_) (fun c13 => ?_)
          · have hf := it_t hf c13
            refine lv_aload_n hx hb dX6_copy_51 rfl (lv_at hl 0 rfl) ?_
            refine lv_iload_n hx hb dX6_copy_52 rfl (lv_at hl 1 rfl) ?_
            refine lv_iload_n hx hb dX6_copy_53 rfl (lv_at hl 2 rfl) ?_
            refine lv_iload hx hb dX6_copy_54 (lv_at hl 5 rfl) ?_
            obtain ⟨r16, M15, hc14, hf⟩ := bd_some hf
            refine x_aftI hw (x_runV (rest := []) F hw hl.1 vw_RX6_94 (sM) rfl (c6_isSpan a1 a2 a5 hc14) rfl rfl (Nat.le_of_ble_eq_true rfl) ⟨Nat.le_of_ble_eq_true rfl, Nat.le_of_ble_eq_true rfl⟩ dX6_copy_56) (fun H locs hw => ?_)
            refine lv_if_eq (tgt := 74) hx hb dX6_copy_59 (by decide) (fun c17 => ?_) (fun c17 => ?_)
            · have hf := it_t hf c17
              exact w6_copy_74 F hr hk M15 _ _ ls hw (lv_sub hl [0] rfl) hf
            · have hf := it_f hf c17
              refine lv_aload_n hx hb dX6_copy_62 rfl (lv_at hl 0 rfl) ?_
              refine lv_iload_n hx hb dX6_copy_63 rfl (lv_at hl 3 rfl) ?_
              refine lv_iload hx hb dX6_copy_64 (lv_at hl 4 rfl) ?_
              refine lv_iload hx hb dX6_copy_66 (lv_at hl 5 rfl) ?_
              obtain ⟨r20, M19, hc18, hf⟩ := bd_some hf
              refine x_aftI hw (x_runV (rest := []) F hw hl.1 vw_RX6_94 (sM) rfl (c6_isSpan a3 a4 a5 hc18) rfl rfl (Nat.le_of_ble_eq_true rfl) ⟨Nat.le_of_ble_eq_true rfl, Nat.le_of_ble_eq_true rfl⟩ dX6_copy_68) (fun H locs hw => ?_)
              refine lv_if_ne (tgt := 80) hx hb dX6_copy_71 (by decide) (fun c21 => ?_) (fun c21 => ?_)
              · have hf := it_f hf c21
                refine lv_iload_n hx hb dX6_copy_80 rfl (lv_at hl 2 rfl) ?_
                refine lv_iload hx hb dX6_copy_81 (lv_at hl 4 rfl) ?_
                refine lv_icmp_ge (tgt := 90) hx hb dX6_copy_83 (by decide) (fun c22 => ?_) (fun c22 => ?_)
                · have hf := it_t hf c22
                  refine lv_iconst (v := 0) hx hb dX6_copy_90 (by decide) ?_
                  exact w6_copy_91 F hr hk a1 a2 a3 a4 a5 0 M19 _ _ ls hw (lv_sub hl [0, 1, 2, 3, 4, 5] rfl) hf
                · have hf := it_f hf c22
                  refine lv_iconst (v := 1) hx hb dX6_copy_86 (by decide) ?_
                  refine lv_goto (tgt := 91) hx hb dX6_copy_87 (by decide) ?_
                  exact w6_copy_91 F hr hk a1 a2 a3 a4 a5 1 M19 _ _ ls hw (lv_sub hl [0, 1, 2, 3, 4, 5] rfl) hf
              · have hf := it_t hf c21
                exact w6_copy_74 F hr hk M19 _ _ ls hw (lv_sub hl [0] rfl) hf
          · have hf := it_f hf c13
            exact w6_copy_45 F hr hk M6 _ _ ls hw (lv_sub hl [0] rfl) hf
      · have hf := it_f hf c9
        refine lv_aload_n hx hb dX6_copy_21 rfl (lv_at hl 0 rfl) ?_
        refine lv_iconst (v := 5) hx hb dX6_copy_22 (by decide) ?_
        obtain ⟨r25, M24, hc23, hf⟩ := bd_some hf
        refine x_aftI hw (x_runV (rest := []) F hw hl.1 vw_RX6_79 (sM) rfl (c6_find 5 hc23) rfl rfl (Nat.le_of_ble_eq_true rfl) ⟨Nat.le_of_ble_eq_true rfl, Nat.le_of_ble_eq_true rfl⟩ dX6_copy_23) (fun H locs hw => ?_)
        exact x_iret F hw hr hk hf dX6_copy_26
    · have hf := it_t hf c8
      refine lv_iconst (v := (-1)) hx hb dX6_copy_14 (by decide) ?_
      exact x_iret F hw hr hk hf dX6_copy_15
theorem dX6_mean_0 : decode cX6_mean 0 = .ok (.iload_n 1, 1) := by decide +kernel
theorem dX6_mean_1 : decode cX6_mean 1 = .ok (.invokestatic 75, 3) := by decide +kernel
theorem dX6_mean_4 : decode cX6_mean 4 = .ok (.ifCond .ne 5, 3) := by decide +kernel
theorem dX6_mean_7 : decode cX6_mean 7 = .ok (.iconst (-1), 1) := by decide +kernel
theorem dX6_mean_8 : decode cX6_mean 8 = .ok (.ireturn, 1) := by decide +kernel
theorem dX6_mean_9 : decode cX6_mean 9 = .ok (.aload_n 0, 1) := by decide +kernel
theorem dX6_mean_10 : decode cX6_mean 10 = .ok (.getfield 16, 3) := by decide +kernel
theorem dX6_mean_13 : decode cX6_mean 13 = .ok (.iload_n 1, 1) := by decide +kernel
theorem dX6_mean_14 : decode cX6_mean 14 = .ok (.iaload, 1) := by decide +kernel
theorem dX6_mean_15 : decode cX6_mean 15 = .ok (.ifCond .ge 9, 3) := by decide +kernel
theorem dX6_mean_18 : decode cX6_mean 18 = .ok (.aload_n 0, 1) := by decide +kernel
theorem dX6_mean_19 : decode cX6_mean 19 = .ok (.iconst 1, 1) := by decide +kernel
theorem dX6_mean_20 : decode cX6_mean 20 = .ok (.invokevirtual 79, 3) := by decide +kernel
theorem dX6_mean_23 : decode cX6_mean 23 = .ok (.ireturn, 1) := by decide +kernel
theorem dX6_mean_24 : decode cX6_mean 24 = .ok (.aload_n 0, 1) := by decide +kernel
theorem dX6_mean_25 : decode cX6_mean 25 = .ok (.getfield 16, 3) := by decide +kernel
theorem dX6_mean_28 : decode cX6_mean 28 = .ok (.iload_n 1, 1) := by decide +kernel
theorem dX6_mean_29 : decode cX6_mean 29 = .ok (.iaload, 1) := by decide +kernel
theorem dX6_mean_30 : decode cX6_mean 30 = .ok (.ifCond .ne 9, 3) := by decide +kernel
theorem dX6_mean_33 : decode cX6_mean 33 = .ok (.aload_n 0, 1) := by decide +kernel
theorem dX6_mean_34 : decode cX6_mean 34 = .ok (.iconst 4, 1) := by decide +kernel
theorem dX6_mean_35 : decode cX6_mean 35 = .ok (.invokevirtual 79, 3) := by decide +kernel
theorem dX6_mean_38 : decode cX6_mean 38 = .ok (.ireturn, 1) := by decide +kernel
theorem dX6_mean_39 : decode cX6_mean 39 = .ok (.lconst 0, 1) := by decide +kernel
theorem dX6_mean_40 : decode cX6_mean 40 = .ok (.lstore_n 2, 1) := by decide +kernel
theorem dX6_mean_41 : decode cX6_mean 41 = .ok (.iconst 0, 1) := by decide +kernel
theorem dX6_mean_42 : decode cX6_mean 42 = .ok (.istore 4, 2) := by decide +kernel
theorem dX6_mean_44 : decode cX6_mean 44 = .ok (.iload 4, 2) := by decide +kernel
theorem dX6_mean_46 : decode cX6_mean 46 = .ok (.aload_n 0, 1) := by decide +kernel
theorem dX6_mean_47 : decode cX6_mean 47 = .ok (.getfield 16, 3) := by decide +kernel
theorem dX6_mean_50 : decode cX6_mean 50 = .ok (.iload_n 1, 1) := by decide +kernel
theorem dX6_mean_51 : decode cX6_mean 51 = .ok (.iaload, 1) := by decide +kernel
theorem dX6_mean_52 : decode cX6_mean 52 = .ok (.if_icmp .ge 25, 3) := by decide +kernel
theorem dX6_mean_55 : decode cX6_mean 55 = .ok (.lload_n 2, 1) := by decide +kernel
theorem dX6_mean_56 : decode cX6_mean 56 = .ok (.aload_n 0, 1) := by decide +kernel
theorem dX6_mean_57 : decode cX6_mean 57 = .ok (.getfield 19, 3) := by decide +kernel
theorem dX6_mean_60 : decode cX6_mean 60 = .ok (.bipush 40, 2) := by decide +kernel
theorem dX6_mean_62 : decode cX6_mean 62 = .ok (.iload_n 1, 1) := by decide +kernel
theorem dX6_mean_63 : decode cX6_mean 63 = .ok (.imul, 1) := by decide +kernel
theorem dX6_mean_64 : decode cX6_mean 64 = .ok (.iload 4, 2) := by decide +kernel
theorem dX6_mean_66 : decode cX6_mean 66 = .ok (.iadd, 1) := by decide +kernel
theorem dX6_mean_67 : decode cX6_mean 67 = .ok (.iaload, 1) := by decide +kernel
theorem dX6_mean_68 : decode cX6_mean 68 = .ok (.i2l, 1) := by decide +kernel
theorem dX6_mean_69 : decode cX6_mean 69 = .ok (.ladd, 1) := by decide +kernel
theorem dX6_mean_70 : decode cX6_mean 70 = .ok (.lstore_n 2, 1) := by decide +kernel
theorem dX6_mean_71 : decode cX6_mean 71 = .ok (.iinc 4 1, 3) := by decide +kernel
theorem dX6_mean_74 : decode cX6_mean 74 = .ok (.goto (-30), 3) := by decide +kernel
theorem dX6_mean_77 : decode cX6_mean 77 = .ok (.aload_n 0, 1) := by decide +kernel
theorem dX6_mean_78 : decode cX6_mean 78 = .ok (.lload_n 2, 1) := by decide +kernel
theorem dX6_mean_79 : decode cX6_mean 79 = .ok (.aload_n 0, 1) := by decide +kernel
theorem dX6_mean_80 : decode cX6_mean 80 = .ok (.getfield 16, 3) := by decide +kernel
theorem dX6_mean_83 : decode cX6_mean 83 = .ok (.iload_n 1, 1) := by decide +kernel
theorem dX6_mean_84 : decode cX6_mean 84 = .ok (.iaload, 1) := by decide +kernel
theorem dX6_mean_85 : decode cX6_mean 85 = .ok (.i2l, 1) := by decide +kernel
theorem dX6_mean_86 : decode cX6_mean 86 = .ok (.ldiv, 1) := by decide +kernel
theorem dX6_mean_87 : decode cX6_mean 87 = .ok (.l2i, 1) := by decide +kernel
theorem dX6_mean_88 : decode cX6_mean 88 = .ok (.invokevirtual 91, 3) := by decide +kernel
theorem dX6_mean_91 : decode cX6_mean 91 = .ok (.ireturn, 1) := by decide +kernel
def p6_mean_44 (k44 : Int32 → Int64 → Int32 → SX → Option (Int32 × SX)) (v1 : Int32) (v2 : Int64) (v4 : Int32) (M : SX) : Option (Int32 × SX) :=
  gd (bIn v1 6) ( if (M.1 3 (Int32.toNatClampNeg v1)) ≤ v4 then (gd (nzL (Int32.toInt64 (M.1 3 (Int32.toNatClampNeg v1)))) ( bd (p6_tell (Int64.toInt32 (v2 / (Int32.toInt64 (M.1 3 (Int32.toNatClampNeg v1))))) M) (fun r6 M5 => some (r6, M5))))
  else (gd (bIn ((40 * v1) + v4) 240) ( lt_ (v2 + (Int32.toInt64 (M.1 4 (Int32.toNatClampNeg ((40 * v1) + v4))))) (fun x8 => lt_ (v4 + 1) (fun x9 => k44 v1 x8 x9 M)))))
set_option maxHeartbeats 4000000 in
set_option maxRecDepth 100000 in
theorem w6_mean_44 {G : XG} {p : Program} {l : Launch} {e : Env} {s : State} {m : MethodId} {args : Array Value} {below : List Frame} {meth : Method} {c : Code} (F : Fx G ZY p m c cX6_mean 5 s args RX6) (hr : meth.sig.returnType = some .int) (hk : meth.locks = false) {r : Int32} {M' : SX} (k44 : Int32 → Int64 → Int32 → SX → Option (Int32 × SX)) (hk44 : ∀ (v1 : Int32) (v2 : Int64) (v4 : Int32) (M : SX) (H : Heap) (locs : List Loc) (ls : Array Slot), Wld G ZY M s.heap H locs → lv_has ls 5 [(0, .ref (G.2.1 0)), (1, .int v1), (2, .long v2), (4, .int v4)] → k44 v1 v2 v4 M = some (r, M') → WXi G ZY p l e 2 s m args below meth c r M' H locs (F0 m 44 ls [])) : ∀ (v1 : Int32) (v2 : Int64) (v4 : Int32) (M : SX) (H : Heap) (locs : List Loc) (ls : Array Slot), Wld G ZY M s.heap H locs → lv_has ls 5 [(0, .ref (G.2.1 0)), (1, .int v1), (2, .long v2), (4, .int v4)] → p6_mean_44 k44 v1 v2 v4 M = some (r, M') → WXi G ZY p l e 2 s m args below meth c r M' H locs (F0 m 44 ls []) := by
  intro v1 v2 v4 M H locs ls hw hl hf
  have hx := F.1.1
  have hb := F.1.2.1
  unfold p6_mean_44 at hf
  refine lv_iload hx hb dX6_mean_44 (lv_at hl 3 rfl) ?_
  refine lv_aload_n hx hb dX6_mean_46 rfl (lv_at hl 0 rfl) ?_
  refine g6_3 F hw tw_606 dX6_mean_47 ?_
  refine lv_iload_n hx hb dX6_mean_50 rfl (lv_at hl 1 rfl) ?_
  obtain ⟨g1, hf⟩ := gd_some hf
  refine x_iald F hw sM3 g1 dX6_mean_51 ?_
  refine lv_icmp_ge (tgt := 77) hx hb dX6_mean_52 (by decide) (fun c2 => ?_) (fun c2 => ?_)
  · have hf := it_t hf c2
    refine lv_aload_n hx hb dX6_mean_77 rfl (lv_at hl 0 rfl) ?_
    refine lv_lload_n hx hb dX6_mean_78 rfl (lv_at hl 2 rfl) ?_
    refine lv_aload_n hx hb dX6_mean_79 rfl (lv_at hl 0 rfl) ?_
    refine g6_3 F hw tw_606 dX6_mean_80 ?_
    refine lv_iload_n hx hb dX6_mean_83 rfl (lv_at hl 1 rfl) ?_
    refine x_iald F hw sM3 g1 dX6_mean_84 ?_
    refine lv_i2l (v := Int32.toInt64 (M.1 3 (Int32.toNatClampNeg v1))) hx hb dX6_mean_85 rfl ?_
    obtain ⟨g3, hf⟩ := gd_some hf
    refine lv_ldiv hx hb dX6_mean_86 (nzL_ne g3) ?_
    refine lv_l2i (v := Int64.toInt32 (v2 / (Int32.toInt64 (M.1 3 (Int32.toNatClampNeg v1))))) hx hb dX6_mean_87 rfl ?_
    obtain ⟨r6, M5, hc4, hf⟩ := bd_some hf
    refine x_aftI hw (x_runV (rest := []) F hw hl.1 vw_RX6_91 (sM) rfl (c6_tell (Int64.toInt32 (v2 / (Int32.toInt64 (M.1 3 (Int32.toNatClampNeg v1))))) hc4) rfl rfl (Nat.le_of_ble_eq_true rfl) ⟨Nat.le_of_ble_eq_true rfl, Nat.le_of_ble_eq_true rfl⟩ dX6_mean_88) (fun H locs hw => ?_)
    exact x_iret F hw hr hk hf dX6_mean_91
  · have hf := it_f hf c2
    refine lv_lload_n hx hb dX6_mean_55 rfl (lv_at hl 2 rfl) ?_
    refine lv_aload_n hx hb dX6_mean_56 rfl (lv_at hl 0 rfl) ?_
    refine g6_4 F hw tw_605 dX6_mean_57 ?_
    refine lv_bipush (v := 40) hx hb dX6_mean_60 (by decide) ?_
    refine lv_iload_n hx hb dX6_mean_62 rfl (lv_at hl 1 rfl) ?_
    refine lv_imul hx hb dX6_mean_63 ?_
    refine lv_iload hx hb dX6_mean_64 (lv_at hl 3 rfl) ?_
    refine lv_iadd hx hb dX6_mean_66 ?_
    obtain ⟨g7, hf⟩ := gd_some hf
    refine x_iald F hw sM4 g7 dX6_mean_67 ?_
    refine lv_i2l (v := Int32.toInt64 (M.1 4 (Int32.toNatClampNeg ((40 * v1) + v4)))) hx hb dX6_mean_68 rfl ?_
    refine lv_ladd hx hb dX6_mean_69 ?_
    obtain ⟨x8, ex8, hf⟩ := lt_elim hf
    refine x_letL ex8 ?_
    refine lv_lstore_n (lv' := [(2, .long x8), (0, .ref (G.2.1 0)), (1, .int v1), (4, .int v4)]) hx hb dX6_mean_70 rfl hl (by decide) rfl (fun ls hl => ?_)
    obtain ⟨x9, ex9, hf⟩ := lt_elim hf
    refine lv_iinc (v := x9) (lv' := [(4, .int x9), (2, .long x8), (0, .ref (G.2.1 0)), (1, .int v1)]) hx hb dX6_mean_71 hl (k := 3) rfl (by rw [ex9]; rfl) (by decide) rfl (fun ls hl => ?_)
    refine lv_goto (tgt := 44) hx hb dX6_mean_74 (by decide) ?_
    exact hk44 v1 x8 x9 M _ _ ls hw (lv_sub hl [2, 3, 1, 0] rfl) hf
theorem z6_mean_44 {G : XG} {p : Program} {l : Launch} {e : Env} {s : State} {m : MethodId} {args : Array Value} {below : List Frame} {meth : Method} {c : Code} (F : Fx G ZY p m c cX6_mean 5 s args RX6) (hr : meth.sig.returnType = some .int) (hk : meth.locks = false) {r : Int32} {M' : SX} : ∀ n : Nat, ∀ (v1 : Int32) (v2 : Int64) (v4 : Int32) (M : SX) (H : Heap) (locs : List Loc) (ls : Array Slot), Wld G ZY M s.heap H locs → lv_has ls 5 [(0, .ref (G.2.1 0)), (1, .int v1), (2, .long v2), (4, .int v4)] → xlp3 p6_mean_44 n v1 v2 v4 M = some (r, M') → WXi G ZY p l e 2 s m args below meth c r M' H locs (F0 m 44 ls []) := by
  intro n
  induction n with
  | zero => intro _ _ _ _ _ _ _ _ _ hf; cases hf
  | succ n ih => exact w6_mean_44 F hr hk (xlp3 p6_mean_44 n) ih
def p6_mean (a1 : Int32) (M : SX) : Option (Int32 × SX) :=
  bd (p6_isRow a1 M) (fun r3 M2 => if r3 = 0 then (some ((-1), M2))
  else (gd (bIn a1 6) ( if 0 ≤ (M2.1 3 (Int32.toNatClampNeg a1)) then (if (M2.1 3 (Int32.toNatClampNeg a1)) = 0 then (bd (p6_find 4 M2) (fun r10 M9 => some (r10, M9)))
  else (xlp3 p6_mean_44 FU a1 0 0 M2))
  else (bd (p6_find 1 M2) (fun r13 M12 => some (r13, M12))))))
set_option maxHeartbeats 4000000 in
set_option maxRecDepth 100000 in
theorem c6_mean {l : Launch} {G : XG} {r : Int32} {M' : SX} {M : SX} (a1 : Int32) (hf : p6_mean a1 M = some (r, M')) : Met l yX6_mean (.code yX6_mean cX6_mean 5 (some .int) :: TBL) (rmX 2) (xPc G ZY M [.ref (G.2.1 0), .int a1]) (xQi G ZY r M') 0 0 (inA G ZY) := by
  refine x_met (cc := cX6_mean) (by decide) (Nat.le_of_ble_eq_true rfl) ?_
  intro p e s m below meth c ls F hr hk hl hw
  have F : Fx G ZY p m c cX6_mean 5 s [.ref (G.2.1 0), .int a1].toArray RX6 := F
  have hl : lv_has ls 5 [(0, .ref (G.2.1 0)), (1, .int a1)] := hl
  have hx := F.1.1
  have hb := F.1.2.1
  unfold p6_mean at hf
  refine lv_iload_n hx hb dX6_mean_0 rfl (lv_at hl 1 rfl) ?_
  obtain ⟨r3, M2, hc1, hf⟩ := bd_some hf
  refine x_aftI hw (x_runS (rest := []) F hw hl.1 sw_RX6_75 (c6_isRow a1 hc1) rfl rfl (Nat.le_of_ble_eq_true rfl) ⟨Nat.le_of_ble_eq_true rfl, Nat.le_of_ble_eq_true rfl⟩ dX6_mean_1) (fun H locs hw => ?_)
  refine lv_if_ne (tgt := 9) hx hb dX6_mean_4 (by decide) (fun c4 => ?_) (fun c4 => ?_)
  · have hf := it_f hf c4
    refine lv_aload_n hx hb dX6_mean_9 rfl (lv_at hl 0 rfl) ?_
    refine g6_3 F hw tw_606 dX6_mean_10 ?_
    refine lv_iload_n hx hb dX6_mean_13 rfl (lv_at hl 1 rfl) ?_
    obtain ⟨g5, hf⟩ := gd_some hf
    refine x_iald F hw sM3 g5 dX6_mean_14 ?_
    refine lv_if_ge (tgt := 24) hx hb dX6_mean_15 (by decide) (fun c6 => ?_) (fun c6 => ?_)
    · have hf := it_t hf c6
      refine lv_aload_n hx hb dX6_mean_24 rfl (lv_at hl 0 rfl) ?_
      refine g6_3 F hw tw_606 dX6_mean_25 ?_
      refine lv_iload_n hx hb dX6_mean_28 rfl (lv_at hl 1 rfl) ?_
      refine x_iald F hw sM3 g5 dX6_mean_29 ?_
      refine lv_if_ne (tgt := 39) hx hb dX6_mean_30 (by decide) (fun c7 => ?_) (fun c7 => ?_)
      · have hf := it_f hf c7
        refine lv_lconst (v := 0) hx hb dX6_mean_39 (by decide) ?_
        refine lv_lstore_n (lv' := [(2, .long 0), (0, .ref (G.2.1 0)), (1, .int a1)]) hx hb dX6_mean_40 rfl hl (by decide) rfl (fun ls hl => ?_)
        refine lv_iconst (v := 0) hx hb dX6_mean_41 (by decide) ?_
        refine lv_istore (lv' := [(4, .int 0), (2, .long 0), (0, .ref (G.2.1 0)), (1, .int a1)]) hx hb dX6_mean_42 hl (by decide) rfl (fun ls hl => ?_)
        exact z6_mean_44 F hr hk FU a1 0 0 M2 _ _ ls hw (lv_sub hl [2, 3, 1, 0] rfl) hf
      · have hf := it_t hf c7
        refine lv_aload_n hx hb dX6_mean_33 rfl (lv_at hl 0 rfl) ?_
        refine lv_iconst (v := 4) hx hb dX6_mean_34 (by decide) ?_
        obtain ⟨r10, M9, hc8, hf⟩ := bd_some hf
        refine x_aftI hw (x_runV (rest := []) F hw hl.1 vw_RX6_79 (sM) rfl (c6_find 4 hc8) rfl rfl (Nat.le_of_ble_eq_true rfl) ⟨Nat.le_of_ble_eq_true rfl, Nat.le_of_ble_eq_true rfl⟩ dX6_mean_35) (fun H locs hw => ?_)
        exact x_iret F hw hr hk hf dX6_mean_38
    · have hf := it_f hf c6
      refine lv_aload_n hx hb dX6_mean_18 rfl (lv_at hl 0 rfl) ?_
      refine lv_iconst (v := 1) hx hb dX6_mean_19 (by decide) ?_
      obtain ⟨r13, M12, hc11, hf⟩ := bd_some hf
      refine x_aftI hw (x_runV (rest := []) F hw hl.1 vw_RX6_79 (sM) rfl (c6_find 1 hc11) rfl rfl (Nat.le_of_ble_eq_true rfl) ⟨Nat.le_of_ble_eq_true rfl, Nat.le_of_ble_eq_true rfl⟩ dX6_mean_20) (fun H locs hw => ?_)
      exact x_iret F hw hr hk hf dX6_mean_23
  · have hf := it_t hf c4
    refine lv_iconst (v := (-1)) hx hb dX6_mean_7 (by decide) ?_
    exact x_iret F hw hr hk hf dX6_mean_8
theorem dX6_text_0 : decode cX6_text 0 = .ok (.iload_n 1, 1) := by decide +kernel
theorem dX6_text_1 : decode cX6_text 1 = .ok (.invokestatic 98, 3) := by decide +kernel
theorem dX6_text_4 : decode cX6_text 4 = .ok (.ifCond .eq 9, 3) := by decide +kernel
theorem dX6_text_7 : decode cX6_text 7 = .ok (.iload_n 2, 1) := by decide +kernel
theorem dX6_text_8 : decode cX6_text 8 = .ok (.bipush 60, 2) := by decide +kernel
theorem dX6_text_10 : decode cX6_text 10 = .ok (.if_icmp .le 5, 3) := by decide +kernel
theorem dX6_text_13 : decode cX6_text 13 = .ok (.iconst (-1), 1) := by decide +kernel
theorem dX6_text_14 : decode cX6_text 14 = .ok (.ireturn, 1) := by decide +kernel
theorem dX6_text_15 : decode cX6_text 15 = .ok (.iload_n 2, 1) := by decide +kernel
theorem dX6_text_16 : decode cX6_text 16 = .ok (.ifCond .ge 9, 3) := by decide +kernel
theorem dX6_text_19 : decode cX6_text 19 = .ok (.aload_n 0, 1) := by decide +kernel
theorem dX6_text_20 : decode cX6_text 20 = .ok (.iconst 5, 1) := by decide +kernel
theorem dX6_text_21 : decode cX6_text 21 = .ok (.invokevirtual 79, 3) := by decide +kernel
theorem dX6_text_24 : decode cX6_text 24 = .ok (.ireturn, 1) := by decide +kernel
theorem dX6_text_25 : decode cX6_text 25 = .ok (.aload_n 0, 1) := by decide +kernel
theorem dX6_text_26 : decode cX6_text 26 = .ok (.getfield 22, 3) := by decide +kernel
theorem dX6_text_29 : decode cX6_text 29 = .ok (.iload_n 1, 1) := by decide +kernel
theorem dX6_text_30 : decode cX6_text 30 = .ok (.iload_n 2, 1) := by decide +kernel
theorem dX6_text_31 : decode cX6_text 31 = .ok (.iastore, 1) := by decide +kernel
theorem dX6_text_32 : decode cX6_text 32 = .ok (.iconst 0, 1) := by decide +kernel
theorem dX6_text_33 : decode cX6_text 33 = .ok (.istore_n 3, 1) := by decide +kernel
theorem dX6_text_34 : decode cX6_text 34 = .ok (.iload_n 3, 1) := by decide +kernel
theorem dX6_text_35 : decode cX6_text 35 = .ok (.bipush 60, 2) := by decide +kernel
theorem dX6_text_37 : decode cX6_text 37 = .ok (.if_icmp .ge 22, 3) := by decide +kernel
theorem dX6_text_40 : decode cX6_text 40 = .ok (.aload_n 0, 1) := by decide +kernel
theorem dX6_text_41 : decode cX6_text 41 = .ok (.getfield 25, 3) := by decide +kernel
theorem dX6_text_44 : decode cX6_text 44 = .ok (.bipush 60, 2) := by decide +kernel
theorem dX6_text_46 : decode cX6_text 46 = .ok (.iload_n 1, 1) := by decide +kernel
theorem dX6_text_47 : decode cX6_text 47 = .ok (.imul, 1) := by decide +kernel
theorem dX6_text_48 : decode cX6_text 48 = .ok (.iload_n 3, 1) := by decide +kernel
theorem dX6_text_49 : decode cX6_text 49 = .ok (.iadd, 1) := by decide +kernel
theorem dX6_text_50 : decode cX6_text 50 = .ok (.bipush 32, 2) := by decide +kernel
theorem dX6_text_52 : decode cX6_text 52 = .ok (.iastore, 1) := by decide +kernel
theorem dX6_text_53 : decode cX6_text 53 = .ok (.iinc 3 1, 3) := by decide +kernel
theorem dX6_text_56 : decode cX6_text 56 = .ok (.goto (-22), 3) := by decide +kernel
theorem dX6_text_59 : decode cX6_text 59 = .ok (.iload_n 2, 1) := by decide +kernel
theorem dX6_text_60 : decode cX6_text 60 = .ok (.ireturn, 1) := by decide +kernel
def p6_text_34 (k34 : Int32 → Int32 → Int32 → SX → Option (Int32 × SX)) (v1 : Int32) (v2 : Int32) (v3 : Int32) (M : SX) : Option (Int32 × SX) :=
  if (60 : Int32) ≤ v3 then (some (v2, M))
  else (gd (bIn ((60 * v1) + v3) 240) ( lt_ (wI M 6 (Int32.toNatClampNeg ((60 * v1) + v3)) 32) (fun M3 => lt_ (v3 + 1) (fun x4 => k34 v1 v2 x4 M3))))
set_option maxHeartbeats 4000000 in
set_option maxRecDepth 100000 in
theorem w6_text_34 {G : XG} {p : Program} {l : Launch} {e : Env} {s : State} {m : MethodId} {args : Array Value} {below : List Frame} {meth : Method} {c : Code} (F : Fx G ZY p m c cX6_text 4 s args RX6) (hr : meth.sig.returnType = some .int) (hk : meth.locks = false) {r : Int32} {M' : SX} (k34 : Int32 → Int32 → Int32 → SX → Option (Int32 × SX)) (hk34 : ∀ (v1 : Int32) (v2 : Int32) (v3 : Int32) (M : SX) (H : Heap) (locs : List Loc) (ls : Array Slot), Wld G ZY M s.heap H locs → lv_has ls 4 [(0, .ref (G.2.1 0)), (1, .int v1), (2, .int v2), (3, .int v3)] → k34 v1 v2 v3 M = some (r, M') → WXi G ZY p l e 2 s m args below meth c r M' H locs (F0 m 34 ls [])) : ∀ (v1 : Int32) (v2 : Int32) (v3 : Int32) (M : SX) (H : Heap) (locs : List Loc) (ls : Array Slot), Wld G ZY M s.heap H locs → lv_has ls 4 [(0, .ref (G.2.1 0)), (1, .int v1), (2, .int v2), (3, .int v3)] → p6_text_34 k34 v1 v2 v3 M = some (r, M') → WXi G ZY p l e 2 s m args below meth c r M' H locs (F0 m 34 ls []) := by
  intro v1 v2 v3 M H locs ls hw hl hf
  have hx := F.1.1
  have hb := F.1.2.1
  unfold p6_text_34 at hf
  refine lv_iload_n hx hb dX6_text_34 rfl (lv_at hl 3 rfl) ?_
  refine lv_bipush (v := 60) hx hb dX6_text_35 (by decide) ?_
  refine lv_icmp_ge (tgt := 59) hx hb dX6_text_37 (by decide) (fun c1 => ?_) (fun c1 => ?_)
  · have hf := it_t hf c1
    refine lv_iload_n hx hb dX6_text_59 rfl (lv_at hl 2 rfl) ?_
    exact x_iret F hw hr hk hf dX6_text_60
  · have hf := it_f hf c1
    refine lv_aload_n hx hb dX6_text_40 rfl (lv_at hl 0 rfl) ?_
    refine g6_6 F hw tw_607 dX6_text_41 ?_
    refine lv_bipush (v := 60) hx hb dX6_text_44 (by decide) ?_
    refine lv_iload_n hx hb dX6_text_46 rfl (lv_at hl 1 rfl) ?_
    refine lv_imul hx hb dX6_text_47 ?_
    refine lv_iload_n hx hb dX6_text_48 rfl (lv_at hl 3 rfl) ?_
    refine lv_iadd hx hb dX6_text_49 ?_
    refine lv_bipush (v := 32) hx hb dX6_text_50 (by decide) ?_
    obtain ⟨g2, hf⟩ := gd_some hf
    refine x_iast F hw sM6 g2 dX6_text_52 (fun H locs hw => ?_)
    obtain ⟨M3, eM3, hf⟩ := lt_elim hf
    rw [← eM3] at hw
    obtain ⟨x4, ex4, hf⟩ := lt_elim hf
    refine lv_iinc (v := x4) (lv' := [(3, .int x4), (0, .ref (G.2.1 0)), (1, .int v1), (2, .int v2)]) hx hb dX6_text_53 hl (k := 3) rfl (by rw [ex4]; rfl) (by decide) rfl (fun ls hl => ?_)
    refine lv_goto (tgt := 34) hx hb dX6_text_56 (by decide) ?_
    exact hk34 v1 v2 x4 M3 _ _ ls hw (lv_sub hl [1, 2, 3, 0] rfl) hf
theorem z6_text_34 {G : XG} {p : Program} {l : Launch} {e : Env} {s : State} {m : MethodId} {args : Array Value} {below : List Frame} {meth : Method} {c : Code} (F : Fx G ZY p m c cX6_text 4 s args RX6) (hr : meth.sig.returnType = some .int) (hk : meth.locks = false) {r : Int32} {M' : SX} : ∀ n : Nat, ∀ (v1 : Int32) (v2 : Int32) (v3 : Int32) (M : SX) (H : Heap) (locs : List Loc) (ls : Array Slot), Wld G ZY M s.heap H locs → lv_has ls 4 [(0, .ref (G.2.1 0)), (1, .int v1), (2, .int v2), (3, .int v3)] → xlp3 p6_text_34 n v1 v2 v3 M = some (r, M') → WXi G ZY p l e 2 s m args below meth c r M' H locs (F0 m 34 ls []) := by
  intro n
  induction n with
  | zero => intro _ _ _ _ _ _ _ _ _ hf; cases hf
  | succ n ih => exact w6_text_34 F hr hk (xlp3 p6_text_34 n) ih
def p6_text (a1 : Int32) (a2 : Int32) (M : SX) : Option (Int32 × SX) :=
  bd (p6_isText a1 M) (fun r3 M2 => if r3 = 0 then (some ((-1), M2))
  else (if a2 ≤ (60 : Int32) then (if 0 ≤ a2 then (gd (bIn a1 4) ( lt_ (wI M2 5 (Int32.toNatClampNeg a1) a2) (fun M8 => xlp3 p6_text_34 FU a1 a2 0 M8)))
  else (bd (p6_find 5 M2) (fun r11 M10 => some (r11, M10))))
  else (some ((-1), M2))))
set_option maxHeartbeats 4000000 in
set_option maxRecDepth 100000 in
theorem c6_text {l : Launch} {G : XG} {r : Int32} {M' : SX} {M : SX} (a1 : Int32) (a2 : Int32) (hf : p6_text a1 a2 M = some (r, M')) : Met l yX6_text (.code yX6_text cX6_text 4 (some .int) :: TBL) (rmX 2) (xPc G ZY M [.ref (G.2.1 0), .int a1, .int a2]) (xQi G ZY r M') 0 0 (inA G ZY) := by
  refine x_met (cc := cX6_text) (by decide) (Nat.le_of_ble_eq_true rfl) ?_
  intro p e s m below meth c ls F hr hk hl hw
  have F : Fx G ZY p m c cX6_text 4 s [.ref (G.2.1 0), .int a1, .int a2].toArray RX6 := F
  have hl : lv_has ls 4 [(0, .ref (G.2.1 0)), (1, .int a1), (2, .int a2)] := hl
  have hx := F.1.1
  have hb := F.1.2.1
  unfold p6_text at hf
  refine lv_iload_n hx hb dX6_text_0 rfl (lv_at hl 1 rfl) ?_
  obtain ⟨r3, M2, hc1, hf⟩ := bd_some hf
  refine x_aftI hw (x_runS (rest := []) F hw hl.1 sw_RX6_98 (c6_isText a1 hc1) rfl rfl (Nat.le_of_ble_eq_true rfl) ⟨Nat.le_of_ble_eq_true rfl, Nat.le_of_ble_eq_true rfl⟩ dX6_text_1) (fun H locs hw => ?_)
  refine lv_if_eq (tgt := 13) hx hb dX6_text_4 (by decide) (fun c4 => ?_) (fun c4 => ?_)
  · have hf := it_t hf c4
    refine lv_iconst (v := (-1)) hx hb dX6_text_13 (by decide) ?_
    exact x_iret F hw hr hk hf dX6_text_14
  · have hf := it_f hf c4
    refine lv_iload_n hx hb dX6_text_7 rfl (lv_at hl 2 rfl) ?_
    refine lv_bipush (v := 60) hx hb dX6_text_8 (by decide) ?_
    refine lv_icmp_le (tgt := 15) hx hb dX6_text_10 (by decide) (fun c5 => ?_) (fun c5 => ?_)
    · have hf := it_t hf c5
      refine lv_iload_n hx hb dX6_text_15 rfl (lv_at hl 2 rfl) ?_
      refine lv_if_ge (tgt := 25) hx hb dX6_text_16 (by decide) (fun c6 => ?_) (fun c6 => ?_)
      · have hf := it_t hf c6
        refine lv_aload_n hx hb dX6_text_25 rfl (lv_at hl 0 rfl) ?_
        refine g6_5 F hw tw_615 dX6_text_26 ?_
        refine lv_iload_n hx hb dX6_text_29 rfl (lv_at hl 1 rfl) ?_
        refine lv_iload_n hx hb dX6_text_30 rfl (lv_at hl 2 rfl) ?_
        obtain ⟨g7, hf⟩ := gd_some hf
        refine x_iast F hw sM5 g7 dX6_text_31 (fun H locs hw => ?_)
        obtain ⟨M8, eM8, hf⟩ := lt_elim hf
        rw [← eM8] at hw
        refine lv_iconst (v := 0) hx hb dX6_text_32 (by decide) ?_
        refine lv_istore_n (lv' := [(3, .int 0), (0, .ref (G.2.1 0)), (1, .int a1), (2, .int a2)]) hx hb dX6_text_33 rfl hl (by decide) rfl (fun ls hl => ?_)
        exact z6_text_34 F hr hk FU a1 a2 0 M8 _ _ ls hw (lv_sub hl [1, 2, 3, 0] rfl) hf
      · have hf := it_f hf c6
        refine lv_aload_n hx hb dX6_text_19 rfl (lv_at hl 0 rfl) ?_
        refine lv_iconst (v := 5) hx hb dX6_text_20 (by decide) ?_
        obtain ⟨r11, M10, hc9, hf⟩ := bd_some hf
        refine x_aftI hw (x_runV (rest := []) F hw hl.1 vw_RX6_79 (sM) rfl (c6_find 5 hc9) rfl rfl (Nat.le_of_ble_eq_true rfl) ⟨Nat.le_of_ble_eq_true rfl, Nat.le_of_ble_eq_true rfl⟩ dX6_text_21) (fun H locs hw => ?_)
        exact x_iret F hw hr hk hf dX6_text_24
    · have hf := it_f hf c5
      refine lv_iconst (v := (-1)) hx hb dX6_text_13 (by decide) ?_
      exact x_iret F hw hr hk hf dX6_text_14
theorem dX6_put_0 : decode cX6_put 0 = .ok (.iload_n 1, 1) := by decide +kernel
theorem dX6_put_1 : decode cX6_put 1 = .ok (.invokestatic 98, 3) := by decide +kernel
theorem dX6_put_4 : decode cX6_put 4 = .ok (.ifCond .ne 5, 3) := by decide +kernel
theorem dX6_put_7 : decode cX6_put 7 = .ok (.iconst (-1), 1) := by decide +kernel
theorem dX6_put_8 : decode cX6_put 8 = .ok (.ireturn, 1) := by decide +kernel
theorem dX6_put_9 : decode cX6_put 9 = .ok (.aload_n 0, 1) := by decide +kernel
theorem dX6_put_10 : decode cX6_put 10 = .ok (.getfield 22, 3) := by decide +kernel
theorem dX6_put_13 : decode cX6_put 13 = .ok (.iload_n 1, 1) := by decide +kernel
theorem dX6_put_14 : decode cX6_put 14 = .ok (.iaload, 1) := by decide +kernel
theorem dX6_put_15 : decode cX6_put 15 = .ok (.ifCond .ge 9, 3) := by decide +kernel
theorem dX6_put_18 : decode cX6_put 18 = .ok (.aload_n 0, 1) := by decide +kernel
theorem dX6_put_19 : decode cX6_put 19 = .ok (.iconst 1, 1) := by decide +kernel
theorem dX6_put_20 : decode cX6_put 20 = .ok (.invokevirtual 79, 3) := by decide +kernel
theorem dX6_put_23 : decode cX6_put 23 = .ok (.ireturn, 1) := by decide +kernel
theorem dX6_put_24 : decode cX6_put 24 = .ok (.iload_n 2, 1) := by decide +kernel
theorem dX6_put_25 : decode cX6_put 25 = .ok (.i2l, 1) := by decide +kernel
theorem dX6_put_26 : decode cX6_put 26 = .ok (.lconst 0, 1) := by decide +kernel
theorem dX6_put_27 : decode cX6_put 27 = .ok (.aload_n 0, 1) := by decide +kernel
theorem dX6_put_28 : decode cX6_put 28 = .ok (.getfield 22, 3) := by decide +kernel
theorem dX6_put_31 : decode cX6_put 31 = .ok (.iload_n 1, 1) := by decide +kernel
theorem dX6_put_32 : decode cX6_put 32 = .ok (.iaload, 1) := by decide +kernel
theorem dX6_put_33 : decode cX6_put 33 = .ok (.iconst 1, 1) := by decide +kernel
theorem dX6_put_34 : decode cX6_put 34 = .ok (.isub, 1) := by decide +kernel
theorem dX6_put_35 : decode cX6_put 35 = .ok (.i2l, 1) := by decide +kernel
theorem dX6_put_36 : decode cX6_put 36 = .ok (.invokestatic 69, 3) := by decide +kernel
theorem dX6_put_39 : decode cX6_put 39 = .ok (.ifCond .ne 9, 3) := by decide +kernel
theorem dX6_put_42 : decode cX6_put 42 = .ok (.aload_n 0, 1) := by decide +kernel
theorem dX6_put_43 : decode cX6_put 43 = .ok (.iconst 2, 1) := by decide +kernel
theorem dX6_put_44 : decode cX6_put 44 = .ok (.invokevirtual 79, 3) := by decide +kernel
theorem dX6_put_47 : decode cX6_put 47 = .ok (.ireturn, 1) := by decide +kernel
theorem dX6_put_48 : decode cX6_put 48 = .ok (.aload_n 0, 1) := by decide +kernel
theorem dX6_put_49 : decode cX6_put 49 = .ok (.getfield 25, 3) := by decide +kernel
theorem dX6_put_52 : decode cX6_put 52 = .ok (.bipush 60, 2) := by decide +kernel
theorem dX6_put_54 : decode cX6_put 54 = .ok (.iload_n 1, 1) := by decide +kernel
theorem dX6_put_55 : decode cX6_put 55 = .ok (.imul, 1) := by decide +kernel
theorem dX6_put_56 : decode cX6_put 56 = .ok (.iload_n 2, 1) := by decide +kernel
theorem dX6_put_57 : decode cX6_put 57 = .ok (.iadd, 1) := by decide +kernel
theorem dX6_put_58 : decode cX6_put 58 = .ok (.iaload, 1) := by decide +kernel
theorem dX6_put_59 : decode cX6_put 59 = .ok (.istore 4, 2) := by decide +kernel
theorem dX6_put_61 : decode cX6_put 61 = .ok (.aload_n 0, 1) := by decide +kernel
theorem dX6_put_62 : decode cX6_put 62 = .ok (.getfield 25, 3) := by decide +kernel
theorem dX6_put_65 : decode cX6_put 65 = .ok (.bipush 60, 2) := by decide +kernel
theorem dX6_put_67 : decode cX6_put 67 = .ok (.iload_n 1, 1) := by decide +kernel
theorem dX6_put_68 : decode cX6_put 68 = .ok (.imul, 1) := by decide +kernel
theorem dX6_put_69 : decode cX6_put 69 = .ok (.iload_n 2, 1) := by decide +kernel
theorem dX6_put_70 : decode cX6_put 70 = .ok (.iadd, 1) := by decide +kernel
theorem dX6_put_71 : decode cX6_put 71 = .ok (.iload_n 3, 1) := by decide +kernel
theorem dX6_put_72 : decode cX6_put 72 = .ok (.i2b, 1) := by decide +kernel
theorem dX6_put_73 : decode cX6_put 73 = .ok (.iastore, 1) := by decide +kernel
theorem dX6_put_74 : decode cX6_put 74 = .ok (.iload 4, 2) := by decide +kernel
theorem dX6_put_76 : decode cX6_put 76 = .ok (.sipush 1000, 3) := by decide +kernel
theorem dX6_put_79 : decode cX6_put 79 = .ok (.iadd, 1) := by decide +kernel
theorem dX6_put_80 : decode cX6_put 80 = .ok (.ireturn, 1) := by decide +kernel
def p6_put (a1 : Int32) (a2 : Int32) (a3 : Int32) (M : SX) : Option (Int32 × SX) :=
  bd (p6_isText a1 M) (fun r3 M2 => if r3 = 0 then (some ((-1), M2))
  else (gd (bIn a1 4) ( if 0 ≤ (M2.1 5 (Int32.toNatClampNeg a1)) then (bd (p6_in (Int32.toInt64 a2) 0 (Int32.toInt64 ((M2.1 5 (Int32.toNatClampNeg a1)) - 1)) M2) (fun r9 M8 => if r9 = 0 then (bd (p6_find 2 M8) (fun r16 M15 => some (r16, M15)))
  else (gd (bIn ((60 * a1) + a2) 240) ( lt_ (M8.1 6 (Int32.toNatClampNeg ((60 * a1) + a2))) (fun x12 => lt_ (wI M8 6 (Int32.toNatClampNeg ((60 * a1) + a2)) ((Int32.toInt8 a3).toInt32)) (fun M13 => some (x12 + 1000, M13)))))))
  else (bd (p6_find 1 M2) (fun r19 M18 => some (r19, M18))))))
set_option maxHeartbeats 4000000 in
set_option maxRecDepth 100000 in
theorem c6_put {l : Launch} {G : XG} {r : Int32} {M' : SX} {M : SX} (a1 : Int32) (a2 : Int32) (a3 : Int32) (hf : p6_put a1 a2 a3 M = some (r, M')) : Met l yX6_put (.code yX6_put cX6_put 5 (some .int) :: TBL) (rmX 2) (xPc G ZY M [.ref (G.2.1 0), .int a1, .int a2, .int a3]) (xQi G ZY r M') 0 0 (inA G ZY) := by
  refine x_met (cc := cX6_put) (by decide) (Nat.le_of_ble_eq_true rfl) ?_
  intro p e s m below meth c ls F hr hk hl hw
  have F : Fx G ZY p m c cX6_put 5 s [.ref (G.2.1 0), .int a1, .int a2, .int a3].toArray RX6 := F
  have hl : lv_has ls 5 [(0, .ref (G.2.1 0)), (1, .int a1), (2, .int a2), (3, .int a3)] := hl
  have hx := F.1.1
  have hb := F.1.2.1
  unfold p6_put at hf
  refine lv_iload_n hx hb dX6_put_0 rfl (lv_at hl 1 rfl) ?_
  obtain ⟨r3, M2, hc1, hf⟩ := bd_some hf
  refine x_aftI hw (x_runS (rest := []) F hw hl.1 sw_RX6_98 (c6_isText a1 hc1) rfl rfl (Nat.le_of_ble_eq_true rfl) ⟨Nat.le_of_ble_eq_true rfl, Nat.le_of_ble_eq_true rfl⟩ dX6_put_1) (fun H locs hw => ?_)
  refine lv_if_ne (tgt := 9) hx hb dX6_put_4 (by decide) (fun c4 => ?_) (fun c4 => ?_)
  · have hf := it_f hf c4
    refine lv_aload_n hx hb dX6_put_9 rfl (lv_at hl 0 rfl) ?_
    refine g6_5 F hw tw_615 dX6_put_10 ?_
    refine lv_iload_n hx hb dX6_put_13 rfl (lv_at hl 1 rfl) ?_
    obtain ⟨g5, hf⟩ := gd_some hf
    refine x_iald F hw sM5 g5 dX6_put_14 ?_
    refine lv_if_ge (tgt := 24) hx hb dX6_put_15 (by decide) (fun c6 => ?_) (fun c6 => ?_)
    · have hf := it_t hf c6
      refine lv_iload_n hx hb dX6_put_24 rfl (lv_at hl 2 rfl) ?_
      refine lv_i2l (v := Int32.toInt64 a2) hx hb dX6_put_25 rfl ?_
      refine lv_lconst (v := 0) hx hb dX6_put_26 (by decide) ?_
      refine lv_aload_n hx hb dX6_put_27 rfl (lv_at hl 0 rfl) ?_
      refine g6_5 F hw tw_615 dX6_put_28 ?_
      refine lv_iload_n hx hb dX6_put_31 rfl (lv_at hl 1 rfl) ?_
      refine x_iald F hw sM5 g5 dX6_put_32 ?_
      refine lv_iconst (v := 1) hx hb dX6_put_33 (by decide) ?_
      refine lv_isub hx hb dX6_put_34 ?_
      refine lv_i2l (v := Int32.toInt64 ((M2.1 5 (Int32.toNatClampNeg a1)) - 1)) hx hb dX6_put_35 rfl ?_
      obtain ⟨r9, M8, hc7, hf⟩ := bd_some hf
      refine x_aftI hw (x_runS (rest := []) F hw hl.1 sw_RX6_69 (c6_in (Int32.toInt64 a2) 0 (Int32.toInt64 ((M2.1 5 (Int32.toNatClampNeg a1)) - 1)) hc7) rfl rfl (Nat.le_of_ble_eq_true rfl) ⟨Nat.le_of_ble_eq_true rfl, Nat.le_of_ble_eq_true rfl⟩ dX6_put_36) (fun H locs hw => ?_)
      refine lv_if_ne (tgt := 48) hx hb dX6_put_39 (by decide) (fun c10 => ?_) (fun c10 => ?_)
      · have hf := it_f hf c10
        refine lv_aload_n hx hb dX6_put_48 rfl (lv_at hl 0 rfl) ?_
        refine g6_6 F hw tw_607 dX6_put_49 ?_
        refine lv_bipush (v := 60) hx hb dX6_put_52 (by decide) ?_
        refine lv_iload_n hx hb dX6_put_54 rfl (lv_at hl 1 rfl) ?_
        refine lv_imul hx hb dX6_put_55 ?_
        refine lv_iload_n hx hb dX6_put_56 rfl (lv_at hl 2 rfl) ?_
        refine lv_iadd hx hb dX6_put_57 ?_
        obtain ⟨g11, hf⟩ := gd_some hf
        refine x_iald F hw sM6 g11 dX6_put_58 ?_
        obtain ⟨x12, ex12, hf⟩ := lt_elim hf
        refine x_let ex12 ?_
        refine lv_istore (lv' := [(4, .int x12), (0, .ref (G.2.1 0)), (1, .int a1), (2, .int a2), (3, .int a3)]) hx hb dX6_put_59 hl (by decide) rfl (fun ls hl => ?_)
        refine lv_aload_n hx hb dX6_put_61 rfl (lv_at hl 1 rfl) ?_
        refine g6_6 F hw tw_607 dX6_put_62 ?_
        refine lv_bipush (v := 60) hx hb dX6_put_65 (by decide) ?_
        refine lv_iload_n hx hb dX6_put_67 rfl (lv_at hl 2 rfl) ?_
        refine lv_imul hx hb dX6_put_68 ?_
        refine lv_iload_n hx hb dX6_put_69 rfl (lv_at hl 3 rfl) ?_
        refine lv_iadd hx hb dX6_put_70 ?_
        refine lv_iload_n hx hb dX6_put_71 rfl (lv_at hl 4 rfl) ?_
        refine lv_i2b (v := (Int32.toInt8 a3).toInt32) hx hb dX6_put_72 rfl ?_
        refine x_iast F hw sM6 g11 dX6_put_73 (fun H locs hw => ?_)
        obtain ⟨M13, eM13, hf⟩ := lt_elim hf
        rw [← eM13] at hw
        refine lv_iload hx hb dX6_put_74 (lv_at hl 0 rfl) ?_
        refine lv_sipush (v := 1000) hx hb dX6_put_76 (by decide) ?_
        refine lv_iadd hx hb dX6_put_79 ?_
        exact x_iret F hw hr hk hf dX6_put_80
      · have hf := it_t hf c10
        refine lv_aload_n hx hb dX6_put_42 rfl (lv_at hl 0 rfl) ?_
        refine lv_iconst (v := 2) hx hb dX6_put_43 (by decide) ?_
        obtain ⟨r16, M15, hc14, hf⟩ := bd_some hf
        refine x_aftI hw (x_runV (rest := []) F hw hl.1 vw_RX6_79 (sM) rfl (c6_find 2 hc14) rfl rfl (Nat.le_of_ble_eq_true rfl) ⟨Nat.le_of_ble_eq_true rfl, Nat.le_of_ble_eq_true rfl⟩ dX6_put_44) (fun H locs hw => ?_)
        exact x_iret F hw hr hk hf dX6_put_47
    · have hf := it_f hf c6
      refine lv_aload_n hx hb dX6_put_18 rfl (lv_at hl 0 rfl) ?_
      refine lv_iconst (v := 1) hx hb dX6_put_19 (by decide) ?_
      obtain ⟨r19, M18, hc17, hf⟩ := bd_some hf
      refine x_aftI hw (x_runV (rest := []) F hw hl.1 vw_RX6_79 (sM) rfl (c6_find 1 hc17) rfl rfl (Nat.le_of_ble_eq_true rfl) ⟨Nat.le_of_ble_eq_true rfl, Nat.le_of_ble_eq_true rfl⟩ dX6_put_20) (fun H locs hw => ?_)
      exact x_iret F hw hr hk hf dX6_put_23
  · have hf := it_t hf c4
    refine lv_iconst (v := (-1)) hx hb dX6_put_7 (by decide) ?_
    exact x_iret F hw hr hk hf dX6_put_8
theorem dX6_readsShop_0 : decode cX6_readsShop 0 = .ok (.aload_n 0, 1) := by decide +kernel
theorem dX6_readsShop_1 : decode cX6_readsShop 1 = .ok (.invokevirtual 110, 3) := by decide +kernel
theorem dX6_readsShop_4 : decode cX6_readsShop 4 = .ok (.invokestatic 114, 3) := by decide +kernel
theorem dX6_readsShop_7 : decode cX6_readsShop 7 = .ok (.istore_n 1, 1) := by decide +kernel
theorem dX6_readsShop_8 : decode cX6_readsShop 8 = .ok (.iload_n 1, 1) := by decide +kernel
theorem dX6_readsShop_9 : decode cX6_readsShop 9 = .ok (.bipush (-9), 2) := by decide +kernel
theorem dX6_readsShop_11 : decode cX6_readsShop 11 = .ok (.if_icmp .eq 19, 3) := by decide +kernel
theorem dX6_readsShop_14 : decode cX6_readsShop 14 = .ok (.aload_n 0, 1) := by decide +kernel
theorem dX6_readsShop_15 : decode cX6_readsShop 15 = .ok (.getfield 117, 3) := by decide +kernel
theorem dX6_readsShop_18 : decode cX6_readsShop 18 = .ok (.bipush 6, 2) := by decide +kernel
theorem dX6_readsShop_20 : decode cX6_readsShop 20 = .ok (.if_icmp .eq 10, 3) := by decide +kernel
theorem dX6_readsShop_23 : decode cX6_readsShop 23 = .ok (.aload_n 0, 1) := by decide +kernel
theorem dX6_readsShop_24 : decode cX6_readsShop 24 = .ok (.getfield 120, 3) := by decide +kernel
theorem dX6_readsShop_27 : decode cX6_readsShop 27 = .ok (.ifCond .le 5, 3) := by decide +kernel
theorem dX6_readsShop_30 : decode cX6_readsShop 30 = .ok (.iconst 0, 1) := by decide +kernel
theorem dX6_readsShop_31 : decode cX6_readsShop 31 = .ok (.ireturn, 1) := by decide +kernel
theorem dX6_readsShop_32 : decode cX6_readsShop 32 = .ok (.aload_n 0, 1) := by decide +kernel
theorem dX6_readsShop_33 : decode cX6_readsShop 33 = .ok (.dup, 1) := by decide +kernel
theorem dX6_readsShop_34 : decode cX6_readsShop 34 = .ok (.getfield 104, 3) := by decide +kernel
theorem dX6_readsShop_37 : decode cX6_readsShop 37 = .ok (.iconst 1, 1) := by decide +kernel
theorem dX6_readsShop_38 : decode cX6_readsShop 38 = .ok (.iadd, 1) := by decide +kernel
theorem dX6_readsShop_39 : decode cX6_readsShop 39 = .ok (.putfield 104, 3) := by decide +kernel
theorem dX6_readsShop_42 : decode cX6_readsShop 42 = .ok (.aload_n 0, 1) := by decide +kernel
theorem dX6_readsShop_43 : decode cX6_readsShop 43 = .ok (.iconst 0, 1) := by decide +kernel
theorem dX6_readsShop_44 : decode cX6_readsShop 44 = .ok (.bipush 9, 2) := by decide +kernel
theorem dX6_readsShop_46 : decode cX6_readsShop 46 = .ok (.bipush (-9), 2) := by decide +kernel
theorem dX6_readsShop_48 : decode cX6_readsShop 48 = .ok (.invokevirtual 123, 3) := by decide +kernel
theorem dX6_readsShop_51 : decode cX6_readsShop 51 = .ok (.istore_n 2, 1) := by decide +kernel
theorem dX6_readsShop_52 : decode cX6_readsShop 52 = .ok (.iload_n 2, 1) := by decide +kernel
theorem dX6_readsShop_53 : decode cX6_readsShop 53 = .ok (.bipush (-9), 2) := by decide +kernel
theorem dX6_readsShop_55 : decode cX6_readsShop 55 = .ok (.if_icmp .ne 8, 3) := by decide +kernel
theorem dX6_readsShop_58 : decode cX6_readsShop 58 = .ok (.bipush (-9), 2) := by decide +kernel
theorem dX6_readsShop_60 : decode cX6_readsShop 60 = .ok (.goto 12, 3) := by decide +kernel
theorem dX6_readsShop_63 : decode cX6_readsShop 63 = .ok (.aload_n 0, 1) := by decide +kernel
theorem dX6_readsShop_64 : decode cX6_readsShop 64 = .ok (.iconst 0, 1) := by decide +kernel
theorem dX6_readsShop_65 : decode cX6_readsShop 65 = .ok (.bipush 9, 2) := by decide +kernel
theorem dX6_readsShop_67 : decode cX6_readsShop 67 = .ok (.bipush (-9), 2) := by decide +kernel
theorem dX6_readsShop_69 : decode cX6_readsShop 69 = .ok (.invokevirtual 123, 3) := by decide +kernel
theorem dX6_readsShop_72 : decode cX6_readsShop 72 = .ok (.istore_n 3, 1) := by decide +kernel
theorem dX6_readsShop_73 : decode cX6_readsShop 73 = .ok (.iload_n 3, 1) := by decide +kernel
theorem dX6_readsShop_74 : decode cX6_readsShop 74 = .ok (.bipush (-9), 2) := by decide +kernel
theorem dX6_readsShop_76 : decode cX6_readsShop 76 = .ok (.if_icmp .ne 5, 3) := by decide +kernel
theorem dX6_readsShop_79 : decode cX6_readsShop 79 = .ok (.iconst 0, 1) := by decide +kernel
theorem dX6_readsShop_80 : decode cX6_readsShop 80 = .ok (.ireturn, 1) := by decide +kernel
theorem dX6_readsShop_81 : decode cX6_readsShop 81 = .ok (.iconst 5, 1) := by decide +kernel
theorem dX6_readsShop_82 : decode cX6_readsShop 82 = .ok (.aload_n 0, 1) := by decide +kernel
theorem dX6_readsShop_83 : decode cX6_readsShop 83 = .ok (.getfield 117, 3) := by decide +kernel
theorem dX6_readsShop_86 : decode cX6_readsShop 86 = .ok (.imul, 1) := by decide +kernel
theorem dX6_readsShop_87 : decode cX6_readsShop 87 = .ok (.istore 4, 2) := by decide +kernel
theorem dX6_readsShop_89 : decode cX6_readsShop 89 = .ok (.aload_n 0, 1) := by decide +kernel
theorem dX6_readsShop_90 : decode cX6_readsShop 90 = .ok (.getfield 35, 3) := by decide +kernel
theorem dX6_readsShop_93 : decode cX6_readsShop 93 = .ok (.iload 4, 2) := by decide +kernel
theorem dX6_readsShop_95 : decode cX6_readsShop 95 = .ok (.iload_n 1, 1) := by decide +kernel
theorem dX6_readsShop_96 : decode cX6_readsShop 96 = .ok (.iastore, 1) := by decide +kernel
theorem dX6_readsShop_97 : decode cX6_readsShop 97 = .ok (.aload_n 0, 1) := by decide +kernel
theorem dX6_readsShop_98 : decode cX6_readsShop 98 = .ok (.getfield 35, 3) := by decide +kernel
theorem dX6_readsShop_101 : decode cX6_readsShop 101 = .ok (.iload 4, 2) := by decide +kernel
theorem dX6_readsShop_103 : decode cX6_readsShop 103 = .ok (.iconst 1, 1) := by decide +kernel
theorem dX6_readsShop_104 : decode cX6_readsShop 104 = .ok (.iadd, 1) := by decide +kernel
theorem dX6_readsShop_105 : decode cX6_readsShop 105 = .ok (.iload_n 2, 1) := by decide +kernel
theorem dX6_readsShop_106 : decode cX6_readsShop 106 = .ok (.iastore, 1) := by decide +kernel
theorem dX6_readsShop_107 : decode cX6_readsShop 107 = .ok (.aload_n 0, 1) := by decide +kernel
theorem dX6_readsShop_108 : decode cX6_readsShop 108 = .ok (.getfield 35, 3) := by decide +kernel
theorem dX6_readsShop_111 : decode cX6_readsShop 111 = .ok (.iload 4, 2) := by decide +kernel
theorem dX6_readsShop_113 : decode cX6_readsShop 113 = .ok (.iconst 2, 1) := by decide +kernel
theorem dX6_readsShop_114 : decode cX6_readsShop 114 = .ok (.iadd, 1) := by decide +kernel
theorem dX6_readsShop_115 : decode cX6_readsShop 115 = .ok (.iload_n 3, 1) := by decide +kernel
theorem dX6_readsShop_116 : decode cX6_readsShop 116 = .ok (.iastore, 1) := by decide +kernel
theorem dX6_readsShop_117 : decode cX6_readsShop 117 = .ok (.aload_n 0, 1) := by decide +kernel
theorem dX6_readsShop_118 : decode cX6_readsShop 118 = .ok (.getfield 35, 3) := by decide +kernel
theorem dX6_readsShop_121 : decode cX6_readsShop 121 = .ok (.iload 4, 2) := by decide +kernel
theorem dX6_readsShop_123 : decode cX6_readsShop 123 = .ok (.iconst 3, 1) := by decide +kernel
theorem dX6_readsShop_124 : decode cX6_readsShop 124 = .ok (.iadd, 1) := by decide +kernel
theorem dX6_readsShop_125 : decode cX6_readsShop 125 = .ok (.bipush (-9), 2) := by decide +kernel
theorem dX6_readsShop_127 : decode cX6_readsShop 127 = .ok (.iastore, 1) := by decide +kernel
theorem dX6_readsShop_128 : decode cX6_readsShop 128 = .ok (.aload_n 0, 1) := by decide +kernel
theorem dX6_readsShop_129 : decode cX6_readsShop 129 = .ok (.getfield 35, 3) := by decide +kernel
theorem dX6_readsShop_132 : decode cX6_readsShop 132 = .ok (.iload 4, 2) := by decide +kernel
theorem dX6_readsShop_134 : decode cX6_readsShop 134 = .ok (.iconst 4, 1) := by decide +kernel
theorem dX6_readsShop_135 : decode cX6_readsShop 135 = .ok (.iadd, 1) := by decide +kernel
theorem dX6_readsShop_136 : decode cX6_readsShop 136 = .ok (.iconst 0, 1) := by decide +kernel
theorem dX6_readsShop_137 : decode cX6_readsShop 137 = .ok (.iastore, 1) := by decide +kernel
theorem dX6_readsShop_138 : decode cX6_readsShop 138 = .ok (.aload_n 0, 1) := by decide +kernel
theorem dX6_readsShop_139 : decode cX6_readsShop 139 = .ok (.dup, 1) := by decide +kernel
theorem dX6_readsShop_140 : decode cX6_readsShop 140 = .ok (.getfield 117, 3) := by decide +kernel
theorem dX6_readsShop_143 : decode cX6_readsShop 143 = .ok (.iconst 1, 1) := by decide +kernel
theorem dX6_readsShop_144 : decode cX6_readsShop 144 = .ok (.iadd, 1) := by decide +kernel
theorem dX6_readsShop_145 : decode cX6_readsShop 145 = .ok (.putfield 117, 3) := by decide +kernel
theorem dX6_readsShop_148 : decode cX6_readsShop 148 = .ok (.iconst 1, 1) := by decide +kernel
theorem dX6_readsShop_149 : decode cX6_readsShop 149 = .ok (.ireturn, 1) := by decide +kernel
def p6_readsShop_72 (v1 : Int32) (v2 : Int32) (t0 : Int32) (M : SX) : Option (Int32 × SX) :=
  if t0 = (-9 : Int32) then (some (0, M))
  else (lt_ (5 * (M.1 0 16)) (fun x2 => gd (bIn x2 30) ( lt_ (wI M 8 (Int32.toNatClampNeg x2) v1) (fun M4 => gd (bIn (x2 + 1) 30) ( lt_ (wI M4 8 (Int32.toNatClampNeg (x2 + 1)) v2) (fun M6 => gd (bIn (x2 + 2) 30) ( lt_ (wI M6 8 (Int32.toNatClampNeg (x2 + 2)) t0) (fun M8 => gd (bIn (x2 + 3) 30) ( lt_ (wI M8 8 (Int32.toNatClampNeg (x2 + 3)) (-9)) (fun M10 => gd (bIn (x2 + 4) 30) ( lt_ (wI M10 8 (Int32.toNatClampNeg (x2 + 4)) 0) (fun M12 => lt_ (wI M12 0 16 ((M12.1 0 16) + 1)) (fun M13 => some (1, M13))))))))))))))
set_option maxHeartbeats 4000000 in
set_option maxRecDepth 100000 in
theorem w6_readsShop_72 {G : XG} {p : Program} {l : Launch} {e : Env} {s : State} {m : MethodId} {args : Array Value} {below : List Frame} {meth : Method} {c : Code} (F : Fx G ZY p m c cX6_readsShop 5 s args RX6) (hr : meth.sig.returnType = some .boolean) (hk : meth.locks = false) {r : Int32} {M' : SX} : ∀ (v1 : Int32) (v2 : Int32) (t0 : Int32) (M : SX) (H : Heap) (locs : List Loc) (ls : Array Slot), Wld G ZY M s.heap H locs → lv_has ls 5 [(0, .ref (G.2.1 0)), (1, .int v1), (2, .int v2)] → p6_readsShop_72 v1 v2 t0 M = some (r, M') → WXi G ZY p l e 2 s m args below meth c r M' H locs (F0 m 72 ls [.int t0]) := by
  intro v1 v2 t0 M H locs ls hw hl hf
  have hx := F.1.1
  have hb := F.1.2.1
  unfold p6_readsShop_72 at hf
  refine lv_istore_n (lv' := [(3, .int t0), (0, .ref (G.2.1 0)), (1, .int v1), (2, .int v2)]) hx hb dX6_readsShop_72 rfl hl (by decide) rfl (fun ls hl => ?_)
  refine lv_iload_n hx hb dX6_readsShop_73 rfl (lv_at hl 0 rfl) ?_
  refine lv_bipush (v := (-9)) hx hb dX6_readsShop_74 (by decide) ?_
  refine lv_icmp_ne (tgt := 81) hx hb dX6_readsShop_76 (by decide) (fun c1 => ?_) (fun c1 => ?_)
  · have hf := it_f hf c1
    refine lv_iconst (v := 5) hx hb dX6_readsShop_81 (by decide) ?_
    refine lv_aload_n hx hb dX6_readsShop_82 rfl (lv_at hl 1 rfl) ?_
    refine g6_16 F hw tw_684 dX6_readsShop_83 ?_
    refine lv_imul hx hb dX6_readsShop_86 ?_
    obtain ⟨x2, ex2, hf⟩ := lt_elim hf
    refine x_let ex2 ?_
    refine lv_istore (lv' := [(4, .int x2), (3, .int t0), (0, .ref (G.2.1 0)), (1, .int v1), (2, .int v2)]) hx hb dX6_readsShop_87 hl (by decide) rfl (fun ls hl => ?_)
    refine lv_aload_n hx hb dX6_readsShop_89 rfl (lv_at hl 2 rfl) ?_
    refine g6_15 F hw tw_685 dX6_readsShop_90 ?_
    refine lv_iload hx hb dX6_readsShop_93 (lv_at hl 0 rfl) ?_
    refine lv_iload_n hx hb dX6_readsShop_95 rfl (lv_at hl 3 rfl) ?_
    obtain ⟨g3, hf⟩ := gd_some hf
    refine x_iast F hw sM8 g3 dX6_readsShop_96 (fun H locs hw => ?_)
    obtain ⟨M4, eM4, hf⟩ := lt_elim hf
    rw [← eM4] at hw
    refine lv_aload_n hx hb dX6_readsShop_97 rfl (lv_at hl 2 rfl) ?_
    refine g6_15 F hw tw_685 dX6_readsShop_98 ?_
    refine lv_iload hx hb dX6_readsShop_101 (lv_at hl 0 rfl) ?_
    refine lv_iconst (v := 1) hx hb dX6_readsShop_103 (by decide) ?_
    refine lv_iadd hx hb dX6_readsShop_104 ?_
    refine lv_iload_n hx hb dX6_readsShop_105 rfl (lv_at hl 4 rfl) ?_
    obtain ⟨g5, hf⟩ := gd_some hf
    refine x_iast F hw sM8 g5 dX6_readsShop_106 (fun H locs hw => ?_)
    obtain ⟨M6, eM6, hf⟩ := lt_elim hf
    rw [← eM6] at hw
    refine lv_aload_n hx hb dX6_readsShop_107 rfl (lv_at hl 2 rfl) ?_
    refine g6_15 F hw tw_685 dX6_readsShop_108 ?_
    refine lv_iload hx hb dX6_readsShop_111 (lv_at hl 0 rfl) ?_
    refine lv_iconst (v := 2) hx hb dX6_readsShop_113 (by decide) ?_
    refine lv_iadd hx hb dX6_readsShop_114 ?_
    refine lv_iload_n hx hb dX6_readsShop_115 rfl (lv_at hl 1 rfl) ?_
    obtain ⟨g7, hf⟩ := gd_some hf
    refine x_iast F hw sM8 g7 dX6_readsShop_116 (fun H locs hw => ?_)
    obtain ⟨M8, eM8, hf⟩ := lt_elim hf
    rw [← eM8] at hw
    refine lv_aload_n hx hb dX6_readsShop_117 rfl (lv_at hl 2 rfl) ?_
    refine g6_15 F hw tw_685 dX6_readsShop_118 ?_
    refine lv_iload hx hb dX6_readsShop_121 (lv_at hl 0 rfl) ?_
    refine lv_iconst (v := 3) hx hb dX6_readsShop_123 (by decide) ?_
    refine lv_iadd hx hb dX6_readsShop_124 ?_
    refine lv_bipush (v := (-9)) hx hb dX6_readsShop_125 (by decide) ?_
    obtain ⟨g9, hf⟩ := gd_some hf
    refine x_iast F hw sM8 g9 dX6_readsShop_127 (fun H locs hw => ?_)
    obtain ⟨M10, eM10, hf⟩ := lt_elim hf
    rw [← eM10] at hw
    refine lv_aload_n hx hb dX6_readsShop_128 rfl (lv_at hl 2 rfl) ?_
    refine g6_15 F hw tw_685 dX6_readsShop_129 ?_
    refine lv_iload hx hb dX6_readsShop_132 (lv_at hl 0 rfl) ?_
    refine lv_iconst (v := 4) hx hb dX6_readsShop_134 (by decide) ?_
    refine lv_iadd hx hb dX6_readsShop_135 ?_
    refine lv_iconst (v := 0) hx hb dX6_readsShop_136 (by decide) ?_
    obtain ⟨g11, hf⟩ := gd_some hf
    refine x_iast F hw sM8 g11 dX6_readsShop_137 (fun H locs hw => ?_)
    obtain ⟨M12, eM12, hf⟩ := lt_elim hf
    rw [← eM12] at hw
    refine lv_aload_n hx hb dX6_readsShop_138 rfl (lv_at hl 2 rfl) ?_
    refine lv_dup hx hb dX6_readsShop_139 rfl ?_
    refine g6_16 F hw tw_684 dX6_readsShop_140 ?_
    refine lv_iconst (v := 1) hx hb dX6_readsShop_143 (by decide) ?_
    refine lv_iadd hx hb dX6_readsShop_144 ?_
    refine s6_16 F hw tw_684 dX6_readsShop_145 (fun H locs hw => ?_)
    obtain ⟨M13, eM13, hf⟩ := lt_elim hf
    rw [← eM13] at hw
    refine lv_iconst (v := 1) hx hb dX6_readsShop_148 (by decide) ?_
    exact x_zret F hw hr hk (by decide) hf dX6_readsShop_149
  · have hf := it_t hf c1
    refine lv_iconst (v := 0) hx hb dX6_readsShop_79 (by decide) ?_
    exact x_zret F hw hr hk (by decide) hf dX6_readsShop_80
def p6_readsShop (M : SX) : Option (Int32 × SX) :=
  bd (p6_here M) (fun r3 M2 => bd (p6_kindOfLetter r3 M2) (fun r6 M5 => if r6 = (-9 : Int32) then (some (0, M5))
  else (if (M5.1 0 16) = (6 : Int32) then (some (0, M5))
  else (if (M5.1 0 17) ≤ 0 then (lt_ (wI M5 0 13 ((M5.1 0 13) + 1)) (fun M10 => bd (p6_figure 0 9 (-9) M10) (fun r13 M12 => if r13 = (-9 : Int32) then (p6_readsShop_72 r6 r13 (-9) M12)
  else (bd (p6_figure 0 9 (-9) M12) (fun r17 M16 => p6_readsShop_72 r6 r13 r17 M16)))))
  else (some (0, M5))))))
set_option maxHeartbeats 4000000 in
set_option maxRecDepth 100000 in
theorem c6_readsShop {l : Launch} {G : XG} {r : Int32} {M' : SX} {M : SX} (hf : p6_readsShop M = some (r, M')) : Met l yX6_readsShop (.code yX6_readsShop cX6_readsShop 5 (some .boolean) :: TBL) (rmX 2) (xPc G ZY M [.ref (G.2.1 0)]) (xQi G ZY r M') 0 0 (inA G ZY) := by
  refine x_met (cc := cX6_readsShop) (by decide) (Nat.le_of_ble_eq_true rfl) ?_
  intro p e s m below meth c ls F hr hk hl hw
  have F : Fx G ZY p m c cX6_readsShop 5 s [.ref (G.2.1 0)].toArray RX6 := F
  have hl : lv_has ls 5 [(0, .ref (G.2.1 0))] := hl
  have hx := F.1.1
  have hb := F.1.2.1
  unfold p6_readsShop at hf
  refine lv_aload_n hx hb dX6_readsShop_0 rfl (lv_at hl 0 rfl) ?_
  obtain ⟨r3, M2, hc1, hf⟩ := bd_some hf
  refine x_aftI hw (x_runV (rest := []) F hw hl.1 vw_RX6_110 (sM) rfl (c6_here hc1) rfl rfl (Nat.le_of_ble_eq_true rfl) ⟨Nat.le_of_ble_eq_true rfl, Nat.le_of_ble_eq_true rfl⟩ dX6_readsShop_1) (fun H locs hw => ?_)
  obtain ⟨r6, M5, hc4, hf⟩ := bd_some hf
  refine x_aftI hw (x_runS (rest := []) F hw hl.1 sw_RX6_114 (c6_kindOfLetter r3 hc4) rfl rfl (Nat.le_of_ble_eq_true rfl) ⟨Nat.le_of_ble_eq_true rfl, Nat.le_of_ble_eq_true rfl⟩ dX6_readsShop_4) (fun H locs hw => ?_)
  refine lv_istore_n (lv' := [(1, .int r6), (0, .ref (G.2.1 0))]) hx hb dX6_readsShop_7 rfl hl (by decide) rfl (fun ls hl => ?_)
  refine lv_iload_n hx hb dX6_readsShop_8 rfl (lv_at hl 0 rfl) ?_
  refine lv_bipush (v := (-9)) hx hb dX6_readsShop_9 (by decide) ?_
  refine lv_icmp_eq (tgt := 30) hx hb dX6_readsShop_11 (by decide) (fun c7 => ?_) (fun c7 => ?_)
  · have hf := it_t hf c7
    refine lv_iconst (v := 0) hx hb dX6_readsShop_30 (by decide) ?_
    exact x_zret F hw hr hk (by decide) hf dX6_readsShop_31
  · have hf := it_f hf c7
    refine lv_aload_n hx hb dX6_readsShop_14 rfl (lv_at hl 1 rfl) ?_
    refine g6_16 F hw tw_684 dX6_readsShop_15 ?_
    refine lv_bipush (v := 6) hx hb dX6_readsShop_18 (by decide) ?_
    refine lv_icmp_eq (tgt := 30) hx hb dX6_readsShop_20 (by decide) (fun c8 => ?_) (fun c8 => ?_)
    · have hf := it_t hf c8
      refine lv_iconst (v := 0) hx hb dX6_readsShop_30 (by decide) ?_
      exact x_zret F hw hr hk (by decide) hf dX6_readsShop_31
    · have hf := it_f hf c8
      refine lv_aload_n hx hb dX6_readsShop_23 rfl (lv_at hl 1 rfl) ?_
      refine g6_17 F hw tw_690 dX6_readsShop_24 ?_
      refine lv_if_le (tgt := 32) hx hb dX6_readsShop_27 (by decide) (fun c9 => ?_) (fun c9 => ?_)
      · have hf := it_t hf c9
        refine lv_aload_n hx hb dX6_readsShop_32 rfl (lv_at hl 1 rfl) ?_
        refine lv_dup hx hb dX6_readsShop_33 rfl ?_
        refine g6_13 F hw tw_609 dX6_readsShop_34 ?_
        refine lv_iconst (v := 1) hx hb dX6_readsShop_37 (by decide) ?_
        refine lv_iadd hx hb dX6_readsShop_38 ?_
        refine s6_13 F hw tw_609 dX6_readsShop_39 (fun H locs hw => ?_)
        obtain ⟨M10, eM10, hf⟩ := lt_elim hf
        rw [← eM10] at hw
        refine lv_aload_n hx hb dX6_readsShop_42 rfl (lv_at hl 1 rfl) ?_
        refine lv_iconst (v := 0) hx hb dX6_readsShop_43 (by decide) ?_
        refine lv_bipush (v := 9) hx hb dX6_readsShop_44 (by decide) ?_
        refine lv_bipush (v := (-9)) hx hb dX6_readsShop_46 (by decide) ?_
        obtain ⟨r13, M12, hc11, hf⟩ := bd_some hf
        refine x_aftI hw (x_runV (rest := []) F hw hl.1 vw_RX6_123 (sM) rfl (c6_figure 0 9 (-9) hc11) rfl rfl (Nat.le_of_ble_eq_true rfl) ⟨Nat.le_of_ble_eq_true rfl, Nat.le_of_ble_eq_true rfl⟩ dX6_readsShop_48) (fun H locs hw => ?_)
        refine lv_istore_n (lv' := [(2, .int r13), (1, .int r6), (0, .ref (G.2.1 0))]) hx hb dX6_readsShop_51 rfl hl (by decide) rfl (fun ls hl => ?_)
        refine lv_iload_n hx hb dX6_readsShop_52 rfl (lv_at hl 0 rfl) ?_
        refine lv_bipush (v := (-9)) hx hb dX6_readsShop_53 (by decide) ?_
        refine lv_icmp_ne (tgt := 63) hx hb dX6_readsShop_55 (by decide) (fun c14 => ?_) (fun c14 => ?_)
        · have hf := it_f hf c14
          refine lv_aload_n hx hb dX6_readsShop_63 rfl (lv_at hl 2 rfl) ?_
          refine lv_iconst (v := 0) hx hb dX6_readsShop_64 (by decide) ?_
          refine lv_bipush (v := 9) hx hb dX6_readsShop_65 (by decide) ?_
          refine lv_bipush (v := (-9)) hx hb dX6_readsShop_67 (by decide) ?_
          obtain ⟨r17, M16, hc15, hf⟩ := bd_some hf
          refine x_aftI hw (x_runV (rest := []) F hw hl.1 vw_RX6_123 (sM) rfl (c6_figure 0 9 (-9) hc15) rfl rfl (Nat.le_of_ble_eq_true rfl) ⟨Nat.le_of_ble_eq_true rfl, Nat.le_of_ble_eq_true rfl⟩ dX6_readsShop_69) (fun H locs hw => ?_)
          exact w6_readsShop_72 F hr hk r6 r13 r17 M16 _ _ ls hw (lv_sub hl [2, 1, 0] rfl) hf
        · have hf := it_t hf c14
          refine lv_bipush (v := (-9)) hx hb dX6_readsShop_58 (by decide) ?_
          refine lv_goto (tgt := 72) hx hb dX6_readsShop_60 (by decide) ?_
          exact w6_readsShop_72 F hr hk r6 r13 (-9) M12 _ _ ls hw (lv_sub hl [2, 1, 0] rfl) hf
      · have hf := it_f hf c9
        refine lv_iconst (v := 0) hx hb dX6_readsShop_30 (by decide) ?_
        exact x_zret F hw hr hk (by decide) hf dX6_readsShop_31
