theorem dX5_toldOfShop_0 : decode cX5_toldOfShop 0 = .ok (.iload_n 2, 1) := by decide +kernel
theorem dX5_toldOfShop_1 : decode cX5_toldOfShop 1 = .ok (.tableswitch 99 0 5 #[39, 49, 59, 69, 79, 89], 39) := by decide +kernel
theorem dX5_toldOfShop_40 : decode cX5_toldOfShop 40 = .ok (.aload_n 0, 1) := by decide +kernel
theorem dX5_toldOfShop_41 : decode cX5_toldOfShop 41 = .ok (.getfield 31, 3) := by decide +kernel
theorem dX5_toldOfShop_44 : decode cX5_toldOfShop 44 = .ok (.getfield 135, 3) := by decide +kernel
theorem dX5_toldOfShop_47 : decode cX5_toldOfShop 47 = .ok (.iload_n 1, 1) := by decide +kernel
theorem dX5_toldOfShop_48 : decode cX5_toldOfShop 48 = .ok (.iaload, 1) := by decide +kernel
theorem dX5_toldOfShop_49 : decode cX5_toldOfShop 49 = .ok (.ireturn, 1) := by decide +kernel
theorem dX5_toldOfShop_50 : decode cX5_toldOfShop 50 = .ok (.aload_n 0, 1) := by decide +kernel
theorem dX5_toldOfShop_51 : decode cX5_toldOfShop 51 = .ok (.getfield 31, 3) := by decide +kernel
theorem dX5_toldOfShop_54 : decode cX5_toldOfShop 54 = .ok (.getfield 203, 3) := by decide +kernel
theorem dX5_toldOfShop_57 : decode cX5_toldOfShop 57 = .ok (.iload_n 1, 1) := by decide +kernel
theorem dX5_toldOfShop_58 : decode cX5_toldOfShop 58 = .ok (.iaload, 1) := by decide +kernel
theorem dX5_toldOfShop_59 : decode cX5_toldOfShop 59 = .ok (.ireturn, 1) := by decide +kernel
theorem dX5_toldOfShop_60 : decode cX5_toldOfShop 60 = .ok (.aload_n 0, 1) := by decide +kernel
theorem dX5_toldOfShop_61 : decode cX5_toldOfShop 61 = .ok (.getfield 31, 3) := by decide +kernel
theorem dX5_toldOfShop_64 : decode cX5_toldOfShop 64 = .ok (.getfield 172, 3) := by decide +kernel
theorem dX5_toldOfShop_67 : decode cX5_toldOfShop 67 = .ok (.iload_n 1, 1) := by decide +kernel
theorem dX5_toldOfShop_68 : decode cX5_toldOfShop 68 = .ok (.iaload, 1) := by decide +kernel
theorem dX5_toldOfShop_69 : decode cX5_toldOfShop 69 = .ok (.ireturn, 1) := by decide +kernel
theorem dX5_toldOfShop_70 : decode cX5_toldOfShop 70 = .ok (.aload_n 0, 1) := by decide +kernel
theorem dX5_toldOfShop_71 : decode cX5_toldOfShop 71 = .ok (.getfield 31, 3) := by decide +kernel
theorem dX5_toldOfShop_74 : decode cX5_toldOfShop 74 = .ok (.getfield 215, 3) := by decide +kernel
theorem dX5_toldOfShop_77 : decode cX5_toldOfShop 77 = .ok (.iload_n 1, 1) := by decide +kernel
theorem dX5_toldOfShop_78 : decode cX5_toldOfShop 78 = .ok (.iaload, 1) := by decide +kernel
theorem dX5_toldOfShop_79 : decode cX5_toldOfShop 79 = .ok (.ireturn, 1) := by decide +kernel
theorem dX5_toldOfShop_80 : decode cX5_toldOfShop 80 = .ok (.aload_n 0, 1) := by decide +kernel
theorem dX5_toldOfShop_81 : decode cX5_toldOfShop 81 = .ok (.getfield 31, 3) := by decide +kernel
theorem dX5_toldOfShop_84 : decode cX5_toldOfShop 84 = .ok (.iload_n 1, 1) := by decide +kernel
theorem dX5_toldOfShop_85 : decode cX5_toldOfShop 85 = .ok (.iconst 0, 1) := by decide +kernel
theorem dX5_toldOfShop_86 : decode cX5_toldOfShop 86 = .ok (.invokevirtual 230, 3) := by decide +kernel
theorem dX5_toldOfShop_89 : decode cX5_toldOfShop 89 = .ok (.ireturn, 1) := by decide +kernel
theorem dX5_toldOfShop_90 : decode cX5_toldOfShop 90 = .ok (.aload_n 0, 1) := by decide +kernel
theorem dX5_toldOfShop_91 : decode cX5_toldOfShop 91 = .ok (.getfield 31, 3) := by decide +kernel
theorem dX5_toldOfShop_94 : decode cX5_toldOfShop 94 = .ok (.getfield 320, 3) := by decide +kernel
theorem dX5_toldOfShop_97 : decode cX5_toldOfShop 97 = .ok (.iload_n 1, 1) := by decide +kernel
theorem dX5_toldOfShop_98 : decode cX5_toldOfShop 98 = .ok (.iaload, 1) := by decide +kernel
theorem dX5_toldOfShop_99 : decode cX5_toldOfShop 99 = .ok (.ireturn, 1) := by decide +kernel
theorem dX5_toldOfShop_100 : decode cX5_toldOfShop 100 = .ok (.aload_n 0, 1) := by decide +kernel
theorem dX5_toldOfShop_101 : decode cX5_toldOfShop 101 = .ok (.getfield 31, 3) := by decide +kernel
theorem dX5_toldOfShop_104 : decode cX5_toldOfShop 104 = .ok (.iload_n 1, 1) := by decide +kernel
theorem dX5_toldOfShop_105 : decode cX5_toldOfShop 105 = .ok (.invokevirtual 148, 3) := by decide +kernel
theorem dX5_toldOfShop_108 : decode cX5_toldOfShop 108 = .ok (.ireturn, 1) := by decide +kernel
def p5_toldOfShop (a1 : Int32) (a2 : Int32) (M : SX) : Option (Int32 × SX) :=
  if a2 = 0 then (gd (bIn a1 6) ( some (M.1 (17 + 1) (Int32.toNatClampNeg a1), M)))
  else (if a2 = 1 then (gd (bIn a1 6) ( some (M.1 (17 + 2) (Int32.toNatClampNeg a1), M)))
  else (if a2 = 2 then (gd (bIn a1 6) ( some (M.1 (17 + 3) (Int32.toNatClampNeg a1), M)))
  else (if a2 = 3 then (gd (bIn a1 6) ( some (M.1 (17 + 4) (Int32.toNatClampNeg a1), M)))
  else (if a2 = 4 then (bd (p1_dueOf 17 a1 0 M) (fun r12 M11 => some (r12, M11)))
  else (if a2 = 5 then (gd (bIn a1 6) ( some (M.1 (17 + 6) (Int32.toNatClampNeg a1), M)))
  else (bd (p1_heldBy 17 a1 M) (fun r17 M16 => some (r17, M16))))))))
set_option maxHeartbeats 4000000 in
set_option maxRecDepth 100000 in
theorem c5_toldOfShop {l : Launch} {G : XG} {r : Int32} {M' : SX} {M : SX} (a1 : Int32) (a2 : Int32) (hf : p5_toldOfShop a1 a2 M = some (r, M')) : Met l yX5_toldOfShop (.code yX5_toldOfShop cX5_toldOfShop 3 (some .int) :: TBL) (rmX 3) (xPc G ZX M [.ref (G.2.1 0), .int a1, .int a2]) (xQi G ZX r M') 0 0 (inA G ZX) := by
  refine x_met (cc := cX5_toldOfShop) (by decide) (Nat.le_of_ble_eq_true rfl) ?_
  intro p e s m below meth c ls F hr hk hl hw
  have F : Fx G ZX p m c cX5_toldOfShop 3 s [.ref (G.2.1 0), .int a1, .int a2].toArray RX5 := F
  have hl : lv_has ls 3 [(0, .ref (G.2.1 0)), (1, .int a1), (2, .int a2)] := hl
  have hx := F.1.1
  have hb := F.1.2.1
  unfold p5_toldOfShop at hf
  refine lv_iload_n hx hb dX5_toldOfShop_0 rfl (lv_at hl 2 rfl) ?_
  by_cases c1 : a2 = 0
  · have hf := it_t hf c1
    refine lv_tableIn (tgt := 40) hx hb dX5_toldOfShop_1 (by rw [c1]; decide) (by rw [c1]; decide) (by rw [c1]; rfl) (by decide) ?_
    refine lv_aload_n hx hb dX5_toldOfShop_40 rfl (lv_at hl 0 rfl) ?_
    refine g5_3 F hw tw_306 dX5_toldOfShop_41 ?_
    refine g1_1 isL_17 F hw tw_422 dX5_toldOfShop_44 ?_
    refine lv_iload_n hx hb dX5_toldOfShop_47 rfl (lv_at hl 1 rfl) ?_
    obtain ⟨g2, hf⟩ := gd_some hf
    refine x_iald F hw (sL1 isL_17) g2 dX5_toldOfShop_48 ?_
    exact x_iret F hw hr hk hf dX5_toldOfShop_49
  · have hf := it_f hf c1
    by_cases c3 : a2 = 1
    · have hf := it_t hf c3
      refine lv_tableIn (tgt := 50) hx hb dX5_toldOfShop_1 (by rw [c3]; decide) (by rw [c3]; decide) (by rw [c3]; rfl) (by decide) ?_
      refine lv_aload_n hx hb dX5_toldOfShop_50 rfl (lv_at hl 0 rfl) ?_
      refine g5_3 F hw tw_306 dX5_toldOfShop_51 ?_
      refine g1_2 isL_17 F hw tw_394 dX5_toldOfShop_54 ?_
      refine lv_iload_n hx hb dX5_toldOfShop_57 rfl (lv_at hl 1 rfl) ?_
      obtain ⟨g4, hf⟩ := gd_some hf
      refine x_iald F hw (sL2 isL_17) g4 dX5_toldOfShop_58 ?_
      exact x_iret F hw hr hk hf dX5_toldOfShop_59
    · have hf := it_f hf c3
      by_cases c5 : a2 = 2
      · have hf := it_t hf c5
        refine lv_tableIn (tgt := 60) hx hb dX5_toldOfShop_1 (by rw [c5]; decide) (by rw [c5]; decide) (by rw [c5]; rfl) (by decide) ?_
        refine lv_aload_n hx hb dX5_toldOfShop_60 rfl (lv_at hl 0 rfl) ?_
        refine g5_3 F hw tw_306 dX5_toldOfShop_61 ?_
        refine g1_3 isL_17 F hw tw_311 dX5_toldOfShop_64 ?_
        refine lv_iload_n hx hb dX5_toldOfShop_67 rfl (lv_at hl 1 rfl) ?_
        obtain ⟨g6, hf⟩ := gd_some hf
        refine x_iald F hw (sL3 isL_17) g6 dX5_toldOfShop_68 ?_
        exact x_iret F hw hr hk hf dX5_toldOfShop_69
      · have hf := it_f hf c5
        by_cases c7 : a2 = 3
        · have hf := it_t hf c7
          refine lv_tableIn (tgt := 70) hx hb dX5_toldOfShop_1 (by rw [c7]; decide) (by rw [c7]; decide) (by rw [c7]; rfl) (by decide) ?_
          refine lv_aload_n hx hb dX5_toldOfShop_70 rfl (lv_at hl 0 rfl) ?_
          refine g5_3 F hw tw_306 dX5_toldOfShop_71 ?_
          refine g1_4 isL_17 F hw tw_314 dX5_toldOfShop_74 ?_
          refine lv_iload_n hx hb dX5_toldOfShop_77 rfl (lv_at hl 1 rfl) ?_
          obtain ⟨g8, hf⟩ := gd_some hf
          refine x_iald F hw (sL4 isL_17) g8 dX5_toldOfShop_78 ?_
          exact x_iret F hw hr hk hf dX5_toldOfShop_79
        · have hf := it_f hf c7
          by_cases c9 : a2 = 4
          · have hf := it_t hf c9
            refine lv_tableIn (tgt := 80) hx hb dX5_toldOfShop_1 (by rw [c9]; decide) (by rw [c9]; decide) (by rw [c9]; rfl) (by decide) ?_
            refine lv_aload_n hx hb dX5_toldOfShop_80 rfl (lv_at hl 0 rfl) ?_
            refine g5_3 F hw tw_306 dX5_toldOfShop_81 ?_
            refine lv_iload_n hx hb dX5_toldOfShop_84 rfl (lv_at hl 1 rfl) ?_
            refine lv_iconst (v := 0) hx hb dX5_toldOfShop_85 (by decide) ?_
            obtain ⟨r12, M11, hc10, hf⟩ := bd_some hf
            refine x_aftI hw (x_runV (rest := []) F hw hl.1 vw_RX5_230 (sL isL_17) rfl (c1_dueOf 17 isL_17 a1 0 hc10) rfl rfl (Nat.le_of_ble_eq_true rfl) ⟨Nat.le_of_ble_eq_true rfl, Nat.le_of_ble_eq_true rfl⟩ dX5_toldOfShop_86) (fun H locs hw => ?_)
            exact x_iret F hw hr hk hf dX5_toldOfShop_89
          · have hf := it_f hf c9
            by_cases c13 : a2 = 5
            · have hf := it_t hf c13
              refine lv_tableIn (tgt := 90) hx hb dX5_toldOfShop_1 (by rw [c13]; decide) (by rw [c13]; decide) (by rw [c13]; rfl) (by decide) ?_
              refine lv_aload_n hx hb dX5_toldOfShop_90 rfl (lv_at hl 0 rfl) ?_
              refine g5_3 F hw tw_306 dX5_toldOfShop_91 ?_
              refine g1_6 isL_17 F hw tw_425 dX5_toldOfShop_94 ?_
              refine lv_iload_n hx hb dX5_toldOfShop_97 rfl (lv_at hl 1 rfl) ?_
              obtain ⟨g14, hf⟩ := gd_some hf
              refine x_iald F hw (sL6 isL_17) g14 dX5_toldOfShop_98 ?_
              exact x_iret F hw hr hk hf dX5_toldOfShop_99
            · have hf := it_f hf c13
              have nc1 := x_ne (k := 0) (0) rfl c1
              have nc3 := x_ne (k := 1) (1) rfl c3
              have nc5 := x_ne (k := 2) (2) rfl c5
              have nc7 := x_ne (k := 3) (3) rfl c7
              have nc9 := x_ne (k := 4) (4) rfl c9
              have nc13 := x_ne (k := 5) (5) rfl c13
              refine lv_tableOut (tgt := 100) hx hb dX5_toldOfShop_1 (by omega) (by decide) ?_
              refine lv_aload_n hx hb dX5_toldOfShop_100 rfl (lv_at hl 0 rfl) ?_
              refine g5_3 F hw tw_306 dX5_toldOfShop_101 ?_
              refine lv_iload_n hx hb dX5_toldOfShop_104 rfl (lv_at hl 1 rfl) ?_
              obtain ⟨r17, M16, hc15, hf⟩ := bd_some hf
              refine x_aftI hw (x_runV (rest := []) F hw hl.1 vw_RX5_148 (sL isL_17) rfl (c1_heldBy 17 isL_17 a1 hc15) rfl rfl (Nat.le_of_ble_eq_true rfl) ⟨Nat.le_of_ble_eq_true rfl, Nat.le_of_ble_eq_true rfl⟩ dX5_toldOfShop_105) (fun H locs hw => ?_)
              exact x_iret F hw hr hk hf dX5_toldOfShop_108
theorem dX5_shop_0 : decode cX5_shop 0 = .ok (.aload_n 0, 1) := by decide +kernel
theorem dX5_shop_1 : decode cX5_shop 1 = .ok (.getfield 31, 3) := by decide +kernel
theorem dX5_shop_4 : decode cX5_shop 4 = .ok (.iload_n 1, 1) := by decide +kernel
theorem dX5_shop_5 : decode cX5_shop 5 = .ok (.invokevirtual 129, 3) := by decide +kernel
theorem dX5_shop_8 : decode cX5_shop 8 = .ok (.ifCond .eq 13, 3) := by decide +kernel
theorem dX5_shop_11 : decode cX5_shop 11 = .ok (.iload_n 2, 1) := by decide +kernel
theorem dX5_shop_12 : decode cX5_shop 12 = .ok (.ifCond .lt 9, 3) := by decide +kernel
theorem dX5_shop_15 : decode cX5_shop 15 = .ok (.iload_n 2, 1) := by decide +kernel
theorem dX5_shop_16 : decode cX5_shop 16 = .ok (.bipush 7, 2) := by decide +kernel
theorem dX5_shop_18 : decode cX5_shop 18 = .ok (.if_icmp .lt 5, 3) := by decide +kernel
theorem dX5_shop_21 : decode cX5_shop 21 = .ok (.iconst (-1), 1) := by decide +kernel
theorem dX5_shop_22 : decode cX5_shop 22 = .ok (.ireturn, 1) := by decide +kernel
theorem dX5_shop_23 : decode cX5_shop 23 = .ok (.aload_n 0, 1) := by decide +kernel
theorem dX5_shop_24 : decode cX5_shop 24 = .ok (.aload_n 0, 1) := by decide +kernel
theorem dX5_shop_25 : decode cX5_shop 25 = .ok (.iload_n 1, 1) := by decide +kernel
theorem dX5_shop_26 : decode cX5_shop 26 = .ok (.iload_n 2, 1) := by decide +kernel
theorem dX5_shop_27 : decode cX5_shop 27 = .ok (.invokevirtual 132, 3) := by decide +kernel
theorem dX5_shop_30 : decode cX5_shop 30 = .ok (.putfield 54, 3) := by decide +kernel
theorem dX5_shop_33 : decode cX5_shop 33 = .ok (.iconst 1, 1) := by decide +kernel
theorem dX5_shop_34 : decode cX5_shop 34 = .ok (.ireturn, 1) := by decide +kernel
def p5_shop (a1 : Int32) (a2 : Int32) (M : SX) : Option (Int32 × SX) :=
  bd (p1_isShop 17 a1 M) (fun r3 M2 => if r3 = 0 then (some ((-1), M2))
  else (if a2 < 0 then (some ((-1), M2))
  else (if a2 < (7 : Int32) then (bd (p5_toldOfShop a1 a2 M2) (fun r9 M8 => lt_ (wI M8 0 8 r9) (fun M10 => some (1, M10))))
  else (some ((-1), M2)))))
set_option maxHeartbeats 4000000 in
set_option maxRecDepth 100000 in
theorem c5_shop {l : Launch} {G : XG} {r : Int32} {M' : SX} {M : SX} (a1 : Int32) (a2 : Int32) (hf : p5_shop a1 a2 M = some (r, M')) : Met l yX5_shop (.code yX5_shop cX5_shop 3 (some .int) :: TBL) (rmX 4) (xPc G ZX M [.ref (G.2.1 0), .int a1, .int a2]) (xQi G ZX r M') 0 0 (inA G ZX) := by
  refine x_met (cc := cX5_shop) (by decide) (Nat.le_of_ble_eq_true rfl) ?_
  intro p e s m below meth c ls F hr hk hl hw
  have F : Fx G ZX p m c cX5_shop 3 s [.ref (G.2.1 0), .int a1, .int a2].toArray RX5 := F
  have hl : lv_has ls 3 [(0, .ref (G.2.1 0)), (1, .int a1), (2, .int a2)] := hl
  have hx := F.1.1
  have hb := F.1.2.1
  unfold p5_shop at hf
  refine lv_aload_n hx hb dX5_shop_0 rfl (lv_at hl 0 rfl) ?_
  refine g5_3 F hw tw_306 dX5_shop_1 ?_
  refine lv_iload_n hx hb dX5_shop_4 rfl (lv_at hl 1 rfl) ?_
  obtain ⟨r3, M2, hc1, hf⟩ := bd_some hf
  refine x_aftI hw (x_runV (rest := []) F hw hl.1 vw_RX5_129 (sL isL_17) rfl (c1_isShop 17 isL_17 a1 hc1) rfl rfl (Nat.le_of_ble_eq_true rfl) ⟨Nat.le_of_ble_eq_true rfl, Nat.le_of_ble_eq_true rfl⟩ dX5_shop_5) (fun H locs hw => ?_)
  refine lv_if_eq (tgt := 21) hx hb dX5_shop_8 (by decide) (fun c4 => ?_) (fun c4 => ?_)
  · have hf := it_t hf c4
    refine lv_iconst (v := (-1)) hx hb dX5_shop_21 (by decide) ?_
    exact x_iret F hw hr hk hf dX5_shop_22
  · have hf := it_f hf c4
    refine lv_iload_n hx hb dX5_shop_11 rfl (lv_at hl 2 rfl) ?_
    refine lv_if_lt (tgt := 21) hx hb dX5_shop_12 (by decide) (fun c5 => ?_) (fun c5 => ?_)
    · have hf := it_t hf c5
      refine lv_iconst (v := (-1)) hx hb dX5_shop_21 (by decide) ?_
      exact x_iret F hw hr hk hf dX5_shop_22
    · have hf := it_f hf c5
      refine lv_iload_n hx hb dX5_shop_15 rfl (lv_at hl 2 rfl) ?_
      refine lv_bipush (v := 7) hx hb dX5_shop_16 (by decide) ?_
      refine lv_icmp_lt (tgt := 23) hx hb dX5_shop_18 (by decide) (fun c6 => ?_) (fun c6 => ?_)
      · have hf := it_t hf c6
        refine lv_aload_n hx hb dX5_shop_23 rfl (lv_at hl 0 rfl) ?_
        refine lv_aload_n hx hb dX5_shop_24 rfl (lv_at hl 0 rfl) ?_
        refine lv_iload_n hx hb dX5_shop_25 rfl (lv_at hl 1 rfl) ?_
        refine lv_iload_n hx hb dX5_shop_26 rfl (lv_at hl 2 rfl) ?_
        obtain ⟨r9, M8, hc7, hf⟩ := bd_some hf
        refine x_aftI hw (x_runV (rest := [.ref (G.2.1 0)]) F hw hl.1 vw_RX5_132 (sP) rfl (c5_toldOfShop a1 a2 hc7) rfl rfl (Nat.le_of_ble_eq_true rfl) ⟨Nat.le_of_ble_eq_true rfl, Nat.le_of_ble_eq_true rfl⟩ dX5_shop_27) (fun H locs hw => ?_)
        refine s5_8 F hw tw_299 dX5_shop_30 (fun H locs hw => ?_)
        obtain ⟨M10, eM10, hf⟩ := lt_elim hf
        rw [← eM10] at hw
        refine lv_iconst (v := 1) hx hb dX5_shop_33 (by decide) ?_
        exact x_iret F hw hr hk hf dX5_shop_34
      · have hf := it_f hf c6
        refine lv_iconst (v := (-1)) hx hb dX5_shop_21 (by decide) ?_
        exact x_iret F hw hr hk hf dX5_shop_22
theorem dX5_mark_0 : decode cX5_mark 0 = .ok (.aload_n 0, 1) := by decide +kernel
theorem dX5_mark_1 : decode cX5_mark 1 = .ok (.getfield 31, 3) := by decide +kernel
theorem dX5_mark_4 : decode cX5_mark 4 = .ok (.iload_n 1, 1) := by decide +kernel
theorem dX5_mark_5 : decode cX5_mark 5 = .ok (.invokevirtual 129, 3) := by decide +kernel
theorem dX5_mark_8 : decode cX5_mark 8 = .ok (.ifCond .eq 13, 3) := by decide +kernel
theorem dX5_mark_11 : decode cX5_mark 11 = .ok (.iload_n 2, 1) := by decide +kernel
theorem dX5_mark_12 : decode cX5_mark 12 = .ok (.iconst 1, 1) := by decide +kernel
theorem dX5_mark_13 : decode cX5_mark 13 = .ok (.if_icmp .lt 8, 3) := by decide +kernel
theorem dX5_mark_16 : decode cX5_mark 16 = .ok (.iload_n 2, 1) := by decide +kernel
theorem dX5_mark_17 : decode cX5_mark 17 = .ok (.iconst 5, 1) := by decide +kernel
theorem dX5_mark_18 : decode cX5_mark 18 = .ok (.if_icmp .le 5, 3) := by decide +kernel
theorem dX5_mark_21 : decode cX5_mark 21 = .ok (.iconst (-1), 1) := by decide +kernel
theorem dX5_mark_22 : decode cX5_mark 22 = .ok (.ireturn, 1) := by decide +kernel
theorem dX5_mark_23 : decode cX5_mark 23 = .ok (.aload_n 0, 1) := by decide +kernel
theorem dX5_mark_24 : decode cX5_mark 24 = .ok (.getfield 31, 3) := by decide +kernel
theorem dX5_mark_27 : decode cX5_mark 27 = .ok (.getfield 135, 3) := by decide +kernel
theorem dX5_mark_30 : decode cX5_mark 30 = .ok (.iload_n 1, 1) := by decide +kernel
theorem dX5_mark_31 : decode cX5_mark 31 = .ok (.iaload, 1) := by decide +kernel
theorem dX5_mark_32 : decode cX5_mark 32 = .ok (.iload_n 2, 1) := by decide +kernel
theorem dX5_mark_33 : decode cX5_mark 33 = .ok (.invokestatic 138, 3) := by decide +kernel
theorem dX5_mark_36 : decode cX5_mark 36 = .ok (.ifCond .ne 9, 3) := by decide +kernel
theorem dX5_mark_39 : decode cX5_mark 39 = .ok (.aload_n 0, 1) := by decide +kernel
theorem dX5_mark_40 : decode cX5_mark 40 = .ok (.iconst 3, 1) := by decide +kernel
theorem dX5_mark_41 : decode cX5_mark 41 = .ok (.invokevirtual 68, 3) := by decide +kernel
theorem dX5_mark_44 : decode cX5_mark 44 = .ok (.ireturn, 1) := by decide +kernel
theorem dX5_mark_45 : decode cX5_mark 45 = .ok (.iload_n 2, 1) := by decide +kernel
theorem dX5_mark_46 : decode cX5_mark 46 = .ok (.tableswitch 90 1 4 #[30, 39, 59, 71], 30) := by decide +kernel
theorem dX5_mark_76 : decode cX5_mark 76 = .ok (.aload_n 0, 1) := by decide +kernel
theorem dX5_mark_77 : decode cX5_mark 77 = .ok (.getfield 31, 3) := by decide +kernel
theorem dX5_mark_80 : decode cX5_mark 80 = .ok (.iload_n 1, 1) := by decide +kernel
theorem dX5_mark_81 : decode cX5_mark 81 = .ok (.invokevirtual 142, 3) := by decide +kernel
theorem dX5_mark_84 : decode cX5_mark 84 = .ok (.ireturn, 1) := by decide +kernel
theorem dX5_mark_85 : decode cX5_mark 85 = .ok (.aload_n 0, 1) := by decide +kernel
theorem dX5_mark_86 : decode cX5_mark 86 = .ok (.getfield 31, 3) := by decide +kernel
theorem dX5_mark_89 : decode cX5_mark 89 = .ok (.iload_n 1, 1) := by decide +kernel
theorem dX5_mark_90 : decode cX5_mark 90 = .ok (.iconst 1, 1) := by decide +kernel
theorem dX5_mark_91 : decode cX5_mark 91 = .ok (.invokevirtual 145, 3) := by decide +kernel
theorem dX5_mark_94 : decode cX5_mark 94 = .ok (.aload_n 0, 1) := by decide +kernel
theorem dX5_mark_95 : decode cX5_mark 95 = .ok (.getfield 31, 3) := by decide +kernel
theorem dX5_mark_98 : decode cX5_mark 98 = .ok (.iload_n 1, 1) := by decide +kernel
theorem dX5_mark_99 : decode cX5_mark 99 = .ok (.iconst 0, 1) := by decide +kernel
theorem dX5_mark_100 : decode cX5_mark 100 = .ok (.invokevirtual 145, 3) := by decide +kernel
theorem dX5_mark_103 : decode cX5_mark 103 = .ok (.isub, 1) := by decide +kernel
theorem dX5_mark_104 : decode cX5_mark 104 = .ok (.ireturn, 1) := by decide +kernel
theorem dX5_mark_105 : decode cX5_mark 105 = .ok (.aload_n 0, 1) := by decide +kernel
theorem dX5_mark_106 : decode cX5_mark 106 = .ok (.getfield 31, 3) := by decide +kernel
theorem dX5_mark_109 : decode cX5_mark 109 = .ok (.iload_n 1, 1) := by decide +kernel
theorem dX5_mark_110 : decode cX5_mark 110 = .ok (.invokevirtual 148, 3) := by decide +kernel
theorem dX5_mark_113 : decode cX5_mark 113 = .ok (.invokestatic 151, 3) := by decide +kernel
theorem dX5_mark_116 : decode cX5_mark 116 = .ok (.ireturn, 1) := by decide +kernel
theorem dX5_mark_117 : decode cX5_mark 117 = .ok (.aload_n 0, 1) := by decide +kernel
theorem dX5_mark_118 : decode cX5_mark 118 = .ok (.getfield 31, 3) := by decide +kernel
theorem dX5_mark_121 : decode cX5_mark 121 = .ok (.iload_n 1, 1) := by decide +kernel
theorem dX5_mark_122 : decode cX5_mark 122 = .ok (.invokevirtual 142, 3) := by decide +kernel
theorem dX5_mark_125 : decode cX5_mark 125 = .ok (.aload_n 0, 1) := by decide +kernel
theorem dX5_mark_126 : decode cX5_mark 126 = .ok (.getfield 31, 3) := by decide +kernel
theorem dX5_mark_129 : decode cX5_mark 129 = .ok (.iload_n 1, 1) := by decide +kernel
theorem dX5_mark_130 : decode cX5_mark 130 = .ok (.iconst 0, 1) := by decide +kernel
theorem dX5_mark_131 : decode cX5_mark 131 = .ok (.invokevirtual 145, 3) := by decide +kernel
theorem dX5_mark_134 : decode cX5_mark 134 = .ok (.isub, 1) := by decide +kernel
theorem dX5_mark_135 : decode cX5_mark 135 = .ok (.ireturn, 1) := by decide +kernel
theorem dX5_mark_136 : decode cX5_mark 136 = .ok (.aload_n 0, 1) := by decide +kernel
theorem dX5_mark_137 : decode cX5_mark 137 = .ok (.getfield 42, 3) := by decide +kernel
theorem dX5_mark_140 : decode cX5_mark 140 = .ok (.aload_n 0, 1) := by decide +kernel
theorem dX5_mark_141 : decode cX5_mark 141 = .ok (.getfield 31, 3) := by decide +kernel
theorem dX5_mark_144 : decode cX5_mark 144 = .ok (.iconst 0, 1) := by decide +kernel
theorem dX5_mark_145 : decode cX5_mark 145 = .ok (.invokevirtual 156, 3) := by decide +kernel
theorem dX5_mark_148 : decode cX5_mark 148 = .ok (.aload_n 0, 1) := by decide +kernel
theorem dX5_mark_149 : decode cX5_mark 149 = .ok (.getfield 31, 3) := by decide +kernel
theorem dX5_mark_152 : decode cX5_mark 152 = .ok (.iload_n 1, 1) := by decide +kernel
theorem dX5_mark_153 : decode cX5_mark 153 = .ok (.invokevirtual 148, 3) := by decide +kernel
theorem dX5_mark_156 : decode cX5_mark 156 = .ok (.aload_n 0, 1) := by decide +kernel
theorem dX5_mark_157 : decode cX5_mark 157 = .ok (.getfield 42, 3) := by decide +kernel
theorem dX5_mark_160 : decode cX5_mark 160 = .ok (.iconst 0, 1) := by decide +kernel
theorem dX5_mark_161 : decode cX5_mark 161 = .ok (.invokevirtual 160, 3) := by decide +kernel
theorem dX5_mark_164 : decode cX5_mark 164 = .ok (.iand, 1) := by decide +kernel
theorem dX5_mark_165 : decode cX5_mark 165 = .ok (.invokestatic 151, 3) := by decide +kernel
theorem dX5_mark_168 : decode cX5_mark 168 = .ok (.ireturn, 1) := by decide +kernel
def p5_mark (a1 : Int32) (a2 : Int32) (M : SX) : Option (Int32 × SX) :=
  bd (p1_isShop 17 a1 M) (fun r3 M2 => if r3 = 0 then (some ((-1), M2))
  else (if a2 < (1 : Int32) then (some ((-1), M2))
  else (if a2 ≤ (5 : Int32) then (gd (bIn a1 6) ( bd (p5_isOfKind (M2.1 (17 + 1) (Int32.toNatClampNeg a1)) a2 M2) (fun r10 M9 => if r10 = 0 then (bd (p5_found 3 M9) (fun r50 M49 => some (r50, M49)))
  else (if a2 = 1 then (bd (p1_loansTo 17 a1 M9) (fun r15 M14 => some (r15, M14)))
  else (if a2 = 2 then (bd (p1_dueTo 17 a1 1 M9) (fun r19 M18 => bd (p1_dueTo 17 a1 0 M18) (fun r22 M21 => some (r19 - r22, M21))))
  else (if a2 = 3 then (bd (p1_heldBy 17 a1 M9) (fun r26 M25 => bd (pj_bits r26 M25) (fun r29 M28 => some (r29, M28))))
  else (if a2 = 4 then (bd (p1_loansTo 17 a1 M9) (fun r33 M32 => bd (p1_dueTo 17 a1 0 M32) (fun r36 M35 => some (r33 - r36, M35))))
  else (bv (p2_lookAt 17 0 M9) (fun M38 => bd (p1_heldBy 17 a1 M38) (fun r41 M40 => bd (p2_nextAfter 0 M40) (fun r44 M43 => bd (pj_bits (r41 &&& r44) M43) (fun r47 M46 => some (r47, M46)))))))))))))
  else (some ((-1), M2)))))
set_option maxHeartbeats 4000000 in
set_option maxRecDepth 100000 in
theorem c5_mark {l : Launch} {G : XG} {r : Int32} {M' : SX} {M : SX} (a1 : Int32) (a2 : Int32) (hf : p5_mark a1 a2 M = some (r, M')) : Met l yX5_mark (.code yX5_mark cX5_mark 3 (some .int) :: TBL) (rmX 4) (xPc G ZX M [.ref (G.2.1 0), .int a1, .int a2]) (xQi G ZX r M') 0 0 (inA G ZX) := by
  refine x_met (cc := cX5_mark) (by decide) (Nat.le_of_ble_eq_true rfl) ?_
  intro p e s m below meth c ls F hr hk hl hw
  have F : Fx G ZX p m c cX5_mark 3 s [.ref (G.2.1 0), .int a1, .int a2].toArray RX5 := F
  have hl : lv_has ls 3 [(0, .ref (G.2.1 0)), (1, .int a1), (2, .int a2)] := hl
  have hx := F.1.1
  have hb := F.1.2.1
  unfold p5_mark at hf
  refine lv_aload_n hx hb dX5_mark_0 rfl (lv_at hl 0 rfl) ?_
  refine g5_3 F hw tw_306 dX5_mark_1 ?_
  refine lv_iload_n hx hb dX5_mark_4 rfl (lv_at hl 1 rfl) ?_
  obtain ⟨r3, M2, hc1, hf⟩ := bd_some hf
  refine x_aftI hw (x_runV (rest := []) F hw hl.1 vw_RX5_129 (sL isL_17) rfl (c1_isShop 17 isL_17 a1 hc1) rfl rfl (Nat.le_of_ble_eq_true rfl) ⟨Nat.le_of_ble_eq_true rfl, Nat.le_of_ble_eq_true rfl⟩ dX5_mark_5) (fun H locs hw => ?_)
  refine lv_if_eq (tgt := 21) hx hb dX5_mark_8 (by decide) (fun c4 => ?_) (fun c4 => ?_)
  · have hf := it_t hf c4
    refine lv_iconst (v := (-1)) hx hb dX5_mark_21 (by decide) ?_
    exact x_iret F hw hr hk hf dX5_mark_22
  · have hf := it_f hf c4
    refine lv_iload_n hx hb dX5_mark_11 rfl (lv_at hl 2 rfl) ?_
    refine lv_iconst (v := 1) hx hb dX5_mark_12 (by decide) ?_
    refine lv_icmp_lt (tgt := 21) hx hb dX5_mark_13 (by decide) (fun c5 => ?_) (fun c5 => ?_)
    · have hf := it_t hf c5
      refine lv_iconst (v := (-1)) hx hb dX5_mark_21 (by decide) ?_
      exact x_iret F hw hr hk hf dX5_mark_22
    · have hf := it_f hf c5
      refine lv_iload_n hx hb dX5_mark_16 rfl (lv_at hl 2 rfl) ?_
      refine lv_iconst (v := 5) hx hb dX5_mark_17 (by decide) ?_
      refine lv_icmp_le (tgt := 23) hx hb dX5_mark_18 (by decide) (fun c6 => ?_) (fun c6 => ?_)
      · have hf := it_t hf c6
        refine lv_aload_n hx hb dX5_mark_23 rfl (lv_at hl 0 rfl) ?_
        refine g5_3 F hw tw_306 dX5_mark_24 ?_
        refine g1_1 isL_17 F hw tw_422 dX5_mark_27 ?_
        refine lv_iload_n hx hb dX5_mark_30 rfl (lv_at hl 1 rfl) ?_
        obtain ⟨g7, hf⟩ := gd_some hf
        refine x_iald F hw (sL1 isL_17) g7 dX5_mark_31 ?_
        refine lv_iload_n hx hb dX5_mark_32 rfl (lv_at hl 2 rfl) ?_
        obtain ⟨r10, M9, hc8, hf⟩ := bd_some hf
        refine x_aftI hw (x_runS (rest := []) F hw hl.1 sw_RX5_138 (c5_isOfKind (M2.1 (17 + 1) (Int32.toNatClampNeg a1)) a2 hc8) rfl rfl (Nat.le_of_ble_eq_true rfl) ⟨Nat.le_of_ble_eq_true rfl, Nat.le_of_ble_eq_true rfl⟩ dX5_mark_33) (fun H locs hw => ?_)
        refine lv_if_ne (tgt := 45) hx hb dX5_mark_36 (by decide) (fun c11 => ?_) (fun c11 => ?_)
        · have hf := it_f hf c11
          refine lv_iload_n hx hb dX5_mark_45 rfl (lv_at hl 2 rfl) ?_
          by_cases c12 : a2 = 1
          · have hf := it_t hf c12
            refine lv_tableIn (tgt := 76) hx hb dX5_mark_46 (by rw [c12]; decide) (by rw [c12]; decide) (by rw [c12]; rfl) (by decide) ?_
            refine lv_aload_n hx hb dX5_mark_76 rfl (lv_at hl 0 rfl) ?_
            refine g5_3 F hw tw_306 dX5_mark_77 ?_
            refine lv_iload_n hx hb dX5_mark_80 rfl (lv_at hl 1 rfl) ?_
            obtain ⟨r15, M14, hc13, hf⟩ := bd_some hf
            refine x_aftI hw (x_runV (rest := []) F hw hl.1 vw_RX5_142 (sL isL_17) rfl (c1_loansTo 17 isL_17 a1 hc13) rfl rfl (Nat.le_of_ble_eq_true rfl) ⟨Nat.le_of_ble_eq_true rfl, Nat.le_of_ble_eq_true rfl⟩ dX5_mark_81) (fun H locs hw => ?_)
            exact x_iret F hw hr hk hf dX5_mark_84
          · have hf := it_f hf c12
            by_cases c16 : a2 = 2
            · have hf := it_t hf c16
              refine lv_tableIn (tgt := 85) hx hb dX5_mark_46 (by rw [c16]; decide) (by rw [c16]; decide) (by rw [c16]; rfl) (by decide) ?_
              refine lv_aload_n hx hb dX5_mark_85 rfl (lv_at hl 0 rfl) ?_
              refine g5_3 F hw tw_306 dX5_mark_86 ?_
              refine lv_iload_n hx hb dX5_mark_89 rfl (lv_at hl 1 rfl) ?_
              refine lv_iconst (v := 1) hx hb dX5_mark_90 (by decide) ?_
              obtain ⟨r19, M18, hc17, hf⟩ := bd_some hf
              refine x_aftI hw (x_runV (rest := []) F hw hl.1 vw_RX5_145 (sL isL_17) rfl (c1_dueTo 17 isL_17 a1 1 hc17) rfl rfl (Nat.le_of_ble_eq_true rfl) ⟨Nat.le_of_ble_eq_true rfl, Nat.le_of_ble_eq_true rfl⟩ dX5_mark_91) (fun H locs hw => ?_)
              refine lv_aload_n hx hb dX5_mark_94 rfl (lv_at hl 0 rfl) ?_
              refine g5_3 F hw tw_306 dX5_mark_95 ?_
              refine lv_iload_n hx hb dX5_mark_98 rfl (lv_at hl 1 rfl) ?_
              refine lv_iconst (v := 0) hx hb dX5_mark_99 (by decide) ?_
              obtain ⟨r22, M21, hc20, hf⟩ := bd_some hf
              refine x_aftI hw (x_runV (rest := [.int r19]) F hw hl.1 vw_RX5_145 (sL isL_17) rfl (c1_dueTo 17 isL_17 a1 0 hc20) rfl rfl (Nat.le_of_ble_eq_true rfl) ⟨Nat.le_of_ble_eq_true rfl, Nat.le_of_ble_eq_true rfl⟩ dX5_mark_100) (fun H locs hw => ?_)
              refine lv_isub hx hb dX5_mark_103 ?_
              exact x_iret F hw hr hk hf dX5_mark_104
            · have hf := it_f hf c16
              by_cases c23 : a2 = 3
              · have hf := it_t hf c23
                refine lv_tableIn (tgt := 105) hx hb dX5_mark_46 (by rw [c23]; decide) (by rw [c23]; decide) (by rw [c23]; rfl) (by decide) ?_
                refine lv_aload_n hx hb dX5_mark_105 rfl (lv_at hl 0 rfl) ?_
                refine g5_3 F hw tw_306 dX5_mark_106 ?_
                refine lv_iload_n hx hb dX5_mark_109 rfl (lv_at hl 1 rfl) ?_
                obtain ⟨r26, M25, hc24, hf⟩ := bd_some hf
                refine x_aftI hw (x_runV (rest := []) F hw hl.1 vw_RX5_148 (sL isL_17) rfl (c1_heldBy 17 isL_17 a1 hc24) rfl rfl (Nat.le_of_ble_eq_true rfl) ⟨Nat.le_of_ble_eq_true rfl, Nat.le_of_ble_eq_true rfl⟩ dX5_mark_110) (fun H locs hw => ?_)
                obtain ⟨r29, M28, hc27, hf⟩ := bd_some hf
                refine x_aftI hw (x_runS (rest := []) F hw hl.1 sw_RX5_151 (cj_bits r26 hc27) rfl rfl (Nat.le_of_ble_eq_true rfl) ⟨Nat.le_of_ble_eq_true rfl, Nat.le_of_ble_eq_true rfl⟩ dX5_mark_113) (fun H locs hw => ?_)
                exact x_iret F hw hr hk hf dX5_mark_116
              · have hf := it_f hf c23
                by_cases c30 : a2 = 4
                · have hf := it_t hf c30
                  refine lv_tableIn (tgt := 117) hx hb dX5_mark_46 (by rw [c30]; decide) (by rw [c30]; decide) (by rw [c30]; rfl) (by decide) ?_
                  refine lv_aload_n hx hb dX5_mark_117 rfl (lv_at hl 0 rfl) ?_
                  refine g5_3 F hw tw_306 dX5_mark_118 ?_
                  refine lv_iload_n hx hb dX5_mark_121 rfl (lv_at hl 1 rfl) ?_
                  obtain ⟨r33, M32, hc31, hf⟩ := bd_some hf
                  refine x_aftI hw (x_runV (rest := []) F hw hl.1 vw_RX5_142 (sL isL_17) rfl (c1_loansTo 17 isL_17 a1 hc31) rfl rfl (Nat.le_of_ble_eq_true rfl) ⟨Nat.le_of_ble_eq_true rfl, Nat.le_of_ble_eq_true rfl⟩ dX5_mark_122) (fun H locs hw => ?_)
                  refine lv_aload_n hx hb dX5_mark_125 rfl (lv_at hl 0 rfl) ?_
                  refine g5_3 F hw tw_306 dX5_mark_126 ?_
                  refine lv_iload_n hx hb dX5_mark_129 rfl (lv_at hl 1 rfl) ?_
                  refine lv_iconst (v := 0) hx hb dX5_mark_130 (by decide) ?_
                  obtain ⟨r36, M35, hc34, hf⟩ := bd_some hf
                  refine x_aftI hw (x_runV (rest := [.int r33]) F hw hl.1 vw_RX5_145 (sL isL_17) rfl (c1_dueTo 17 isL_17 a1 0 hc34) rfl rfl (Nat.le_of_ble_eq_true rfl) ⟨Nat.le_of_ble_eq_true rfl, Nat.le_of_ble_eq_true rfl⟩ dX5_mark_131) (fun H locs hw => ?_)
                  refine lv_isub hx hb dX5_mark_134 ?_
                  exact x_iret F hw hr hk hf dX5_mark_135
                · have hf := it_f hf c30
                  have nc12 := x_ne (k := 1) (1) rfl c12
                  have nc16 := x_ne (k := 2) (2) rfl c16
                  have nc23 := x_ne (k := 3) (3) rfl c23
                  have nc30 := x_ne (k := 4) (4) rfl c30
                  refine lv_tableOut (tgt := 136) hx hb dX5_mark_46 (by omega) (by decide) ?_
                  refine lv_aload_n hx hb dX5_mark_136 rfl (lv_at hl 0 rfl) ?_
                  refine g5_5 F hw tw_448 dX5_mark_137 ?_
                  refine lv_aload_n hx hb dX5_mark_140 rfl (lv_at hl 0 rfl) ?_
                  refine g5_3 F hw tw_306 dX5_mark_141 ?_
                  refine lv_iconst (v := 0) hx hb dX5_mark_144 (by decide) ?_
                  obtain ⟨M38, hc37, hf⟩ := bv_some hf
                  refine x_aftV hw (x_runV (rest := []) F hw hl.1 vw_RX5_156 (sO) rfl (c2_lookAt 17 isL_17 0 hc37) rfl rfl (Nat.le_of_ble_eq_true rfl) ⟨Nat.le_of_ble_eq_true rfl, Nat.le_of_ble_eq_true rfl⟩ dX5_mark_145) (fun H locs hw => ?_)
                  refine lv_aload_n hx hb dX5_mark_148 rfl (lv_at hl 0 rfl) ?_
                  refine g5_3 F hw tw_306 dX5_mark_149 ?_
                  refine lv_iload_n hx hb dX5_mark_152 rfl (lv_at hl 1 rfl) ?_
                  obtain ⟨r41, M40, hc39, hf⟩ := bd_some hf
                  refine x_aftI hw (x_runV (rest := []) F hw hl.1 vw_RX5_148 (sL isL_17) rfl (c1_heldBy 17 isL_17 a1 hc39) rfl rfl (Nat.le_of_ble_eq_true rfl) ⟨Nat.le_of_ble_eq_true rfl, Nat.le_of_ble_eq_true rfl⟩ dX5_mark_153) (fun H locs hw => ?_)
                  refine lv_aload_n hx hb dX5_mark_156 rfl (lv_at hl 0 rfl) ?_
                  refine g5_5 F hw tw_448 dX5_mark_157 ?_
                  refine lv_iconst (v := 0) hx hb dX5_mark_160 (by decide) ?_
                  obtain ⟨r44, M43, hc42, hf⟩ := bd_some hf
                  refine x_aftI hw (x_runV (rest := [.int r41]) F hw hl.1 vw_RX5_160 (sO) rfl (c2_nextAfter 0 hc42) rfl rfl (Nat.le_of_ble_eq_true rfl) ⟨Nat.le_of_ble_eq_true rfl, Nat.le_of_ble_eq_true rfl⟩ dX5_mark_161) (fun H locs hw => ?_)
                  refine lv_iand hx hb dX5_mark_164 ?_
                  obtain ⟨r47, M46, hc45, hf⟩ := bd_some hf
                  refine x_aftI hw (x_runS (rest := []) F hw hl.1 sw_RX5_151 (cj_bits (r41 &&& r44) hc45) rfl rfl (Nat.le_of_ble_eq_true rfl) ⟨Nat.le_of_ble_eq_true rfl, Nat.le_of_ble_eq_true rfl⟩ dX5_mark_165) (fun H locs hw => ?_)
                  exact x_iret F hw hr hk hf dX5_mark_168
        · have hf := it_t hf c11
          refine lv_aload_n hx hb dX5_mark_39 rfl (lv_at hl 0 rfl) ?_
          refine lv_iconst (v := 3) hx hb dX5_mark_40 (by decide) ?_
          obtain ⟨r50, M49, hc48, hf⟩ := bd_some hf
          refine x_aftI hw (x_runV (rest := []) F hw hl.1 vw_RX5_68 (sP) rfl (c5_found 3 hc48) rfl rfl (Nat.le_of_ble_eq_true rfl) ⟨Nat.le_of_ble_eq_true rfl, Nat.le_of_ble_eq_true rfl⟩ dX5_mark_41) (fun H locs hw => ?_)
          exact x_iret F hw hr hk hf dX5_mark_44
      · have hf := it_f hf c6
        refine lv_iconst (v := (-1)) hx hb dX5_mark_21 (by decide) ?_
        exact x_iret F hw hr hk hf dX5_mark_22
theorem dX5_redeem_0 : decode cX5_redeem 0 = .ok (.aload_n 0, 1) := by decide +kernel
theorem dX5_redeem_1 : decode cX5_redeem 1 = .ok (.getfield 31, 3) := by decide +kernel
theorem dX5_redeem_4 : decode cX5_redeem 4 = .ok (.iload_n 1, 1) := by decide +kernel
theorem dX5_redeem_5 : decode cX5_redeem 5 = .ok (.invokevirtual 129, 3) := by decide +kernel
theorem dX5_redeem_8 : decode cX5_redeem 8 = .ok (.ifCond .ne 5, 3) := by decide +kernel
theorem dX5_redeem_11 : decode cX5_redeem 11 = .ok (.iconst (-1), 1) := by decide +kernel
theorem dX5_redeem_12 : decode cX5_redeem 12 = .ok (.ireturn, 1) := by decide +kernel
theorem dX5_redeem_13 : decode cX5_redeem 13 = .ok (.aload_n 0, 1) := by decide +kernel
theorem dX5_redeem_14 : decode cX5_redeem 14 = .ok (.getfield 31, 3) := by decide +kernel
theorem dX5_redeem_17 : decode cX5_redeem 17 = .ok (.iload_n 1, 1) := by decide +kernel
theorem dX5_redeem_18 : decode cX5_redeem 18 = .ok (.invokevirtual 175, 3) := by decide +kernel
theorem dX5_redeem_21 : decode cX5_redeem 21 = .ok (.ifCond .ne 6, 3) := by decide +kernel
theorem dX5_redeem_24 : decode cX5_redeem 24 = .ok (.bipush (-4), 2) := by decide +kernel
theorem dX5_redeem_26 : decode cX5_redeem 26 = .ok (.ireturn, 1) := by decide +kernel
theorem dX5_redeem_27 : decode cX5_redeem 27 = .ok (.aload_n 0, 1) := by decide +kernel
theorem dX5_redeem_28 : decode cX5_redeem 28 = .ok (.getfield 31, 3) := by decide +kernel
theorem dX5_redeem_31 : decode cX5_redeem 31 = .ok (.getfield 163, 3) := by decide +kernel
theorem dX5_redeem_34 : decode cX5_redeem 34 = .ok (.iconst 1, 1) := by decide +kernel
theorem dX5_redeem_35 : decode cX5_redeem 35 = .ok (.invokevirtual 178, 3) := by decide +kernel
theorem dX5_redeem_38 : decode cX5_redeem 38 = .ok (.ifCond .ne 6, 3) := by decide +kernel
theorem dX5_redeem_41 : decode cX5_redeem 41 = .ok (.bipush (-2), 2) := by decide +kernel
theorem dX5_redeem_43 : decode cX5_redeem 43 = .ok (.ireturn, 1) := by decide +kernel
theorem dX5_redeem_44 : decode cX5_redeem 44 = .ok (.aload_n 0, 1) := by decide +kernel
theorem dX5_redeem_45 : decode cX5_redeem 45 = .ok (.getfield 31, 3) := by decide +kernel
theorem dX5_redeem_48 : decode cX5_redeem 48 = .ok (.iload_n 1, 1) := by decide +kernel
theorem dX5_redeem_49 : decode cX5_redeem 49 = .ok (.invokevirtual 181, 3) := by decide +kernel
theorem dX5_redeem_52 : decode cX5_redeem 52 = .ok (.ireturn, 1) := by decide +kernel
def p5_redeem (a1 : Int32) (M : SX) : Option (Int32 × SX) :=
  bd (p1_isShop 17 a1 M) (fun r3 M2 => if r3 = 0 then (some ((-1), M2))
  else (bd (p1_canRedeem 17 a1 M2) (fun r7 M6 => if r7 = 0 then (some ((-4), M6))
  else (bd (p0_hasRoom (17 + 7) 1 M6) (fun r11 M10 => if r11 = 0 then (some ((-2), M10))
  else (bd (p1_doRedeem 17 a1 M10) (fun r15 M14 => some (r15, M14))))))))
set_option maxHeartbeats 4000000 in
set_option maxRecDepth 100000 in
theorem c5_redeem {l : Launch} {G : XG} {r : Int32} {M' : SX} {M : SX} (a1 : Int32) (hf : p5_redeem a1 M = some (r, M')) : Met l yX5_redeem (.code yX5_redeem cX5_redeem 2 (some .int) :: TBL) (rmX 4) (xPc G ZX M [.ref (G.2.1 0), .int a1]) (xQi G ZX r M') 0 0 (inA G ZX) := by
  refine x_met (cc := cX5_redeem) (by decide) (Nat.le_of_ble_eq_true rfl) ?_
  intro p e s m below meth c ls F hr hk hl hw
  have F : Fx G ZX p m c cX5_redeem 2 s [.ref (G.2.1 0), .int a1].toArray RX5 := F
  have hl : lv_has ls 2 [(0, .ref (G.2.1 0)), (1, .int a1)] := hl
  have hx := F.1.1
  have hb := F.1.2.1
  unfold p5_redeem at hf
  refine lv_aload_n hx hb dX5_redeem_0 rfl (lv_at hl 0 rfl) ?_
  refine g5_3 F hw tw_306 dX5_redeem_1 ?_
  refine lv_iload_n hx hb dX5_redeem_4 rfl (lv_at hl 1 rfl) ?_
  obtain ⟨r3, M2, hc1, hf⟩ := bd_some hf
  refine x_aftI hw (x_runV (rest := []) F hw hl.1 vw_RX5_129 (sL isL_17) rfl (c1_isShop 17 isL_17 a1 hc1) rfl rfl (Nat.le_of_ble_eq_true rfl) ⟨Nat.le_of_ble_eq_true rfl, Nat.le_of_ble_eq_true rfl⟩ dX5_redeem_5) (fun H locs hw => ?_)
  refine lv_if_ne (tgt := 13) hx hb dX5_redeem_8 (by decide) (fun c4 => ?_) (fun c4 => ?_)
  · have hf := it_f hf c4
    refine lv_aload_n hx hb dX5_redeem_13 rfl (lv_at hl 0 rfl) ?_
    refine g5_3 F hw tw_306 dX5_redeem_14 ?_
    refine lv_iload_n hx hb dX5_redeem_17 rfl (lv_at hl 1 rfl) ?_
    obtain ⟨r7, M6, hc5, hf⟩ := bd_some hf
    refine x_aftI hw (x_runV (rest := []) F hw hl.1 vw_RX5_175 (sL isL_17) rfl (c1_canRedeem 17 isL_17 a1 hc5) rfl rfl (Nat.le_of_ble_eq_true rfl) ⟨Nat.le_of_ble_eq_true rfl, Nat.le_of_ble_eq_true rfl⟩ dX5_redeem_18) (fun H locs hw => ?_)
    refine lv_if_ne (tgt := 27) hx hb dX5_redeem_21 (by decide) (fun c8 => ?_) (fun c8 => ?_)
    · have hf := it_f hf c8
      refine lv_aload_n hx hb dX5_redeem_27 rfl (lv_at hl 0 rfl) ?_
      refine g5_3 F hw tw_306 dX5_redeem_28 ?_
      refine g1_7 isL_17 F hw tw_309 dX5_redeem_31 ?_
      refine lv_iconst (v := 1) hx hb dX5_redeem_34 (by decide) ?_
      obtain ⟨r11, M10, hc9, hf⟩ := bd_some hf
      refine x_aftI hw (x_runV (rest := []) F hw hl.1 vw_RX5_178 (sD (isD_of isL_17)) rfl (c0_hasRoom (17 + 7) (isD_of isL_17) 1 hc9) rfl rfl (Nat.le_of_ble_eq_true rfl) ⟨Nat.le_of_ble_eq_true rfl, Nat.le_of_ble_eq_true rfl⟩ dX5_redeem_35) (fun H locs hw => ?_)
      refine lv_if_ne (tgt := 44) hx hb dX5_redeem_38 (by decide) (fun c12 => ?_) (fun c12 => ?_)
      · have hf := it_f hf c12
        refine lv_aload_n hx hb dX5_redeem_44 rfl (lv_at hl 0 rfl) ?_
        refine g5_3 F hw tw_306 dX5_redeem_45 ?_
        refine lv_iload_n hx hb dX5_redeem_48 rfl (lv_at hl 1 rfl) ?_
        obtain ⟨r15, M14, hc13, hf⟩ := bd_some hf
        refine x_aftI hw (x_runV (rest := []) F hw hl.1 vw_RX5_181 (sL isL_17) rfl (c1_doRedeem 17 isL_17 a1 hc13) rfl rfl (Nat.le_of_ble_eq_true rfl) ⟨Nat.le_of_ble_eq_true rfl, Nat.le_of_ble_eq_true rfl⟩ dX5_redeem_49) (fun H locs hw => ?_)
        exact x_iret F hw hr hk hf dX5_redeem_52
      · have hf := it_t hf c12
        refine lv_bipush (v := (-2)) hx hb dX5_redeem_41 (by decide) ?_
        exact x_iret F hw hr hk hf dX5_redeem_43
    · have hf := it_t hf c8
      refine lv_bipush (v := (-4)) hx hb dX5_redeem_24 (by decide) ?_
      exact x_iret F hw hr hk hf dX5_redeem_26
  · have hf := it_t hf c4
    refine lv_iconst (v := (-1)) hx hb dX5_redeem_11 (by decide) ?_
    exact x_iret F hw hr hk hf dX5_redeem_12
theorem dX5_week_0 : decode cX5_week 0 = .ok (.aload_n 0, 1) := by decide +kernel
theorem dX5_week_1 : decode cX5_week 1 = .ok (.getfield 31, 3) := by decide +kernel
theorem dX5_week_4 : decode cX5_week 4 = .ok (.getfield 126, 3) := by decide +kernel
theorem dX5_week_7 : decode cX5_week 7 = .ok (.ifCond .eq 15, 3) := by decide +kernel
theorem dX5_week_10 : decode cX5_week 10 = .ok (.aload_n 0, 1) := by decide +kernel
theorem dX5_week_11 : decode cX5_week 11 = .ok (.getfield 31, 3) := by decide +kernel
theorem dX5_week_14 : decode cX5_week 14 = .ok (.invokevirtual 194, 3) := by decide +kernel
theorem dX5_week_17 : decode cX5_week 17 = .ok (.bipush 99, 2) := by decide +kernel
theorem dX5_week_19 : decode cX5_week 19 = .ok (.if_icmp .lt 6, 3) := by decide +kernel
theorem dX5_week_22 : decode cX5_week 22 = .ok (.bipush (-4), 2) := by decide +kernel
theorem dX5_week_24 : decode cX5_week 24 = .ok (.ireturn, 1) := by decide +kernel
theorem dX5_week_25 : decode cX5_week 25 = .ok (.aload_n 0, 1) := by decide +kernel
theorem dX5_week_26 : decode cX5_week 26 = .ok (.getfield 31, 3) := by decide +kernel
theorem dX5_week_29 : decode cX5_week 29 = .ok (.getfield 163, 3) := by decide +kernel
theorem dX5_week_32 : decode cX5_week 32 = .ok (.iconst 1, 1) := by decide +kernel
theorem dX5_week_33 : decode cX5_week 33 = .ok (.invokevirtual 178, 3) := by decide +kernel
theorem dX5_week_36 : decode cX5_week 36 = .ok (.ifCond .ne 6, 3) := by decide +kernel
theorem dX5_week_39 : decode cX5_week 39 = .ok (.bipush (-2), 2) := by decide +kernel
theorem dX5_week_41 : decode cX5_week 41 = .ok (.ireturn, 1) := by decide +kernel
theorem dX5_week_42 : decode cX5_week 42 = .ok (.aload_n 0, 1) := by decide +kernel
theorem dX5_week_43 : decode cX5_week 43 = .ok (.getfield 31, 3) := by decide +kernel
theorem dX5_week_46 : decode cX5_week 46 = .ok (.invokevirtual 197, 3) := by decide +kernel
theorem dX5_week_49 : decode cX5_week 49 = .ok (.aload_n 0, 1) := by decide +kernel
theorem dX5_week_50 : decode cX5_week 50 = .ok (.getfield 31, 3) := by decide +kernel
theorem dX5_week_53 : decode cX5_week 53 = .ok (.invokevirtual 200, 3) := by decide +kernel
theorem dX5_week_56 : decode cX5_week 56 = .ok (.ireturn, 1) := by decide +kernel
def p5_week (M : SX) : Option (Int32 × SX) :=
  if (M.1 17 0) = 0 then (some ((-4), M))
  else (bd (p1_oldestTicket 17 M) (fun r4 M3 => if r4 < (99 : Int32) then (bd (p0_hasRoom (17 + 7) 1 M3) (fun r8 M7 => if r8 = 0 then (some ((-2), M7))
  else (bv (p1_doWeek 17 M7) (fun M11 => bd (p1_dueInAll 17 M11) (fun r14 M13 => some (r14, M13))))))
  else (some ((-4), M3))))
set_option maxHeartbeats 4000000 in
set_option maxRecDepth 100000 in
theorem c5_week {l : Launch} {G : XG} {r : Int32} {M' : SX} {M : SX} (hf : p5_week M = some (r, M')) : Met l yX5_week (.code yX5_week cX5_week 1 (some .int) :: TBL) (rmX 4) (xPc G ZX M [.ref (G.2.1 0)]) (xQi G ZX r M') 0 0 (inA G ZX) := by
  refine x_met (cc := cX5_week) (by decide) (Nat.le_of_ble_eq_true rfl) ?_
  intro p e s m below meth c ls F hr hk hl hw
  have F : Fx G ZX p m c cX5_week 1 s [.ref (G.2.1 0)].toArray RX5 := F
  have hl : lv_has ls 1 [(0, .ref (G.2.1 0))] := hl
  have hx := F.1.1
  have hb := F.1.2.1
  unfold p5_week at hf
  refine lv_aload_n hx hb dX5_week_0 rfl (lv_at hl 0 rfl) ?_
  refine g5_3 F hw tw_306 dX5_week_1 ?_
  refine g1_0 isL_17 F hw tw_305 dX5_week_4 ?_
  refine lv_if_eq (tgt := 22) hx hb dX5_week_7 (by decide) (fun c1 => ?_) (fun c1 => ?_)
  · have hf := it_t hf c1
    refine lv_bipush (v := (-4)) hx hb dX5_week_22 (by decide) ?_
    exact x_iret F hw hr hk hf dX5_week_24
  · have hf := it_f hf c1
    refine lv_aload_n hx hb dX5_week_10 rfl (lv_at hl 0 rfl) ?_
    refine g5_3 F hw tw_306 dX5_week_11 ?_
    obtain ⟨r4, M3, hc2, hf⟩ := bd_some hf
    refine x_aftI hw (x_runV (rest := []) F hw hl.1 vw_RX5_194 (sL isL_17) rfl (c1_oldestTicket 17 isL_17 hc2) rfl rfl (Nat.le_of_ble_eq_true rfl) ⟨Nat.le_of_ble_eq_true rfl, Nat.le_of_ble_eq_true rfl⟩ dX5_week_14) (fun H locs hw => ?_)
    refine lv_bipush (v := 99) hx hb dX5_week_17 (by decide) ?_
    refine lv_icmp_lt (tgt := 25) hx hb dX5_week_19 (by decide) (fun c5 => ?_) (fun c5 => ?_)
    · have hf := it_t hf c5
      refine lv_aload_n hx hb dX5_week_25 rfl (lv_at hl 0 rfl) ?_
      refine g5_3 F hw tw_306 dX5_week_26 ?_
      refine g1_7 isL_17 F hw tw_309 dX5_week_29 ?_
      refine lv_iconst (v := 1) hx hb dX5_week_32 (by decide) ?_
      obtain ⟨r8, M7, hc6, hf⟩ := bd_some hf
      refine x_aftI hw (x_runV (rest := []) F hw hl.1 vw_RX5_178 (sD (isD_of isL_17)) rfl (c0_hasRoom (17 + 7) (isD_of isL_17) 1 hc6) rfl rfl (Nat.le_of_ble_eq_true rfl) ⟨Nat.le_of_ble_eq_true rfl, Nat.le_of_ble_eq_true rfl⟩ dX5_week_33) (fun H locs hw => ?_)
      refine lv_if_ne (tgt := 42) hx hb dX5_week_36 (by decide) (fun c9 => ?_) (fun c9 => ?_)
      · have hf := it_f hf c9
        refine lv_aload_n hx hb dX5_week_42 rfl (lv_at hl 0 rfl) ?_
        refine g5_3 F hw tw_306 dX5_week_43 ?_
        obtain ⟨M11, hc10, hf⟩ := bv_some hf
        refine x_aftV hw (x_runV (rest := []) F hw hl.1 vw_RX5_197 (sL isL_17) rfl (c1_doWeek 17 isL_17 hc10) rfl rfl (Nat.le_of_ble_eq_true rfl) ⟨Nat.le_of_ble_eq_true rfl, Nat.le_of_ble_eq_true rfl⟩ dX5_week_46) (fun H locs hw => ?_)
        refine lv_aload_n hx hb dX5_week_49 rfl (lv_at hl 0 rfl) ?_
        refine g5_3 F hw tw_306 dX5_week_50 ?_
        obtain ⟨r14, M13, hc12, hf⟩ := bd_some hf
        refine x_aftI hw (x_runV (rest := []) F hw hl.1 vw_RX5_200 (sL isL_17) rfl (c1_dueInAll 17 isL_17 hc12) rfl rfl (Nat.le_of_ble_eq_true rfl) ⟨Nat.le_of_ble_eq_true rfl, Nat.le_of_ble_eq_true rfl⟩ dX5_week_53) (fun H locs hw => ?_)
        exact x_iret F hw hr hk hf dX5_week_56
      · have hf := it_t hf c9
        refine lv_bipush (v := (-2)) hx hb dX5_week_39 (by decide) ?_
        exact x_iret F hw hr hk hf dX5_week_41
    · have hf := it_f hf c5
      refine lv_bipush (v := (-4)) hx hb dX5_week_22 (by decide) ?_
      exact x_iret F hw hr hk hf dX5_week_24
theorem dX5_undo_0 : decode cX5_undo 0 = .ok (.aload_n 0, 1) := by decide +kernel
theorem dX5_undo_1 : decode cX5_undo 1 = .ok (.getfield 31, 3) := by decide +kernel
theorem dX5_undo_4 : decode cX5_undo 4 = .ok (.getfield 163, 3) := by decide +kernel
theorem dX5_undo_7 : decode cX5_undo 7 = .ok (.getfield 167, 3) := by decide +kernel
theorem dX5_undo_10 : decode cX5_undo 10 = .ok (.istore_n 2, 1) := by decide +kernel
theorem dX5_undo_11 : decode cX5_undo 11 = .ok (.iload_n 1, 1) := by decide +kernel
theorem dX5_undo_12 : decode cX5_undo 12 = .ok (.ifCond .lt 8, 3) := by decide +kernel
theorem dX5_undo_15 : decode cX5_undo 15 = .ok (.iload_n 1, 1) := by decide +kernel
theorem dX5_undo_16 : decode cX5_undo 16 = .ok (.iload_n 2, 1) := by decide +kernel
theorem dX5_undo_17 : decode cX5_undo 17 = .ok (.if_icmp .le 5, 3) := by decide +kernel
theorem dX5_undo_20 : decode cX5_undo 20 = .ok (.iconst (-1), 1) := by decide +kernel
theorem dX5_undo_21 : decode cX5_undo 21 = .ok (.ireturn, 1) := by decide +kernel
theorem dX5_undo_22 : decode cX5_undo 22 = .ok (.iload_n 2, 1) := by decide +kernel
theorem dX5_undo_23 : decode cX5_undo 23 = .ok (.istore_n 3, 1) := by decide +kernel
theorem dX5_undo_24 : decode cX5_undo 24 = .ok (.iload_n 3, 1) := by decide +kernel
theorem dX5_undo_25 : decode cX5_undo 25 = .ok (.iload_n 1, 1) := by decide +kernel
theorem dX5_undo_26 : decode cX5_undo 26 = .ok (.if_icmp .le 16, 3) := by decide +kernel
theorem dX5_undo_29 : decode cX5_undo 29 = .ok (.aload_n 0, 1) := by decide +kernel
theorem dX5_undo_30 : decode cX5_undo 30 = .ok (.getfield 31, 3) := by decide +kernel
theorem dX5_undo_33 : decode cX5_undo 33 = .ok (.invokevirtual 209, 3) := by decide +kernel
theorem dX5_undo_36 : decode cX5_undo 36 = .ok (.iinc 3 (-1), 3) := by decide +kernel
theorem dX5_undo_39 : decode cX5_undo 39 = .ok (.goto (-15), 3) := by decide +kernel
theorem dX5_undo_42 : decode cX5_undo 42 = .ok (.iload_n 2, 1) := by decide +kernel
theorem dX5_undo_43 : decode cX5_undo 43 = .ok (.iload_n 1, 1) := by decide +kernel
theorem dX5_undo_44 : decode cX5_undo 44 = .ok (.isub, 1) := by decide +kernel
theorem dX5_undo_45 : decode cX5_undo 45 = .ok (.ireturn, 1) := by decide +kernel
def p5_undo_24 (k24 : Int32 → Int32 → Int32 → SX → Option (Int32 × SX)) (v1 : Int32) (v2 : Int32) (v3 : Int32) (M : SX) : Option (Int32 × SX) :=
  if v3 ≤ v1 then (some (v2 - v1, M))
  else (bv (p1_undoLast 17 M) (fun M3 => lt_ (v3 + (-1)) (fun x4 => k24 v1 v2 x4 M3)))
set_option maxHeartbeats 4000000 in
set_option maxRecDepth 100000 in
theorem w5_undo_24 {G : XG} {p : Program} {l : Launch} {e : Env} {s : State} {m : MethodId} {args : Array Value} {below : List Frame} {meth : Method} {c : Code} (F : Fx G ZX p m c cX5_undo 4 s args RX5) (hr : meth.sig.returnType = some .int) (hk : meth.locks = false) {r : Int32} {M' : SX} (k24 : Int32 → Int32 → Int32 → SX → Option (Int32 × SX)) (hk24 : ∀ (v1 : Int32) (v2 : Int32) (v3 : Int32) (M : SX) (H : Heap) (locs : List Loc) (ls : Array Slot), Wld G ZX M s.heap H locs → lv_has ls 4 [(0, .ref (G.2.1 0)), (1, .int v1), (2, .int v2), (3, .int v3)] → k24 v1 v2 v3 M = some (r, M') → WXi G ZX p l e 4 s m args below meth c r M' H locs (F0 m 24 ls [])) : ∀ (v1 : Int32) (v2 : Int32) (v3 : Int32) (M : SX) (H : Heap) (locs : List Loc) (ls : Array Slot), Wld G ZX M s.heap H locs → lv_has ls 4 [(0, .ref (G.2.1 0)), (1, .int v1), (2, .int v2), (3, .int v3)] → p5_undo_24 k24 v1 v2 v3 M = some (r, M') → WXi G ZX p l e 4 s m args below meth c r M' H locs (F0 m 24 ls []) := by
  intro v1 v2 v3 M H locs ls hw hl hf
  have hx := F.1.1
  have hb := F.1.2.1
  unfold p5_undo_24 at hf
  refine lv_iload_n hx hb dX5_undo_24 rfl (lv_at hl 3 rfl) ?_
  refine lv_iload_n hx hb dX5_undo_25 rfl (lv_at hl 1 rfl) ?_
  refine lv_icmp_le (tgt := 42) hx hb dX5_undo_26 (by decide) (fun c1 => ?_) (fun c1 => ?_)
  · have hf := it_t hf c1
    refine lv_iload_n hx hb dX5_undo_42 rfl (lv_at hl 2 rfl) ?_
    refine lv_iload_n hx hb dX5_undo_43 rfl (lv_at hl 1 rfl) ?_
    refine lv_isub hx hb dX5_undo_44 ?_
    exact x_iret F hw hr hk hf dX5_undo_45
  · have hf := it_f hf c1
    refine lv_aload_n hx hb dX5_undo_29 rfl (lv_at hl 0 rfl) ?_
    refine g5_3 F hw tw_306 dX5_undo_30 ?_
    obtain ⟨M3, hc2, hf⟩ := bv_some hf
    refine x_aftV hw (x_runV (rest := []) F hw hl.1 vw_RX5_209 (sL isL_17) rfl (c1_undoLast 17 isL_17 hc2) rfl rfl (Nat.le_of_ble_eq_true rfl) ⟨Nat.le_of_ble_eq_true rfl, Nat.le_of_ble_eq_true rfl⟩ dX5_undo_33) (fun H locs hw => ?_)
    obtain ⟨x4, ex4, hf⟩ := lt_elim hf
    refine lv_iinc (v := x4) (lv' := [(3, .int x4), (0, .ref (G.2.1 0)), (1, .int v1), (2, .int v2)]) hx hb dX5_undo_36 hl (k := 3) rfl (by rw [ex4]; rfl) (by decide) rfl (fun ls hl => ?_)
    refine lv_goto (tgt := 24) hx hb dX5_undo_39 (by decide) ?_
    exact hk24 v1 v2 x4 M3 _ _ ls hw (lv_sub hl [1, 2, 3, 0] rfl) hf
theorem z5_undo_24 {G : XG} {p : Program} {l : Launch} {e : Env} {s : State} {m : MethodId} {args : Array Value} {below : List Frame} {meth : Method} {c : Code} (F : Fx G ZX p m c cX5_undo 4 s args RX5) (hr : meth.sig.returnType = some .int) (hk : meth.locks = false) {r : Int32} {M' : SX} : ∀ n : Nat, ∀ (v1 : Int32) (v2 : Int32) (v3 : Int32) (M : SX) (H : Heap) (locs : List Loc) (ls : Array Slot), Wld G ZX M s.heap H locs → lv_has ls 4 [(0, .ref (G.2.1 0)), (1, .int v1), (2, .int v2), (3, .int v3)] → xlp3 p5_undo_24 n v1 v2 v3 M = some (r, M') → WXi G ZX p l e 4 s m args below meth c r M' H locs (F0 m 24 ls []) := by
  intro n
  induction n with
  | zero => intro _ _ _ _ _ _ _ _ _ hf; cases hf
  | succ n ih => exact w5_undo_24 F hr hk (xlp3 p5_undo_24 n) ih
def p5_undo (a1 : Int32) (M : SX) : Option (Int32 × SX) :=
  lt_ (M.1 (17 + 7) 1) (fun x1 => if a1 < 0 then (some ((-1), M))
  else (if a1 ≤ x1 then (xlp3 p5_undo_24 FU a1 x1 x1 M)
  else (some ((-1), M))))
set_option maxHeartbeats 4000000 in
set_option maxRecDepth 100000 in
theorem c5_undo {l : Launch} {G : XG} {r : Int32} {M' : SX} {M : SX} (a1 : Int32) (hf : p5_undo a1 M = some (r, M')) : Met l yX5_undo (.code yX5_undo cX5_undo 4 (some .int) :: TBL) (rmX 4) (xPc G ZX M [.ref (G.2.1 0), .int a1]) (xQi G ZX r M') 0 0 (inA G ZX) := by
  refine x_met (cc := cX5_undo) (by decide) (Nat.le_of_ble_eq_true rfl) ?_
  intro p e s m below meth c ls F hr hk hl hw
  have F : Fx G ZX p m c cX5_undo 4 s [.ref (G.2.1 0), .int a1].toArray RX5 := F
  have hl : lv_has ls 4 [(0, .ref (G.2.1 0)), (1, .int a1)] := hl
  have hx := F.1.1
  have hb := F.1.2.1
  unfold p5_undo at hf
  refine lv_aload_n hx hb dX5_undo_0 rfl (lv_at hl 0 rfl) ?_
  refine g5_3 F hw tw_306 dX5_undo_1 ?_
  refine g1_7 isL_17 F hw tw_309 dX5_undo_4 ?_
  refine g0_1 (isD_of isL_17) F hw tw_310 dX5_undo_7 ?_
  obtain ⟨x1, ex1, hf⟩ := lt_elim hf
  refine x_let ex1 ?_
  refine lv_istore_n (lv' := [(2, .int x1), (0, .ref (G.2.1 0)), (1, .int a1)]) hx hb dX5_undo_10 rfl hl (by decide) rfl (fun ls hl => ?_)
  refine lv_iload_n hx hb dX5_undo_11 rfl (lv_at hl 2 rfl) ?_
  refine lv_if_lt (tgt := 20) hx hb dX5_undo_12 (by decide) (fun c2 => ?_) (fun c2 => ?_)
  · have hf := it_t hf c2
    refine lv_iconst (v := (-1)) hx hb dX5_undo_20 (by decide) ?_
    exact x_iret F hw hr hk hf dX5_undo_21
  · have hf := it_f hf c2
    refine lv_iload_n hx hb dX5_undo_15 rfl (lv_at hl 2 rfl) ?_
    refine lv_iload_n hx hb dX5_undo_16 rfl (lv_at hl 0 rfl) ?_
    refine lv_icmp_le (tgt := 22) hx hb dX5_undo_17 (by decide) (fun c3 => ?_) (fun c3 => ?_)
    · have hf := it_t hf c3
      refine lv_iload_n hx hb dX5_undo_22 rfl (lv_at hl 0 rfl) ?_
      refine lv_istore_n (lv' := [(3, .int x1), (2, .int x1), (0, .ref (G.2.1 0)), (1, .int a1)]) hx hb dX5_undo_23 rfl hl (by decide) rfl (fun ls hl => ?_)
      exact z5_undo_24 F hr hk FU a1 x1 x1 M _ _ ls hw (lv_sub hl [2, 3, 1, 0] rfl) hf
    · have hf := it_f hf c3
      refine lv_iconst (v := (-1)) hx hb dX5_undo_20 (by decide) ?_
      exact x_iret F hw hr hk hf dX5_undo_21
theorem dX5_worth_0 : decode cX5_worth 0 = .ok (.aload_n 0, 1) := by decide +kernel
theorem dX5_worth_1 : decode cX5_worth 1 = .ok (.getfield 31, 3) := by decide +kernel
theorem dX5_worth_4 : decode cX5_worth 4 = .ok (.iload_n 1, 1) := by decide +kernel
theorem dX5_worth_5 : decode cX5_worth 5 = .ok (.invokevirtual 129, 3) := by decide +kernel
theorem dX5_worth_8 : decode cX5_worth 8 = .ok (.ifCond .ne 5, 3) := by decide +kernel
theorem dX5_worth_11 : decode cX5_worth 11 = .ok (.iconst (-1), 1) := by decide +kernel
theorem dX5_worth_12 : decode cX5_worth 12 = .ok (.ireturn, 1) := by decide +kernel
theorem dX5_worth_13 : decode cX5_worth 13 = .ok (.aload_n 0, 1) := by decide +kernel
theorem dX5_worth_14 : decode cX5_worth 14 = .ok (.getfield 31, 3) := by decide +kernel
theorem dX5_worth_17 : decode cX5_worth 17 = .ok (.getfield 203, 3) := by decide +kernel
theorem dX5_worth_20 : decode cX5_worth 20 = .ok (.iload_n 1, 1) := by decide +kernel
theorem dX5_worth_21 : decode cX5_worth 21 = .ok (.iaload, 1) := by decide +kernel
theorem dX5_worth_22 : decode cX5_worth 22 = .ok (.aload_n 0, 1) := by decide +kernel
theorem dX5_worth_23 : decode cX5_worth 23 = .ok (.getfield 31, 3) := by decide +kernel
theorem dX5_worth_26 : decode cX5_worth 26 = .ok (.getfield 172, 3) := by decide +kernel
theorem dX5_worth_29 : decode cX5_worth 29 = .ok (.iload_n 1, 1) := by decide +kernel
theorem dX5_worth_30 : decode cX5_worth 30 = .ok (.iaload, 1) := by decide +kernel
theorem dX5_worth_31 : decode cX5_worth 31 = .ok (.iadd, 1) := by decide +kernel
theorem dX5_worth_32 : decode cX5_worth 32 = .ok (.aload_n 0, 1) := by decide +kernel
theorem dX5_worth_33 : decode cX5_worth 33 = .ok (.getfield 31, 3) := by decide +kernel
theorem dX5_worth_36 : decode cX5_worth 36 = .ok (.iload_n 1, 1) := by decide +kernel
theorem dX5_worth_37 : decode cX5_worth 37 = .ok (.iconst 0, 1) := by decide +kernel
theorem dX5_worth_38 : decode cX5_worth 38 = .ok (.invokevirtual 145, 3) := by decide +kernel
theorem dX5_worth_41 : decode cX5_worth 41 = .ok (.iadd, 1) := by decide +kernel
theorem dX5_worth_42 : decode cX5_worth 42 = .ok (.istore_n 2, 1) := by decide +kernel
theorem dX5_worth_43 : decode cX5_worth 43 = .ok (.iload_n 2, 1) := by decide +kernel
theorem dX5_worth_44 : decode cX5_worth 44 = .ok (.aload_n 0, 1) := by decide +kernel
theorem dX5_worth_45 : decode cX5_worth 45 = .ok (.getfield 31, 3) := by decide +kernel
theorem dX5_worth_48 : decode cX5_worth 48 = .ok (.iload_n 1, 1) := by decide +kernel
theorem dX5_worth_49 : decode cX5_worth 49 = .ok (.iconst 0, 1) := by decide +kernel
theorem dX5_worth_50 : decode cX5_worth 50 = .ok (.invokevirtual 230, 3) := by decide +kernel
theorem dX5_worth_53 : decode cX5_worth 53 = .ok (.isub, 1) := by decide +kernel
theorem dX5_worth_54 : decode cX5_worth 54 = .ok (.sipush 1000, 3) := by decide +kernel
theorem dX5_worth_57 : decode cX5_worth 57 = .ok (.iadd, 1) := by decide +kernel
theorem dX5_worth_58 : decode cX5_worth 58 = .ok (.ireturn, 1) := by decide +kernel
def p5_worth (a1 : Int32) (M : SX) : Option (Int32 × SX) :=
  bd (p1_isShop 17 a1 M) (fun r3 M2 => if r3 = 0 then (some ((-1), M2))
  else (gd (bIn a1 6) ( bd (p1_dueTo 17 a1 0 M2) (fun r8 M7 => lt_ (((M2.1 (17 + 2) (Int32.toNatClampNeg a1)) + (M2.1 (17 + 3) (Int32.toNatClampNeg a1))) + r8) (fun x9 => bd (p1_dueOf 17 a1 0 M7) (fun r12 M11 => some ((x9 - r12) + 1000, M11)))))))
set_option maxHeartbeats 4000000 in
set_option maxRecDepth 100000 in
theorem c5_worth {l : Launch} {G : XG} {r : Int32} {M' : SX} {M : SX} (a1 : Int32) (hf : p5_worth a1 M = some (r, M')) : Met l yX5_worth (.code yX5_worth cX5_worth 3 (some .int) :: TBL) (rmX 4) (xPc G ZX M [.ref (G.2.1 0), .int a1]) (xQi G ZX r M') 0 0 (inA G ZX) := by
  refine x_met (cc := cX5_worth) (by decide) (Nat.le_of_ble_eq_true rfl) ?_
  intro p e s m below meth c ls F hr hk hl hw
  have F : Fx G ZX p m c cX5_worth 3 s [.ref (G.2.1 0), .int a1].toArray RX5 := F
  have hl : lv_has ls 3 [(0, .ref (G.2.1 0)), (1, .int a1)] := hl
  have hx := F.1.1
  have hb := F.1.2.1
  unfold p5_worth at hf
  refine lv_aload_n hx hb dX5_worth_0 rfl (lv_at hl 0 rfl) ?_
  refine g5_3 F hw tw_306 dX5_worth_1 ?_
  refine lv_iload_n hx hb dX5_worth_4 rfl (lv_at hl 1 rfl) ?_
  obtain ⟨r3, M2, hc1, hf⟩ := bd_some hf
  refine x_aftI hw (x_runV (rest := []) F hw hl.1 vw_RX5_129 (sL isL_17) rfl (c1_isShop 17 isL_17 a1 hc1) rfl rfl (Nat.le_of_ble_eq_true rfl) ⟨Nat.le_of_ble_eq_true rfl, Nat.le_of_ble_eq_true rfl⟩ dX5_worth_5) (fun H locs hw => ?_)
  refine lv_if_ne (tgt := 13) hx hb dX5_worth_8 (by decide) (fun c4 => ?_) (fun c4 => ?_)
  · have hf := it_f hf c4
    refine lv_aload_n hx hb dX5_worth_13 rfl (lv_at hl 0 rfl) ?_
    refine g5_3 F hw tw_306 dX5_worth_14 ?_
    refine g1_2 isL_17 F hw tw_394 dX5_worth_17 ?_
    refine lv_iload_n hx hb dX5_worth_20 rfl (lv_at hl 1 rfl) ?_
    obtain ⟨g5, hf⟩ := gd_some hf
    refine x_iald F hw (sL2 isL_17) g5 dX5_worth_21 ?_
    refine lv_aload_n hx hb dX5_worth_22 rfl (lv_at hl 0 rfl) ?_
    refine g5_3 F hw tw_306 dX5_worth_23 ?_
    refine g1_3 isL_17 F hw tw_311 dX5_worth_26 ?_
    refine lv_iload_n hx hb dX5_worth_29 rfl (lv_at hl 1 rfl) ?_
    refine x_iald F hw (sL3 isL_17) g5 dX5_worth_30 ?_
    refine lv_iadd hx hb dX5_worth_31 ?_
    refine lv_aload_n hx hb dX5_worth_32 rfl (lv_at hl 0 rfl) ?_
    refine g5_3 F hw tw_306 dX5_worth_33 ?_
    refine lv_iload_n hx hb dX5_worth_36 rfl (lv_at hl 1 rfl) ?_
    refine lv_iconst (v := 0) hx hb dX5_worth_37 (by decide) ?_
    obtain ⟨r8, M7, hc6, hf⟩ := bd_some hf
    refine x_aftI hw (x_runV (rest := [.int ((M2.1 (17 + 2) (Int32.toNatClampNeg a1)) + (M2.1 (17 + 3) (Int32.toNatClampNeg a1)))]) F hw hl.1 vw_RX5_145 (sL isL_17) rfl (c1_dueTo 17 isL_17 a1 0 hc6) rfl rfl (Nat.le_of_ble_eq_true rfl) ⟨Nat.le_of_ble_eq_true rfl, Nat.le_of_ble_eq_true rfl⟩ dX5_worth_38) (fun H locs hw => ?_)
    refine lv_iadd hx hb dX5_worth_41 ?_
    obtain ⟨x9, ex9, hf⟩ := lt_elim hf
    refine x_let ex9 ?_
    refine lv_istore_n (lv' := [(2, .int x9), (0, .ref (G.2.1 0)), (1, .int a1)]) hx hb dX5_worth_42 rfl hl (by decide) rfl (fun ls hl => ?_)
    refine lv_iload_n hx hb dX5_worth_43 rfl (lv_at hl 0 rfl) ?_
    refine lv_aload_n hx hb dX5_worth_44 rfl (lv_at hl 1 rfl) ?_
    refine g5_3 F hw tw_306 dX5_worth_45 ?_
    refine lv_iload_n hx hb dX5_worth_48 rfl (lv_at hl 2 rfl) ?_
    refine lv_iconst (v := 0) hx hb dX5_worth_49 (by decide) ?_
    obtain ⟨r12, M11, hc10, hf⟩ := bd_some hf
    refine x_aftI hw (x_runV (rest := [.int x9]) F hw hl.1 vw_RX5_230 (sL isL_17) rfl (c1_dueOf 17 isL_17 a1 0 hc10) rfl rfl (Nat.le_of_ble_eq_true rfl) ⟨Nat.le_of_ble_eq_true rfl, Nat.le_of_ble_eq_true rfl⟩ dX5_worth_50) (fun H locs hw => ?_)
    refine lv_isub hx hb dX5_worth_53 ?_
    refine lv_sipush (v := 1000) hx hb dX5_worth_54 (by decide) ?_
    refine lv_iadd hx hb dX5_worth_57 ?_
    exact x_iret F hw hr hk hf dX5_worth_58
  · have hf := it_t hf c4
    refine lv_iconst (v := (-1)) hx hb dX5_worth_11 (by decide) ?_
    exact x_iret F hw hr hk hf dX5_worth_12
theorem dX5_can_0 : decode cX5_can 0 = .ok (.aload_n 0, 1) := by decide +kernel
theorem dX5_can_1 : decode cX5_can 1 = .ok (.getfield 42, 3) := by decide +kernel
theorem dX5_can_4 : decode cX5_can 4 = .ok (.aload_n 0, 1) := by decide +kernel
theorem dX5_can_5 : decode cX5_can 5 = .ok (.getfield 31, 3) := by decide +kernel
theorem dX5_can_8 : decode cX5_can 8 = .ok (.iconst 0, 1) := by decide +kernel
theorem dX5_can_9 : decode cX5_can 9 = .ok (.invokevirtual 156, 3) := by decide +kernel
theorem dX5_can_12 : decode cX5_can 12 = .ok (.aload_n 0, 1) := by decide +kernel
theorem dX5_can_13 : decode cX5_can 13 = .ok (.getfield 42, 3) := by decide +kernel
theorem dX5_can_16 : decode cX5_can 16 = .ok (.iconst 0, 1) := by decide +kernel
theorem dX5_can_17 : decode cX5_can 17 = .ok (.invokevirtual 160, 3) := by decide +kernel
theorem dX5_can_20 : decode cX5_can 20 = .ok (.ireturn, 1) := by decide +kernel
def p5_can (M : SX) : Option (Int32 × SX) :=
  bv (p2_lookAt 17 0 M) (fun M2 => bd (p2_nextAfter 0 M2) (fun r5 M4 => some (r5, M4)))
set_option maxHeartbeats 4000000 in
set_option maxRecDepth 100000 in
theorem c5_can {l : Launch} {G : XG} {r : Int32} {M' : SX} {M : SX} (hf : p5_can M = some (r, M')) : Met l yX5_can (.code yX5_can cX5_can 1 (some .int) :: TBL) (rmX 4) (xPc G ZX M [.ref (G.2.1 0)]) (xQi G ZX r M') 0 0 (inA G ZX) := by
  refine x_met (cc := cX5_can) (by decide) (Nat.le_of_ble_eq_true rfl) ?_
  intro p e s m below meth c ls F hr hk hl hw
  have F : Fx G ZX p m c cX5_can 1 s [.ref (G.2.1 0)].toArray RX5 := F
  have hl : lv_has ls 1 [(0, .ref (G.2.1 0))] := hl
  have hx := F.1.1
  have hb := F.1.2.1
  unfold p5_can at hf
  refine lv_aload_n hx hb dX5_can_0 rfl (lv_at hl 0 rfl) ?_
  refine g5_5 F hw tw_448 dX5_can_1 ?_
  refine lv_aload_n hx hb dX5_can_4 rfl (lv_at hl 0 rfl) ?_
  refine g5_3 F hw tw_306 dX5_can_5 ?_
  refine lv_iconst (v := 0) hx hb dX5_can_8 (by decide) ?_
  obtain ⟨M2, hc1, hf⟩ := bv_some hf
  refine x_aftV hw (x_runV (rest := []) F hw hl.1 vw_RX5_156 (sO) rfl (c2_lookAt 17 isL_17 0 hc1) rfl rfl (Nat.le_of_ble_eq_true rfl) ⟨Nat.le_of_ble_eq_true rfl, Nat.le_of_ble_eq_true rfl⟩ dX5_can_9) (fun H locs hw => ?_)
  refine lv_aload_n hx hb dX5_can_12 rfl (lv_at hl 0 rfl) ?_
  refine g5_5 F hw tw_448 dX5_can_13 ?_
  refine lv_iconst (v := 0) hx hb dX5_can_16 (by decide) ?_
  obtain ⟨r5, M4, hc3, hf⟩ := bd_some hf
  refine x_aftI hw (x_runV (rest := []) F hw hl.1 vw_RX5_160 (sO) rfl (c2_nextAfter 0 hc3) rfl rfl (Nat.le_of_ble_eq_true rfl) ⟨Nat.le_of_ble_eq_true rfl, Nat.le_of_ble_eq_true rfl⟩ dX5_can_17) (fun H locs hw => ?_)
  exact x_iret F hw hr hk hf dX5_can_20
theorem dX5_least_0 : decode cX5_least 0 = .ok (.aload_n 0, 1) := by decide +kernel
theorem dX5_least_1 : decode cX5_least 1 = .ok (.getfield 31, 3) := by decide +kernel
theorem dX5_least_4 : decode cX5_least 4 = .ok (.getfield 126, 3) := by decide +kernel
theorem dX5_least_7 : decode cX5_least 7 = .ok (.ifCond .ne 6, 3) := by decide +kernel
theorem dX5_least_10 : decode cX5_least 10 = .ok (.bipush (-4), 2) := by decide +kernel
theorem dX5_least_12 : decode cX5_least 12 = .ok (.ireturn, 1) := by decide +kernel
theorem dX5_least_13 : decode cX5_least 13 = .ok (.aload_n 0, 1) := by decide +kernel
theorem dX5_least_14 : decode cX5_least 14 = .ok (.getfield 42, 3) := by decide +kernel
theorem dX5_least_17 : decode cX5_least 17 = .ok (.aload_n 0, 1) := by decide +kernel
theorem dX5_least_18 : decode cX5_least 18 = .ok (.getfield 31, 3) := by decide +kernel
theorem dX5_least_21 : decode cX5_least 21 = .ok (.iconst 0, 1) := by decide +kernel
theorem dX5_least_22 : decode cX5_least 22 = .ok (.invokevirtual 156, 3) := by decide +kernel
theorem dX5_least_25 : decode cX5_least 25 = .ok (.bipush 100, 2) := by decide +kernel
theorem dX5_least_27 : decode cX5_least 27 = .ok (.istore_n 1, 1) := by decide +kernel
theorem dX5_least_28 : decode cX5_least 28 = .ok (.bipush (-9), 2) := by decide +kernel
theorem dX5_least_30 : decode cX5_least 30 = .ok (.istore_n 2, 1) := by decide +kernel
theorem dX5_least_31 : decode cX5_least 31 = .ok (.iconst 0, 1) := by decide +kernel
theorem dX5_least_32 : decode cX5_least 32 = .ok (.istore_n 3, 1) := by decide +kernel
theorem dX5_least_33 : decode cX5_least 33 = .ok (.iload_n 3, 1) := by decide +kernel
theorem dX5_least_34 : decode cX5_least 34 = .ok (.aload_n 0, 1) := by decide +kernel
theorem dX5_least_35 : decode cX5_least 35 = .ok (.getfield 31, 3) := by decide +kernel
theorem dX5_least_38 : decode cX5_least 38 = .ok (.getfield 126, 3) := by decide +kernel
theorem dX5_least_41 : decode cX5_least 41 = .ok (.if_icmp .ge 37, 3) := by decide +kernel
theorem dX5_least_44 : decode cX5_least 44 = .ok (.aload_n 0, 1) := by decide +kernel
theorem dX5_least_45 : decode cX5_least 45 = .ok (.getfield 42, 3) := by decide +kernel
theorem dX5_least_48 : decode cX5_least 48 = .ok (.iload_n 3, 1) := by decide +kernel
theorem dX5_least_49 : decode cX5_least 49 = .ok (.invokevirtual 253, 3) := by decide +kernel
theorem dX5_least_52 : decode cX5_least 52 = .ok (.istore 4, 2) := by decide +kernel
theorem dX5_least_54 : decode cX5_least 54 = .ok (.iload 4, 2) := by decide +kernel
theorem dX5_least_56 : decode cX5_least 56 = .ok (.bipush (-9), 2) := by decide +kernel
theorem dX5_least_58 : decode cX5_least 58 = .ok (.if_icmp .eq 14, 3) := by decide +kernel
theorem dX5_least_61 : decode cX5_least 61 = .ok (.iload 4, 2) := by decide +kernel
theorem dX5_least_63 : decode cX5_least 63 = .ok (.iload_n 1, 1) := by decide +kernel
theorem dX5_least_64 : decode cX5_least 64 = .ok (.if_icmp .ge 8, 3) := by decide +kernel
theorem dX5_least_67 : decode cX5_least 67 = .ok (.iload 4, 2) := by decide +kernel
theorem dX5_least_69 : decode cX5_least 69 = .ok (.istore_n 1, 1) := by decide +kernel
theorem dX5_least_70 : decode cX5_least 70 = .ok (.iload_n 3, 1) := by decide +kernel
theorem dX5_least_71 : decode cX5_least 71 = .ok (.istore_n 2, 1) := by decide +kernel
theorem dX5_least_72 : decode cX5_least 72 = .ok (.iinc 3 1, 3) := by decide +kernel
theorem dX5_least_75 : decode cX5_least 75 = .ok (.goto (-42), 3) := by decide +kernel
theorem dX5_least_78 : decode cX5_least 78 = .ok (.iload_n 2, 1) := by decide +kernel
theorem dX5_least_79 : decode cX5_least 79 = .ok (.bipush (-9), 2) := by decide +kernel
theorem dX5_least_81 : decode cX5_least 81 = .ok (.if_icmp .ne 6, 3) := by decide +kernel
theorem dX5_least_84 : decode cX5_least 84 = .ok (.bipush (-9), 2) := by decide +kernel
theorem dX5_least_86 : decode cX5_least 86 = .ok (.ireturn, 1) := by decide +kernel
theorem dX5_least_87 : decode cX5_least 87 = .ok (.aload_n 0, 1) := by decide +kernel
theorem dX5_least_88 : decode cX5_least 88 = .ok (.iload_n 2, 1) := by decide +kernel
theorem dX5_least_89 : decode cX5_least 89 = .ok (.putfield 54, 3) := by decide +kernel
theorem dX5_least_92 : decode cX5_least 92 = .ok (.iload_n 1, 1) := by decide +kernel
theorem dX5_least_93 : decode cX5_least 93 = .ok (.ireturn, 1) := by decide +kernel
def p5_least_72 (k33 : Int32 → Int32 → Int32 → SX → Option (Int32 × SX)) (v1 : Int32) (v2 : Int32) (v3 : Int32) (M : SX) : Option (Int32 × SX) :=
  lt_ (v3 + 1) (fun x1 => k33 v1 v2 x1 M)
set_option maxHeartbeats 4000000 in
set_option maxRecDepth 100000 in
theorem w5_least_72 {G : XG} {p : Program} {l : Launch} {e : Env} {s : State} {m : MethodId} {args : Array Value} {below : List Frame} {meth : Method} {c : Code} (F : Fx G ZX p m c cX5_least 5 s args RX5) (hr : meth.sig.returnType = some .int) (hk : meth.locks = false) {r : Int32} {M' : SX} (k33 : Int32 → Int32 → Int32 → SX → Option (Int32 × SX)) (hk33 : ∀ (v1 : Int32) (v2 : Int32) (v3 : Int32) (M : SX) (H : Heap) (locs : List Loc) (ls : Array Slot), Wld G ZX M s.heap H locs → lv_has ls 5 [(0, .ref (G.2.1 0)), (1, .int v1), (2, .int v2), (3, .int v3)] → k33 v1 v2 v3 M = some (r, M') → WXi G ZX p l e 4 s m args below meth c r M' H locs (F0 m 33 ls [])) : ∀ (v1 : Int32) (v2 : Int32) (v3 : Int32) (M : SX) (H : Heap) (locs : List Loc) (ls : Array Slot), Wld G ZX M s.heap H locs → lv_has ls 5 [(0, .ref (G.2.1 0)), (1, .int v1), (2, .int v2), (3, .int v3)] → p5_least_72 k33 v1 v2 v3 M = some (r, M') → WXi G ZX p l e 4 s m args below meth c r M' H locs (F0 m 72 ls []) := by
  intro v1 v2 v3 M H locs ls hw hl hf
  have hx := F.1.1
  have hb := F.1.2.1
  unfold p5_least_72 at hf
  obtain ⟨x1, ex1, hf⟩ := lt_elim hf
  refine lv_iinc (v := x1) (lv' := [(3, .int x1), (0, .ref (G.2.1 0)), (1, .int v1), (2, .int v2)]) hx hb dX5_least_72 hl (k := 3) rfl (by rw [ex1]; rfl) (by decide) rfl (fun ls hl => ?_)
  refine lv_goto (tgt := 33) hx hb dX5_least_75 (by decide) ?_
  exact hk33 v1 v2 x1 M _ _ ls hw (lv_sub hl [1, 2, 3, 0] rfl) hf
def p5_least_33 (k33 : Int32 → Int32 → Int32 → SX → Option (Int32 × SX)) (v1 : Int32) (v2 : Int32) (v3 : Int32) (M : SX) : Option (Int32 × SX) :=
  if (M.1 17 0) ≤ v3 then (if v2 = (-9 : Int32) then (some ((-9), M))
  else (lt_ (wI M 0 8 v2) (fun M3 => some (v1, M3))))
  else (bd (p2_needOf v3 M) (fun r6 M5 => if r6 = (-9 : Int32) then (p5_least_72 k33 v1 v2 v3 M5)
  else (if v1 ≤ r6 then (p5_least_72 k33 v1 v2 v3 M5)
  else (p5_least_72 k33 r6 v3 v3 M5))))
set_option maxHeartbeats 4000000 in
set_option maxRecDepth 100000 in
theorem w5_least_33 {G : XG} {p : Program} {l : Launch} {e : Env} {s : State} {m : MethodId} {args : Array Value} {below : List Frame} {meth : Method} {c : Code} (F : Fx G ZX p m c cX5_least 5 s args RX5) (hr : meth.sig.returnType = some .int) (hk : meth.locks = false) {r : Int32} {M' : SX} (k33 : Int32 → Int32 → Int32 → SX → Option (Int32 × SX)) (hk33 : ∀ (v1 : Int32) (v2 : Int32) (v3 : Int32) (M : SX) (H : Heap) (locs : List Loc) (ls : Array Slot), Wld G ZX M s.heap H locs → lv_has ls 5 [(0, .ref (G.2.1 0)), (1, .int v1), (2, .int v2), (3, .int v3)] → k33 v1 v2 v3 M = some (r, M') → WXi G ZX p l e 4 s m args below meth c r M' H locs (F0 m 33 ls [])) : ∀ (v1 : Int32) (v2 : Int32) (v3 : Int32) (M : SX) (H : Heap) (locs : List Loc) (ls : Array Slot), Wld G ZX M s.heap H locs → lv_has ls 5 [(0, .ref (G.2.1 0)), (1, .int v1), (2, .int v2), (3, .int v3)] → p5_least_33 k33 v1 v2 v3 M = some (r, M') → WXi G ZX p l e 4 s m args below meth c r M' H locs (F0 m 33 ls []) := by
  intro v1 v2 v3 M H locs ls hw hl hf
  have hx := F.1.1
  have hb := F.1.2.1
  unfold p5_least_33 at hf
  refine lv_iload_n hx hb dX5_least_33 rfl (lv_at hl 3 rfl) ?_
  refine lv_aload_n hx hb dX5_least_34 rfl (lv_at hl 0 rfl) ?_
  refine g5_3 F hw tw_306 dX5_least_35 ?_
  refine g1_0 isL_17 F hw tw_305 dX5_least_38 ?_
  refine lv_icmp_ge (tgt := 78) hx hb dX5_least_41 (by decide) (fun c1 => ?_) (fun c1 => ?_)
  · have hf := it_t hf c1
    refine lv_iload_n hx hb dX5_least_78 rfl (lv_at hl 2 rfl) ?_
    refine lv_bipush (v := (-9)) hx hb dX5_least_79 (by decide) ?_
    refine lv_icmp_ne (tgt := 87) hx hb dX5_least_81 (by decide) (fun c2 => ?_) (fun c2 => ?_)
    · have hf := it_f hf c2
      refine lv_aload_n hx hb dX5_least_87 rfl (lv_at hl 0 rfl) ?_
      refine lv_iload_n hx hb dX5_least_88 rfl (lv_at hl 2 rfl) ?_
      refine s5_8 F hw tw_299 dX5_least_89 (fun H locs hw => ?_)
      obtain ⟨M3, eM3, hf⟩ := lt_elim hf
      rw [← eM3] at hw
      refine lv_iload_n hx hb dX5_least_92 rfl (lv_at hl 1 rfl) ?_
      exact x_iret F hw hr hk hf dX5_least_93
    · have hf := it_t hf c2
      refine lv_bipush (v := (-9)) hx hb dX5_least_84 (by decide) ?_
      exact x_iret F hw hr hk hf dX5_least_86
  · have hf := it_f hf c1
    refine lv_aload_n hx hb dX5_least_44 rfl (lv_at hl 0 rfl) ?_
    refine g5_5 F hw tw_448 dX5_least_45 ?_
    refine lv_iload_n hx hb dX5_least_48 rfl (lv_at hl 3 rfl) ?_
    obtain ⟨r6, M5, hc4, hf⟩ := bd_some hf
    refine x_aftI hw (x_runV (rest := []) F hw hl.1 vw_RX5_253 (sO) rfl (c2_needOf v3 hc4) rfl rfl (Nat.le_of_ble_eq_true rfl) ⟨Nat.le_of_ble_eq_true rfl, Nat.le_of_ble_eq_true rfl⟩ dX5_least_49) (fun H locs hw => ?_)
    refine lv_istore (lv' := [(4, .int r6), (0, .ref (G.2.1 0)), (1, .int v1), (2, .int v2), (3, .int v3)]) hx hb dX5_least_52 hl (by decide) rfl (fun ls hl => ?_)
    refine lv_iload hx hb dX5_least_54 (lv_at hl 0 rfl) ?_
    refine lv_bipush (v := (-9)) hx hb dX5_least_56 (by decide) ?_
    refine lv_icmp_eq (tgt := 72) hx hb dX5_least_58 (by decide) (fun c7 => ?_) (fun c7 => ?_)
    · have hf := it_t hf c7
      exact w5_least_72 F hr hk k33 hk33 v1 v2 v3 M5 _ _ ls hw (lv_sub hl [1, 2, 3, 4] rfl) hf
    · have hf := it_f hf c7
      refine lv_iload hx hb dX5_least_61 (lv_at hl 0 rfl) ?_
      refine lv_iload_n hx hb dX5_least_63 rfl (lv_at hl 2 rfl) ?_
      refine lv_icmp_ge (tgt := 72) hx hb dX5_least_64 (by decide) (fun c8 => ?_) (fun c8 => ?_)
      · have hf := it_t hf c8
        exact w5_least_72 F hr hk k33 hk33 v1 v2 v3 M5 _ _ ls hw (lv_sub hl [1, 2, 3, 4] rfl) hf
      · have hf := it_f hf c8
        refine lv_iload hx hb dX5_least_67 (lv_at hl 0 rfl) ?_
        refine lv_istore_n (lv' := [(1, .int r6), (4, .int r6), (0, .ref (G.2.1 0)), (2, .int v2), (3, .int v3)]) hx hb dX5_least_69 rfl hl (by decide) rfl (fun ls hl => ?_)
        refine lv_iload_n hx hb dX5_least_70 rfl (lv_at hl 4 rfl) ?_
        refine lv_istore_n (lv' := [(2, .int v3), (1, .int r6), (4, .int r6), (0, .ref (G.2.1 0)), (3, .int v3)]) hx hb dX5_least_71 rfl hl (by decide) rfl (fun ls hl => ?_)
        exact w5_least_72 F hr hk k33 hk33 r6 v3 v3 M5 _ _ ls hw (lv_sub hl [3, 1, 0, 4] rfl) hf
theorem z5_least_33 {G : XG} {p : Program} {l : Launch} {e : Env} {s : State} {m : MethodId} {args : Array Value} {below : List Frame} {meth : Method} {c : Code} (F : Fx G ZX p m c cX5_least 5 s args RX5) (hr : meth.sig.returnType = some .int) (hk : meth.locks = false) {r : Int32} {M' : SX} : ∀ n : Nat, ∀ (v1 : Int32) (v2 : Int32) (v3 : Int32) (M : SX) (H : Heap) (locs : List Loc) (ls : Array Slot), Wld G ZX M s.heap H locs → lv_has ls 5 [(0, .ref (G.2.1 0)), (1, .int v1), (2, .int v2), (3, .int v3)] → xlp3 p5_least_33 n v1 v2 v3 M = some (r, M') → WXi G ZX p l e 4 s m args below meth c r M' H locs (F0 m 33 ls []) := by
  intro n
  induction n with
  | zero => intro _ _ _ _ _ _ _ _ _ hf; cases hf
  | succ n ih => exact w5_least_33 F hr hk (xlp3 p5_least_33 n) ih
def p5_least (M : SX) : Option (Int32 × SX) :=
  if (M.1 17 0) = 0 then (some ((-4), M))
  else (bv (p2_lookAt 17 0 M) (fun M3 => xlp3 p5_least_33 FU 100 (-9) 0 M3))
set_option maxHeartbeats 4000000 in
set_option maxRecDepth 100000 in
theorem c5_least {l : Launch} {G : XG} {r : Int32} {M' : SX} {M : SX} (hf : p5_least M = some (r, M')) : Met l yX5_least (.code yX5_least cX5_least 5 (some .int) :: TBL) (rmX 4) (xPc G ZX M [.ref (G.2.1 0)]) (xQi G ZX r M') 0 0 (inA G ZX) := by
  refine x_met (cc := cX5_least) (by decide) (Nat.le_of_ble_eq_true rfl) ?_
  intro p e s m below meth c ls F hr hk hl hw
  have F : Fx G ZX p m c cX5_least 5 s [.ref (G.2.1 0)].toArray RX5 := F
  have hl : lv_has ls 5 [(0, .ref (G.2.1 0))] := hl
  have hx := F.1.1
  have hb := F.1.2.1
  unfold p5_least at hf
  refine lv_aload_n hx hb dX5_least_0 rfl (lv_at hl 0 rfl) ?_
  refine g5_3 F hw tw_306 dX5_least_1 ?_
  refine g1_0 isL_17 F hw tw_305 dX5_least_4 ?_
  refine lv_if_ne (tgt := 13) hx hb dX5_least_7 (by decide) (fun c1 => ?_) (fun c1 => ?_)
  · have hf := it_f hf c1
    refine lv_aload_n hx hb dX5_least_13 rfl (lv_at hl 0 rfl) ?_
    refine g5_5 F hw tw_448 dX5_least_14 ?_
    refine lv_aload_n hx hb dX5_least_17 rfl (lv_at hl 0 rfl) ?_
    refine g5_3 F hw tw_306 dX5_least_18 ?_
    refine lv_iconst (v := 0) hx hb dX5_least_21 (by decide) ?_
    obtain ⟨M3, hc2, hf⟩ := bv_some hf
    refine x_aftV hw (x_runV (rest := []) F hw hl.1 vw_RX5_156 (sO) rfl (c2_lookAt 17 isL_17 0 hc2) rfl rfl (Nat.le_of_ble_eq_true rfl) ⟨Nat.le_of_ble_eq_true rfl, Nat.le_of_ble_eq_true rfl⟩ dX5_least_22) (fun H locs hw => ?_)
    refine lv_bipush (v := 100) hx hb dX5_least_25 (by decide) ?_
    refine lv_istore_n (lv' := [(1, .int 100), (0, .ref (G.2.1 0))]) hx hb dX5_least_27 rfl hl (by decide) rfl (fun ls hl => ?_)
    refine lv_bipush (v := (-9)) hx hb dX5_least_28 (by decide) ?_
    refine lv_istore_n (lv' := [(2, .int (-9)), (1, .int 100), (0, .ref (G.2.1 0))]) hx hb dX5_least_30 rfl hl (by decide) rfl (fun ls hl => ?_)
    refine lv_iconst (v := 0) hx hb dX5_least_31 (by decide) ?_
    refine lv_istore_n (lv' := [(3, .int 0), (2, .int (-9)), (1, .int 100), (0, .ref (G.2.1 0))]) hx hb dX5_least_32 rfl hl (by decide) rfl (fun ls hl => ?_)
    exact z5_least_33 F hr hk FU 100 (-9) 0 M3 _ _ ls hw (lv_sub hl [3, 2, 1, 0] rfl) hf
  · have hf := it_t hf c1
    refine lv_bipush (v := (-4)) hx hb dX5_least_10 (by decide) ?_
    exact x_iret F hw hr hk hf dX5_least_12
theorem dX5_run_0 : decode cX5_run 0 = .ok (.aload_n 0, 1) := by decide +kernel
theorem dX5_run_1 : decode cX5_run 1 = .ok (.iload_n 1, 1) := by decide +kernel
theorem dX5_run_2 : decode cX5_run 2 = .ok (.invokevirtual 256, 3) := by decide +kernel
theorem dX5_run_5 : decode cX5_run 5 = .ok (.istore_n 2, 1) := by decide +kernel
theorem dX5_run_6 : decode cX5_run 6 = .ok (.iload_n 2, 1) := by decide +kernel
theorem dX5_run_7 : decode cX5_run 7 = .ok (.ifCond .eq 5, 3) := by decide +kernel
theorem dX5_run_10 : decode cX5_run 10 = .ok (.iload_n 2, 1) := by decide +kernel
theorem dX5_run_11 : decode cX5_run 11 = .ok (.ireturn, 1) := by decide +kernel
theorem dX5_run_12 : decode cX5_run 12 = .ok (.aload_n 0, 1) := by decide +kernel
theorem dX5_run_13 : decode cX5_run 13 = .ok (.getfield 42, 3) := by decide +kernel
theorem dX5_run_16 : decode cX5_run 16 = .ok (.aload_n 0, 1) := by decide +kernel
theorem dX5_run_17 : decode cX5_run 17 = .ok (.getfield 31, 3) := by decide +kernel
theorem dX5_run_20 : decode cX5_run 20 = .ok (.iconst 0, 1) := by decide +kernel
theorem dX5_run_21 : decode cX5_run 21 = .ok (.invokevirtual 156, 3) := by decide +kernel
theorem dX5_run_24 : decode cX5_run 24 = .ok (.iconst 0, 1) := by decide +kernel
theorem dX5_run_25 : decode cX5_run 25 = .ok (.istore_n 3, 1) := by decide +kernel
theorem dX5_run_26 : decode cX5_run 26 = .ok (.bipush (-9), 2) := by decide +kernel
theorem dX5_run_28 : decode cX5_run 28 = .ok (.istore 4, 2) := by decide +kernel
theorem dX5_run_30 : decode cX5_run 30 = .ok (.aload_n 0, 1) := by decide +kernel
theorem dX5_run_31 : decode cX5_run 31 = .ok (.getfield 14, 3) := by decide +kernel
theorem dX5_run_34 : decode cX5_run 34 = .ok (.iload_n 1, 1) := by decide +kernel
theorem dX5_run_35 : decode cX5_run 35 = .ok (.invokevirtual 106, 3) := by decide +kernel
theorem dX5_run_38 : decode cX5_run 38 = .ok (.istore 5, 2) := by decide +kernel
theorem dX5_run_40 : decode cX5_run 40 = .ok (.iconst 0, 1) := by decide +kernel
theorem dX5_run_41 : decode cX5_run 41 = .ok (.istore 6, 2) := by decide +kernel
theorem dX5_run_43 : decode cX5_run 43 = .ok (.iload 6, 2) := by decide +kernel
theorem dX5_run_45 : decode cX5_run 45 = .ok (.iload 5, 2) := by decide +kernel
theorem dX5_run_47 : decode cX5_run 47 = .ok (.if_icmp .ge 49, 3) := by decide +kernel
theorem dX5_run_50 : decode cX5_run 50 = .ok (.aload_n 0, 1) := by decide +kernel
theorem dX5_run_51 : decode cX5_run 51 = .ok (.getfield 42, 3) := by decide +kernel
theorem dX5_run_54 : decode cX5_run 54 = .ok (.iload_n 3, 1) := by decide +kernel
theorem dX5_run_55 : decode cX5_run 55 = .ok (.aload_n 0, 1) := by decide +kernel
theorem dX5_run_56 : decode cX5_run 56 = .ok (.getfield 14, 3) := by decide +kernel
theorem dX5_run_59 : decode cX5_run 59 = .ok (.iload_n 1, 1) := by decide +kernel
theorem dX5_run_60 : decode cX5_run 60 = .ok (.iload 6, 2) := by decide +kernel
theorem dX5_run_62 : decode cX5_run 62 = .ok (.invokevirtual 80, 3) := by decide +kernel
theorem dX5_run_65 : decode cX5_run 65 = .ok (.invokevirtual 259, 3) := by decide +kernel
theorem dX5_run_68 : decode cX5_run 68 = .ok (.ifCond .eq 28, 3) := by decide +kernel
theorem dX5_run_71 : decode cX5_run 71 = .ok (.aload_n 0, 1) := by decide +kernel
theorem dX5_run_72 : decode cX5_run 72 = .ok (.getfield 14, 3) := by decide +kernel
theorem dX5_run_75 : decode cX5_run 75 = .ok (.iload_n 1, 1) := by decide +kernel
theorem dX5_run_76 : decode cX5_run 76 = .ok (.iload 6, 2) := by decide +kernel
theorem dX5_run_78 : decode cX5_run 78 = .ok (.invokevirtual 80, 3) := by decide +kernel
theorem dX5_run_81 : decode cX5_run 81 = .ok (.istore 4, 2) := by decide +kernel
theorem dX5_run_83 : decode cX5_run 83 = .ok (.iload_n 3, 1) := by decide +kernel
theorem dX5_run_84 : decode cX5_run 84 = .ok (.iconst 1, 1) := by decide +kernel
theorem dX5_run_85 : decode cX5_run 85 = .ok (.iload 4, 2) := by decide +kernel
theorem dX5_run_87 : decode cX5_run 87 = .ok (.ishl, 1) := by decide +kernel
theorem dX5_run_88 : decode cX5_run 88 = .ok (.ior, 1) := by decide +kernel
theorem dX5_run_89 : decode cX5_run 89 = .ok (.istore_n 3, 1) := by decide +kernel
theorem dX5_run_90 : decode cX5_run 90 = .ok (.iinc 6 1, 3) := by decide +kernel
theorem dX5_run_93 : decode cX5_run 93 = .ok (.goto (-50), 3) := by decide +kernel
theorem dX5_run_96 : decode cX5_run 96 = .ok (.aload_n 0, 1) := by decide +kernel
theorem dX5_run_97 : decode cX5_run 97 = .ok (.iload 4, 2) := by decide +kernel
theorem dX5_run_99 : decode cX5_run 99 = .ok (.bipush (-9), 2) := by decide +kernel
theorem dX5_run_101 : decode cX5_run 101 = .ok (.if_icmp .ne 8, 3) := by decide +kernel
theorem dX5_run_104 : decode cX5_run 104 = .ok (.bipush (-9), 2) := by decide +kernel
theorem dX5_run_106 : decode cX5_run 106 = .ok (.goto 13, 3) := by decide +kernel
theorem dX5_run_109 : decode cX5_run 109 = .ok (.aload_n 0, 1) := by decide +kernel
theorem dX5_run_110 : decode cX5_run 110 = .ok (.getfield 42, 3) := by decide +kernel
theorem dX5_run_113 : decode cX5_run 113 = .ok (.iload_n 3, 1) := by decide +kernel
theorem dX5_run_114 : decode cX5_run 114 = .ok (.iload 4, 2) := by decide +kernel
theorem dX5_run_116 : decode cX5_run 116 = .ok (.invokevirtual 262, 3) := by decide +kernel
theorem dX5_run_119 : decode cX5_run 119 = .ok (.putfield 54, 3) := by decide +kernel
theorem dX5_run_122 : decode cX5_run 122 = .ok (.iload_n 3, 1) := by decide +kernel
theorem dX5_run_123 : decode cX5_run 123 = .ok (.invokestatic 151, 3) := by decide +kernel
theorem dX5_run_126 : decode cX5_run 126 = .ok (.ireturn, 1) := by decide +kernel
def p5_run_119 (v3 : Int32) (t1 : Int32) (M : SX) : Option (Int32 × SX) :=
  lt_ (wI M 0 8 t1) (fun M1 => bd (pj_bits v3 M1) (fun r4 M3 => some (r4, M3)))
set_option maxHeartbeats 4000000 in
set_option maxRecDepth 100000 in
theorem w5_run_119 {G : XG} {p : Program} {l : Launch} {e : Env} {s : State} {m : MethodId} {args : Array Value} {below : List Frame} {meth : Method} {c : Code} (F : Fx G ZX p m c cX5_run 7 s args RX5) (hr : meth.sig.returnType = some .int) (hk : meth.locks = false) {r : Int32} {M' : SX} : ∀ (v3 : Int32) (t1 : Int32) (M : SX) (H : Heap) (locs : List Loc) (ls : Array Slot), Wld G ZX M s.heap H locs → lv_has ls 7 [(3, .int v3)] → p5_run_119 v3 t1 M = some (r, M') → WXi G ZX p l e 4 s m args below meth c r M' H locs (F0 m 119 ls [.int t1, .ref (G.2.1 0)]) := by
  intro v3 t1 M H locs ls hw hl hf
  have hx := F.1.1
  have hb := F.1.2.1
  unfold p5_run_119 at hf
  refine s5_8 F hw tw_299 dX5_run_119 (fun H locs hw => ?_)
  obtain ⟨M1, eM1, hf⟩ := lt_elim hf
  rw [← eM1] at hw
  refine lv_iload_n hx hb dX5_run_122 rfl (lv_at hl 0 rfl) ?_
  obtain ⟨r4, M3, hc2, hf⟩ := bd_some hf
  refine x_aftI hw (x_runS (rest := []) F hw hl.1 sw_RX5_151 (cj_bits v3 hc2) rfl rfl (Nat.le_of_ble_eq_true rfl) ⟨Nat.le_of_ble_eq_true rfl, Nat.le_of_ble_eq_true rfl⟩ dX5_run_123) (fun H locs hw => ?_)
  exact x_iret F hw hr hk hf dX5_run_126
def p5_run_96 (v3 : Int32) (v4 : Int32) (M : SX) : Option (Int32 × SX) :=
  if v4 = (-9 : Int32) then (p5_run_119 v3 (-9) M)
  else (bd (p2_cashAfter v3 v4 M) (fun r4 M3 => p5_run_119 v3 r4 M3))
set_option maxHeartbeats 4000000 in
set_option maxRecDepth 100000 in
theorem w5_run_96 {G : XG} {p : Program} {l : Launch} {e : Env} {s : State} {m : MethodId} {args : Array Value} {below : List Frame} {meth : Method} {c : Code} (F : Fx G ZX p m c cX5_run 7 s args RX5) (hr : meth.sig.returnType = some .int) (hk : meth.locks = false) {r : Int32} {M' : SX} : ∀ (v3 : Int32) (v4 : Int32) (M : SX) (H : Heap) (locs : List Loc) (ls : Array Slot), Wld G ZX M s.heap H locs → lv_has ls 7 [(0, .ref (G.2.1 0)), (3, .int v3), (4, .int v4)] → p5_run_96 v3 v4 M = some (r, M') → WXi G ZX p l e 4 s m args below meth c r M' H locs (F0 m 96 ls []) := by
  intro v3 v4 M H locs ls hw hl hf
  have hx := F.1.1
  have hb := F.1.2.1
  unfold p5_run_96 at hf
  refine lv_aload_n hx hb dX5_run_96 rfl (lv_at hl 0 rfl) ?_
  refine lv_iload hx hb dX5_run_97 (lv_at hl 2 rfl) ?_
  refine lv_bipush (v := (-9)) hx hb dX5_run_99 (by decide) ?_
  refine lv_icmp_ne (tgt := 109) hx hb dX5_run_101 (by decide) (fun c1 => ?_) (fun c1 => ?_)
  · have hf := it_f hf c1
    refine lv_aload_n hx hb dX5_run_109 rfl (lv_at hl 0 rfl) ?_
    refine g5_5 F hw tw_448 dX5_run_110 ?_
    refine lv_iload_n hx hb dX5_run_113 rfl (lv_at hl 1 rfl) ?_
    refine lv_iload hx hb dX5_run_114 (lv_at hl 2 rfl) ?_
    obtain ⟨r4, M3, hc2, hf⟩ := bd_some hf
    refine x_aftI hw (x_runV (rest := [.ref (G.2.1 0)]) F hw hl.1 vw_RX5_262 (sO) rfl (c2_cashAfter v3 v4 hc2) rfl rfl (Nat.le_of_ble_eq_true rfl) ⟨Nat.le_of_ble_eq_true rfl, Nat.le_of_ble_eq_true rfl⟩ dX5_run_116) (fun H locs hw => ?_)
    exact w5_run_119 F hr hk v3 r4 M3 _ _ ls hw (lv_sub hl [1] rfl) hf
  · have hf := it_t hf c1
    refine lv_bipush (v := (-9)) hx hb dX5_run_104 (by decide) ?_
    refine lv_goto (tgt := 119) hx hb dX5_run_106 (by decide) ?_
    exact w5_run_119 F hr hk v3 (-9) M _ _ ls hw (lv_sub hl [1] rfl) hf
def p5_run_43 (k43 : Int32 → Int32 → Int32 → Int32 → Int32 → SX → Option (Int32 × SX)) (v1 : Int32) (v3 : Int32) (v4 : Int32) (v5 : Int32) (v6 : Int32) (M : SX) : Option (Int32 × SX) :=
  if v5 ≤ v6 then (p5_run_96 v3 v4 M)
  else (bd (p4_valueAt 1 v1 v6 M) (fun r4 M3 => bd (p2_goesOn v3 r4 M3) (fun r7 M6 => if r7 = 0 then (p5_run_96 v3 v4 M6)
  else (bd (p4_valueAt 1 v1 v6 M6) (fun r11 M10 => lt_ (v3 ||| ((1 : Int32) <<< (r11 &&& 31))) (fun x12 => lt_ (v6 + 1) (fun x13 => k43 v1 x12 r11 v5 x13 M10)))))))
set_option maxHeartbeats 4000000 in
set_option maxRecDepth 100000 in
theorem w5_run_43 {G : XG} {p : Program} {l : Launch} {e : Env} {s : State} {m : MethodId} {args : Array Value} {below : List Frame} {meth : Method} {c : Code} (F : Fx G ZX p m c cX5_run 7 s args RX5) (hr : meth.sig.returnType = some .int) (hk : meth.locks = false) {r : Int32} {M' : SX} (k43 : Int32 → Int32 → Int32 → Int32 → Int32 → SX → Option (Int32 × SX)) (hk43 : ∀ (v1 : Int32) (v3 : Int32) (v4 : Int32) (v5 : Int32) (v6 : Int32) (M : SX) (H : Heap) (locs : List Loc) (ls : Array Slot), Wld G ZX M s.heap H locs → lv_has ls 7 [(0, .ref (G.2.1 0)), (1, .int v1), (3, .int v3), (4, .int v4), (5, .int v5), (6, .int v6)] → k43 v1 v3 v4 v5 v6 M = some (r, M') → WXi G ZX p l e 4 s m args below meth c r M' H locs (F0 m 43 ls [])) : ∀ (v1 : Int32) (v3 : Int32) (v4 : Int32) (v5 : Int32) (v6 : Int32) (M : SX) (H : Heap) (locs : List Loc) (ls : Array Slot), Wld G ZX M s.heap H locs → lv_has ls 7 [(0, .ref (G.2.1 0)), (1, .int v1), (3, .int v3), (4, .int v4), (5, .int v5), (6, .int v6)] → p5_run_43 k43 v1 v3 v4 v5 v6 M = some (r, M') → WXi G ZX p l e 4 s m args below meth c r M' H locs (F0 m 43 ls []) := by
  intro v1 v3 v4 v5 v6 M H locs ls hw hl hf
  have hx := F.1.1
  have hb := F.1.2.1
  unfold p5_run_43 at hf
  refine lv_iload hx hb dX5_run_43 (lv_at hl 5 rfl) ?_
  refine lv_iload hx hb dX5_run_45 (lv_at hl 4 rfl) ?_
  refine lv_icmp_ge (tgt := 96) hx hb dX5_run_47 (by decide) (fun c1 => ?_) (fun c1 => ?_)
  · have hf := it_t hf c1
    exact w5_run_96 F hr hk v3 v4 M _ _ ls hw (lv_sub hl [0, 2, 3] rfl) hf
  · have hf := it_f hf c1
    refine lv_aload_n hx hb dX5_run_50 rfl (lv_at hl 0 rfl) ?_
    refine g5_5 F hw tw_448 dX5_run_51 ?_
    refine lv_iload_n hx hb dX5_run_54 rfl (lv_at hl 2 rfl) ?_
    refine lv_aload_n hx hb dX5_run_55 rfl (lv_at hl 0 rfl) ?_
    refine g5_0 F hw tw_334 dX5_run_56 ?_
    refine lv_iload_n hx hb dX5_run_59 rfl (lv_at hl 1 rfl) ?_
    refine lv_iload hx hb dX5_run_60 (lv_at hl 5 rfl) ?_
    obtain ⟨r4, M3, hc2, hf⟩ := bd_some hf
    refine x_aftI hw (x_runV (rest := [.int v3, .ref (G.2.1 54)]) F hw hl.1 vw_RX5_80 (sS isS_1) rfl (c4_valueAt 1 isS_1 v1 v6 hc2) rfl rfl (Nat.le_of_ble_eq_true rfl) ⟨Nat.le_of_ble_eq_true rfl, Nat.le_of_ble_eq_true rfl⟩ dX5_run_62) (fun H locs hw => ?_)
    obtain ⟨r7, M6, hc5, hf⟩ := bd_some hf
    refine x_aftI hw (x_runV (rest := []) F hw hl.1 vw_RX5_259 (sO) rfl (c2_goesOn v3 r4 hc5) rfl rfl (Nat.le_of_ble_eq_true rfl) ⟨Nat.le_of_ble_eq_true rfl, Nat.le_of_ble_eq_true rfl⟩ dX5_run_65) (fun H locs hw => ?_)
    refine lv_if_eq (tgt := 96) hx hb dX5_run_68 (by decide) (fun c8 => ?_) (fun c8 => ?_)
    · have hf := it_t hf c8
      exact w5_run_96 F hr hk v3 v4 M6 _ _ ls hw (lv_sub hl [0, 2, 3] rfl) hf
    · have hf := it_f hf c8
      refine lv_aload_n hx hb dX5_run_71 rfl (lv_at hl 0 rfl) ?_
      refine g5_0 F hw tw_334 dX5_run_72 ?_
      refine lv_iload_n hx hb dX5_run_75 rfl (lv_at hl 1 rfl) ?_
      refine lv_iload hx hb dX5_run_76 (lv_at hl 5 rfl) ?_
      obtain ⟨r11, M10, hc9, hf⟩ := bd_some hf
      refine x_aftI hw (x_runV (rest := []) F hw hl.1 vw_RX5_80 (sS isS_1) rfl (c4_valueAt 1 isS_1 v1 v6 hc9) rfl rfl (Nat.le_of_ble_eq_true rfl) ⟨Nat.le_of_ble_eq_true rfl, Nat.le_of_ble_eq_true rfl⟩ dX5_run_78) (fun H locs hw => ?_)
      refine lv_istore (lv' := [(4, .int r11), (0, .ref (G.2.1 0)), (1, .int v1), (3, .int v3), (5, .int v5), (6, .int v6)]) hx hb dX5_run_81 hl (by decide) rfl (fun ls hl => ?_)
      refine lv_iload_n hx hb dX5_run_83 rfl (lv_at hl 3 rfl) ?_
      refine lv_iconst (v := 1) hx hb dX5_run_84 (by decide) ?_
      refine lv_iload hx hb dX5_run_85 (lv_at hl 0 rfl) ?_
      refine lv_ishl hx hb dX5_run_87 ?_
      refine lv_ior hx hb dX5_run_88 ?_
      obtain ⟨x12, ex12, hf⟩ := lt_elim hf
      refine x_let ex12 ?_
      refine lv_istore_n (lv' := [(3, .int x12), (4, .int r11), (0, .ref (G.2.1 0)), (1, .int v1), (5, .int v5), (6, .int v6)]) hx hb dX5_run_89 rfl hl (by decide) rfl (fun ls hl => ?_)
      obtain ⟨x13, ex13, hf⟩ := lt_elim hf
      refine lv_iinc (v := x13) (lv' := [(6, .int x13), (3, .int x12), (4, .int r11), (0, .ref (G.2.1 0)), (1, .int v1), (5, .int v5)]) hx hb dX5_run_90 hl (k := 5) rfl (by rw [ex13]; rfl) (by decide) rfl (fun ls hl => ?_)
      refine lv_goto (tgt := 43) hx hb dX5_run_93 (by decide) ?_
      exact hk43 v1 x12 r11 v5 x13 M10 _ _ ls hw (lv_sub hl [3, 4, 1, 2, 5, 0] rfl) hf
theorem z5_run_43 {G : XG} {p : Program} {l : Launch} {e : Env} {s : State} {m : MethodId} {args : Array Value} {below : List Frame} {meth : Method} {c : Code} (F : Fx G ZX p m c cX5_run 7 s args RX5) (hr : meth.sig.returnType = some .int) (hk : meth.locks = false) {r : Int32} {M' : SX} : ∀ n : Nat, ∀ (v1 : Int32) (v3 : Int32) (v4 : Int32) (v5 : Int32) (v6 : Int32) (M : SX) (H : Heap) (locs : List Loc) (ls : Array Slot), Wld G ZX M s.heap H locs → lv_has ls 7 [(0, .ref (G.2.1 0)), (1, .int v1), (3, .int v3), (4, .int v4), (5, .int v5), (6, .int v6)] → xlp5 p5_run_43 n v1 v3 v4 v5 v6 M = some (r, M') → WXi G ZX p l e 4 s m args below meth c r M' H locs (F0 m 43 ls []) := by
  intro n
  induction n with
  | zero => intro _ _ _ _ _ _ _ _ _ _ _ hf; cases hf
  | succ n ih => exact w5_run_43 F hr hk (xlp5 p5_run_43 n) ih
def p5_run (a1 : Int32) (M : SX) : Option (Int32 × SX) :=
  bd (p5_refusalOfOrder a1 M) (fun r3 M2 => if r3 = 0 then (bv (p2_lookAt 17 0 M2) (fun M6 => bd (p4_sizeOf 1 a1 M6) (fun r9 M8 => xlp5 p5_run_43 FU a1 0 (-9) r9 0 M8)))
  else (some (r3, M2)))
set_option maxHeartbeats 4000000 in
set_option maxRecDepth 100000 in
theorem c5_run {l : Launch} {G : XG} {r : Int32} {M' : SX} {M : SX} (a1 : Int32) (hf : p5_run a1 M = some (r, M')) : Met l yX5_run (.code yX5_run cX5_run 7 (some .int) :: TBL) (rmX 4) (xPc G ZX M [.ref (G.2.1 0), .int a1]) (xQi G ZX r M') 0 0 (inA G ZX) := by
  refine x_met (cc := cX5_run) (by decide) (Nat.le_of_ble_eq_true rfl) ?_
  intro p e s m below meth c ls F hr hk hl hw
  have F : Fx G ZX p m c cX5_run 7 s [.ref (G.2.1 0), .int a1].toArray RX5 := F
  have hl : lv_has ls 7 [(0, .ref (G.2.1 0)), (1, .int a1)] := hl
  have hx := F.1.1
  have hb := F.1.2.1
  unfold p5_run at hf
  refine lv_aload_n hx hb dX5_run_0 rfl (lv_at hl 0 rfl) ?_
  refine lv_iload_n hx hb dX5_run_1 rfl (lv_at hl 1 rfl) ?_
  obtain ⟨r3, M2, hc1, hf⟩ := bd_some hf
  refine x_aftI hw (x_runV (rest := []) F hw hl.1 vw_RX5_256 (sP) rfl (c5_refusalOfOrder a1 hc1) rfl rfl (Nat.le_of_ble_eq_true rfl) ⟨Nat.le_of_ble_eq_true rfl, Nat.le_of_ble_eq_true rfl⟩ dX5_run_2) (fun H locs hw => ?_)
  refine lv_istore_n (lv' := [(2, .int r3), (0, .ref (G.2.1 0)), (1, .int a1)]) hx hb dX5_run_5 rfl hl (by decide) rfl (fun ls hl => ?_)
  refine lv_iload_n hx hb dX5_run_6 rfl (lv_at hl 0 rfl) ?_
  refine lv_if_eq (tgt := 12) hx hb dX5_run_7 (by decide) (fun c4 => ?_) (fun c4 => ?_)
  · have hf := it_t hf c4
    refine lv_aload_n hx hb dX5_run_12 rfl (lv_at hl 1 rfl) ?_
    refine g5_5 F hw tw_448 dX5_run_13 ?_
    refine lv_aload_n hx hb dX5_run_16 rfl (lv_at hl 1 rfl) ?_
    refine g5_3 F hw tw_306 dX5_run_17 ?_
    refine lv_iconst (v := 0) hx hb dX5_run_20 (by decide) ?_
    obtain ⟨M6, hc5, hf⟩ := bv_some hf
    refine x_aftV hw (x_runV (rest := []) F hw hl.1 vw_RX5_156 (sO) rfl (c2_lookAt 17 isL_17 0 hc5) rfl rfl (Nat.le_of_ble_eq_true rfl) ⟨Nat.le_of_ble_eq_true rfl, Nat.le_of_ble_eq_true rfl⟩ dX5_run_21) (fun H locs hw => ?_)
    refine lv_iconst (v := 0) hx hb dX5_run_24 (by decide) ?_
    refine lv_istore_n (lv' := [(3, .int 0), (2, .int r3), (0, .ref (G.2.1 0)), (1, .int a1)]) hx hb dX5_run_25 rfl hl (by decide) rfl (fun ls hl => ?_)
    refine lv_bipush (v := (-9)) hx hb dX5_run_26 (by decide) ?_
    refine lv_istore (lv' := [(4, .int (-9)), (3, .int 0), (2, .int r3), (0, .ref (G.2.1 0)), (1, .int a1)]) hx hb dX5_run_28 hl (by decide) rfl (fun ls hl => ?_)
    refine lv_aload_n hx hb dX5_run_30 rfl (lv_at hl 3 rfl) ?_
    refine g5_0 F hw tw_334 dX5_run_31 ?_
    refine lv_iload_n hx hb dX5_run_34 rfl (lv_at hl 4 rfl) ?_
    obtain ⟨r9, M8, hc7, hf⟩ := bd_some hf
    refine x_aftI hw (x_runV (rest := []) F hw hl.1 vw_RX5_106 (sS isS_1) rfl (c4_sizeOf 1 isS_1 a1 hc7) rfl rfl (Nat.le_of_ble_eq_true rfl) ⟨Nat.le_of_ble_eq_true rfl, Nat.le_of_ble_eq_true rfl⟩ dX5_run_35) (fun H locs hw => ?_)
    refine lv_istore (lv' := [(5, .int r9), (4, .int (-9)), (3, .int 0), (2, .int r3), (0, .ref (G.2.1 0)), (1, .int a1)]) hx hb dX5_run_38 hl (by decide) rfl (fun ls hl => ?_)
    refine lv_iconst (v := 0) hx hb dX5_run_40 (by decide) ?_
    refine lv_istore (lv' := [(6, .int 0), (5, .int r9), (4, .int (-9)), (3, .int 0), (2, .int r3), (0, .ref (G.2.1 0)), (1, .int a1)]) hx hb dX5_run_41 hl (by decide) rfl (fun ls hl => ?_)
    exact z5_run_43 F hr hk FU a1 0 (-9) r9 0 M8 _ _ ls hw (lv_sub hl [5, 6, 3, 2, 1, 0] rfl) hf
  · have hf := it_f hf c4
    refine lv_iload_n hx hb dX5_run_10 rfl (lv_at hl 0 rfl) ?_
    exact x_iret F hw hr hk hf dX5_run_11
