theorem dX1_doByLot_0 : decode cX1_doByLot 0 = .ok (.aload_n 0, 1) := by decide +kernel
theorem dX1_doByLot_1 : decode cX1_doByLot 1 = .ok (.getfield 9, 3) := by decide +kernel
theorem dX1_doByLot_4 : decode cX1_doByLot 4 = .ok (.ifCond .ne 4, 3) := by decide +kernel
theorem dX1_doByLot_7 : decode cX1_doByLot 7 = .ok (.return_, 1) := by decide +kernel
theorem dX1_doByLot_8 : decode cX1_doByLot 8 = .ok (.iload_n 1, 1) := by decide +kernel
theorem dX1_doByLot_9 : decode cX1_doByLot 9 = .ok (.aload_n 0, 1) := by decide +kernel
theorem dX1_doByLot_10 : decode cX1_doByLot 10 = .ok (.getfield 9, 3) := by decide +kernel
theorem dX1_doByLot_13 : decode cX1_doByLot 13 = .ok (.irem, 1) := by decide +kernel
theorem dX1_doByLot_14 : decode cX1_doByLot 14 = .ok (.istore_n 2, 1) := by decide +kernel
theorem dX1_doByLot_15 : decode cX1_doByLot 15 = .ok (.iload_n 1, 1) := by decide +kernel
theorem dX1_doByLot_16 : decode cX1_doByLot 16 = .ok (.bipush 16, 2) := by decide +kernel
theorem dX1_doByLot_18 : decode cX1_doByLot 18 = .ok (.idiv, 1) := by decide +kernel
theorem dX1_doByLot_19 : decode cX1_doByLot 19 = .ok (.aload_n 0, 1) := by decide +kernel
theorem dX1_doByLot_20 : decode cX1_doByLot 20 = .ok (.getfield 9, 3) := by decide +kernel
theorem dX1_doByLot_23 : decode cX1_doByLot 23 = .ok (.irem, 1) := by decide +kernel
theorem dX1_doByLot_24 : decode cX1_doByLot 24 = .ok (.istore_n 3, 1) := by decide +kernel
theorem dX1_doByLot_25 : decode cX1_doByLot 25 = .ok (.iload_n 1, 1) := by decide +kernel
theorem dX1_doByLot_26 : decode cX1_doByLot 26 = .ok (.sipush 256, 3) := by decide +kernel
theorem dX1_doByLot_29 : decode cX1_doByLot 29 = .ok (.idiv, 1) := by decide +kernel
theorem dX1_doByLot_30 : decode cX1_doByLot 30 = .ok (.bipush 9, 2) := by decide +kernel
theorem dX1_doByLot_32 : decode cX1_doByLot 32 = .ok (.irem, 1) := by decide +kernel
theorem dX1_doByLot_33 : decode cX1_doByLot 33 = .ok (.iconst 1, 1) := by decide +kernel
theorem dX1_doByLot_34 : decode cX1_doByLot 34 = .ok (.iadd, 1) := by decide +kernel
theorem dX1_doByLot_35 : decode cX1_doByLot 35 = .ok (.istore 4, 2) := by decide +kernel
theorem dX1_doByLot_37 : decode cX1_doByLot 37 = .ok (.aload_n 0, 1) := by decide +kernel
theorem dX1_doByLot_38 : decode cX1_doByLot 38 = .ok (.iload_n 2, 1) := by decide +kernel
theorem dX1_doByLot_39 : decode cX1_doByLot 39 = .ok (.invokevirtual 103, 3) := by decide +kernel
theorem dX1_doByLot_42 : decode cX1_doByLot 42 = .ok (.ifCond .eq 12, 3) := by decide +kernel
theorem dX1_doByLot_45 : decode cX1_doByLot 45 = .ok (.aload_n 0, 1) := by decide +kernel
theorem dX1_doByLot_46 : decode cX1_doByLot 46 = .ok (.iload_n 2, 1) := by decide +kernel
theorem dX1_doByLot_47 : decode cX1_doByLot 47 = .ok (.invokevirtual 106, 3) := by decide +kernel
theorem dX1_doByLot_50 : decode cX1_doByLot 50 = .ok (.pop, 1) := by decide +kernel
theorem dX1_doByLot_51 : decode cX1_doByLot 51 = .ok (.goto 46, 3) := by decide +kernel
theorem dX1_doByLot_54 : decode cX1_doByLot 54 = .ok (.aload_n 0, 1) := by decide +kernel
theorem dX1_doByLot_55 : decode cX1_doByLot 55 = .ok (.iload_n 2, 1) := by decide +kernel
theorem dX1_doByLot_56 : decode cX1_doByLot 56 = .ok (.invokevirtual 62, 3) := by decide +kernel
theorem dX1_doByLot_59 : decode cX1_doByLot 59 = .ok (.ifCond .eq 10, 3) := by decide +kernel
theorem dX1_doByLot_62 : decode cX1_doByLot 62 = .ok (.aload_n 0, 1) := by decide +kernel
theorem dX1_doByLot_63 : decode cX1_doByLot 63 = .ok (.invokevirtual 110, 3) := by decide +kernel
theorem dX1_doByLot_66 : decode cX1_doByLot 66 = .ok (.goto 31, 3) := by decide +kernel
theorem dX1_doByLot_69 : decode cX1_doByLot 69 = .ok (.aload_n 0, 1) := by decide +kernel
theorem dX1_doByLot_70 : decode cX1_doByLot 70 = .ok (.iload_n 2, 1) := by decide +kernel
theorem dX1_doByLot_71 : decode cX1_doByLot 71 = .ok (.iload_n 3, 1) := by decide +kernel
theorem dX1_doByLot_72 : decode cX1_doByLot 72 = .ok (.iload 4, 2) := by decide +kernel
theorem dX1_doByLot_74 : decode cX1_doByLot 74 = .ok (.invokevirtual 113, 3) := by decide +kernel
theorem dX1_doByLot_77 : decode cX1_doByLot 77 = .ok (.ifCond .eq 14, 3) := by decide +kernel
theorem dX1_doByLot_80 : decode cX1_doByLot 80 = .ok (.aload_n 0, 1) := by decide +kernel
theorem dX1_doByLot_81 : decode cX1_doByLot 81 = .ok (.iload_n 2, 1) := by decide +kernel
theorem dX1_doByLot_82 : decode cX1_doByLot 82 = .ok (.iload_n 3, 1) := by decide +kernel
theorem dX1_doByLot_83 : decode cX1_doByLot 83 = .ok (.iload 4, 2) := by decide +kernel
theorem dX1_doByLot_85 : decode cX1_doByLot 85 = .ok (.invokevirtual 117, 3) := by decide +kernel
theorem dX1_doByLot_88 : decode cX1_doByLot 88 = .ok (.goto 9, 3) := by decide +kernel
theorem dX1_doByLot_91 : decode cX1_doByLot 91 = .ok (.aload_n 0, 1) := by decide +kernel
theorem dX1_doByLot_92 : decode cX1_doByLot 92 = .ok (.iload_n 2, 1) := by decide +kernel
theorem dX1_doByLot_93 : decode cX1_doByLot 93 = .ok (.iconst 1, 1) := by decide +kernel
theorem dX1_doByLot_94 : decode cX1_doByLot 94 = .ok (.invokevirtual 120, 3) := by decide +kernel
theorem dX1_doByLot_97 : decode cX1_doByLot 97 = .ok (.return_, 1) := by decide +kernel
def p1_doByLot (b : Nat) (a1 : Int32) (M : SX) : Option SX :=
  if (M.1 b 0) = 0 then (some M)
  else (gd (nz (M.1 b 0)) ( lt_ (a1 - a1 / (M.1 b 0) * (M.1 b 0)) (fun x3 => lt_ ((a1 / 16) - (a1 / 16) / (M.1 b 0) * (M.1 b 0)) (fun x4 => lt_ (((a1 / 256) - (a1 / 256) / 9 * 9) + 1) (fun x5 => bd (p1_canRedeem b x3 M) (fun r8 M7 => if r8 = 0 then (bd (p1_isPawned b x3 M7) (fun r12 M11 => if r12 = 0 then (bd (p1_canPawn b x3 x4 x5 M11) (fun r16 M15 => if r16 = 0 then (bv (p1_doGive b x3 1 M15) (fun M19 => some M19))
  else (bv (p1_doPawn b x3 x4 x5 M15) (fun M21 => some M21))))
  else (bv (p1_doWeek b M11) (fun M23 => some M23))))
  else (bd (p1_doRedeem b x3 M7) (fun r26 M25 => some M25))))))))
set_option maxHeartbeats 4000000 in
set_option maxRecDepth 100000 in
theorem c1_doByLot {l : Launch} {G : XG} {M' : SX} {M : SX} (b : Nat) (qb : isL b) (a1 : Int32) (hf : p1_doByLot b a1 M = some M') : Met l yX1_doByLot (.code yX1_doByLot cX1_doByLot 5 none :: TBL) (rmX 4) (xPc G ZX M [.ref (G.2.1 b), .int a1]) (xQv G ZX M') 0 0 (inA G ZX) := by
  refine x_met (cc := cX1_doByLot) (by decide) (Nat.le_of_ble_eq_true rfl) ?_
  intro p e s m below meth c ls F hr hk hl hw
  have F : Fx G ZX p m c cX1_doByLot 5 s [.ref (G.2.1 b), .int a1].toArray RX1 := F
  have hl : lv_has ls 5 [(0, .ref (G.2.1 b)), (1, .int a1)] := hl
  have hx := F.1.1
  have hb := F.1.2.1
  unfold p1_doByLot at hf
  refine lv_aload_n hx hb dX1_doByLot_0 rfl (lv_at hl 0 rfl) ?_
  refine g1_0 qb F hw tw_41 dX1_doByLot_1 ?_
  refine lv_if_ne (tgt := 8) hx hb dX1_doByLot_4 (by decide) (fun c1 => ?_) (fun c1 => ?_)
  · have hf := it_f hf c1
    refine lv_iload_n hx hb dX1_doByLot_8 rfl (lv_at hl 1 rfl) ?_
    refine lv_aload_n hx hb dX1_doByLot_9 rfl (lv_at hl 0 rfl) ?_
    refine g1_0 qb F hw tw_41 dX1_doByLot_10 ?_
    obtain ⟨g2, hf⟩ := gd_some hf
    refine lv_irem hx hb dX1_doByLot_13 (nz_ne g2) ?_
    obtain ⟨x3, ex3, hf⟩ := lt_elim hf
    refine x_let ex3 ?_
    refine lv_istore_n (lv' := [(2, .int x3), (0, .ref (G.2.1 b)), (1, .int a1)]) hx hb dX1_doByLot_14 rfl hl (by decide) rfl (fun ls hl => ?_)
    refine lv_iload_n hx hb dX1_doByLot_15 rfl (lv_at hl 2 rfl) ?_
    refine lv_bipush (v := 16) hx hb dX1_doByLot_16 (by decide) ?_
    refine lv_idiv hx hb dX1_doByLot_18 (by decide) ?_
    refine lv_aload_n hx hb dX1_doByLot_19 rfl (lv_at hl 1 rfl) ?_
    refine g1_0 qb F hw tw_41 dX1_doByLot_20 ?_
    refine lv_irem hx hb dX1_doByLot_23 (nz_ne g2) ?_
    obtain ⟨x4, ex4, hf⟩ := lt_elim hf
    refine x_let ex4 ?_
    refine lv_istore_n (lv' := [(3, .int x4), (2, .int x3), (0, .ref (G.2.1 b)), (1, .int a1)]) hx hb dX1_doByLot_24 rfl hl (by decide) rfl (fun ls hl => ?_)
    refine lv_iload_n hx hb dX1_doByLot_25 rfl (lv_at hl 3 rfl) ?_
    refine lv_sipush (v := 256) hx hb dX1_doByLot_26 (by decide) ?_
    refine lv_idiv hx hb dX1_doByLot_29 (by decide) ?_
    refine lv_bipush (v := 9) hx hb dX1_doByLot_30 (by decide) ?_
    refine lv_irem hx hb dX1_doByLot_32 (by decide) ?_
    refine lv_iconst (v := 1) hx hb dX1_doByLot_33 (by decide) ?_
    refine lv_iadd hx hb dX1_doByLot_34 ?_
    obtain ⟨x5, ex5, hf⟩ := lt_elim hf
    refine x_let ex5 ?_
    refine lv_istore (lv' := [(4, .int x5), (3, .int x4), (2, .int x3), (0, .ref (G.2.1 b)), (1, .int a1)]) hx hb dX1_doByLot_35 hl (by decide) rfl (fun ls hl => ?_)
    refine lv_aload_n hx hb dX1_doByLot_37 rfl (lv_at hl 3 rfl) ?_
    refine lv_iload_n hx hb dX1_doByLot_38 rfl (lv_at hl 2 rfl) ?_
    obtain ⟨r8, M7, hc6, hf⟩ := bd_some hf
    refine x_aftI hw (x_runV (rest := []) F hw hl.1 vw_RX1_103 (sL qb) rfl (c1_canRedeem b qb x3 hc6) rfl rfl (Nat.le_of_ble_eq_true rfl) ⟨Nat.le_of_ble_eq_true rfl, Nat.le_of_ble_eq_true rfl⟩ dX1_doByLot_39) (fun H locs hw => ?_)
    refine lv_if_eq (tgt := 54) hx hb dX1_doByLot_42 (by decide) (fun c9 => ?_) (fun c9 => ?_)
    · have hf := it_t hf c9
      refine lv_aload_n hx hb dX1_doByLot_54 rfl (lv_at hl 3 rfl) ?_
      refine lv_iload_n hx hb dX1_doByLot_55 rfl (lv_at hl 2 rfl) ?_
      obtain ⟨r12, M11, hc10, hf⟩ := bd_some hf
      refine x_aftI hw (x_runV (rest := []) F hw hl.1 vw_RX1_62 (sL qb) rfl (c1_isPawned b qb x3 hc10) rfl rfl (Nat.le_of_ble_eq_true rfl) ⟨Nat.le_of_ble_eq_true rfl, Nat.le_of_ble_eq_true rfl⟩ dX1_doByLot_56) (fun H locs hw => ?_)
      refine lv_if_eq (tgt := 69) hx hb dX1_doByLot_59 (by decide) (fun c13 => ?_) (fun c13 => ?_)
      · have hf := it_t hf c13
        refine lv_aload_n hx hb dX1_doByLot_69 rfl (lv_at hl 3 rfl) ?_
        refine lv_iload_n hx hb dX1_doByLot_70 rfl (lv_at hl 2 rfl) ?_
        refine lv_iload_n hx hb dX1_doByLot_71 rfl (lv_at hl 1 rfl) ?_
        refine lv_iload hx hb dX1_doByLot_72 (lv_at hl 0 rfl) ?_
        obtain ⟨r16, M15, hc14, hf⟩ := bd_some hf
        refine x_aftI hw (x_runV (rest := []) F hw hl.1 vw_RX1_113 (sL qb) rfl (c1_canPawn b qb x3 x4 x5 hc14) rfl rfl (Nat.le_of_ble_eq_true rfl) ⟨Nat.le_of_ble_eq_true rfl, Nat.le_of_ble_eq_true rfl⟩ dX1_doByLot_74) (fun H locs hw => ?_)
        refine lv_if_eq (tgt := 91) hx hb dX1_doByLot_77 (by decide) (fun c17 => ?_) (fun c17 => ?_)
        · have hf := it_t hf c17
          refine lv_aload_n hx hb dX1_doByLot_91 rfl (lv_at hl 3 rfl) ?_
          refine lv_iload_n hx hb dX1_doByLot_92 rfl (lv_at hl 2 rfl) ?_
          refine lv_iconst (v := 1) hx hb dX1_doByLot_93 (by decide) ?_
          obtain ⟨M19, hc18, hf⟩ := bv_some hf
          refine x_aftV hw (x_runV (rest := []) F hw hl.1 vw_RX1_120 (sL qb) rfl (c1_doGive b qb x3 1 hc18) rfl rfl (Nat.le_of_ble_eq_true rfl) ⟨Nat.le_of_ble_eq_true rfl, Nat.le_of_ble_eq_true rfl⟩ dX1_doByLot_94) (fun H locs hw => ?_)
          exact x_vret F hw hr hk hf dX1_doByLot_97
        · have hf := it_f hf c17
          refine lv_aload_n hx hb dX1_doByLot_80 rfl (lv_at hl 3 rfl) ?_
          refine lv_iload_n hx hb dX1_doByLot_81 rfl (lv_at hl 2 rfl) ?_
          refine lv_iload_n hx hb dX1_doByLot_82 rfl (lv_at hl 1 rfl) ?_
          refine lv_iload hx hb dX1_doByLot_83 (lv_at hl 0 rfl) ?_
          obtain ⟨M21, hc20, hf⟩ := bv_some hf
          refine x_aftV hw (x_runV (rest := []) F hw hl.1 vw_RX1_117 (sL qb) rfl (c1_doPawn b qb x3 x4 x5 hc20) rfl rfl (Nat.le_of_ble_eq_true rfl) ⟨Nat.le_of_ble_eq_true rfl, Nat.le_of_ble_eq_true rfl⟩ dX1_doByLot_85) (fun H locs hw => ?_)
          refine lv_goto (tgt := 97) hx hb dX1_doByLot_88 (by decide) ?_
          exact x_vret F hw hr hk hf dX1_doByLot_97
      · have hf := it_f hf c13
        refine lv_aload_n hx hb dX1_doByLot_62 rfl (lv_at hl 3 rfl) ?_
        obtain ⟨M23, hc22, hf⟩ := bv_some hf
        refine x_aftV hw (x_runV (rest := []) F hw hl.1 vw_RX1_110 (sL qb) rfl (c1_doWeek b qb hc22) rfl rfl (Nat.le_of_ble_eq_true rfl) ⟨Nat.le_of_ble_eq_true rfl, Nat.le_of_ble_eq_true rfl⟩ dX1_doByLot_63) (fun H locs hw => ?_)
        refine lv_goto (tgt := 97) hx hb dX1_doByLot_66 (by decide) ?_
        exact x_vret F hw hr hk hf dX1_doByLot_97
    · have hf := it_f hf c9
      refine lv_aload_n hx hb dX1_doByLot_45 rfl (lv_at hl 3 rfl) ?_
      refine lv_iload_n hx hb dX1_doByLot_46 rfl (lv_at hl 2 rfl) ?_
      obtain ⟨r26, M25, hc24, hf⟩ := bd_some hf
      refine x_aftI hw (x_runV (rest := []) F hw hl.1 vw_RX1_106 (sL qb) rfl (c1_doRedeem b qb x3 hc24) rfl rfl (Nat.le_of_ble_eq_true rfl) ⟨Nat.le_of_ble_eq_true rfl, Nat.le_of_ble_eq_true rfl⟩ dX1_doByLot_47) (fun H locs hw => ?_)
      refine lv_pop hx hb dX1_doByLot_50 rfl ?_
      refine lv_goto (tgt := 97) hx hb dX1_doByLot_51 (by decide) ?_
      exact x_vret F hw hr hk hf dX1_doByLot_97
  · have hf := it_t hf c1
    exact x_vret F hw hr hk hf dX1_doByLot_7
