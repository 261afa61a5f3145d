theorem dX6_doLot_0 : decode cX6_doLot 0 = .ok (.lload_n 1, 1) := by decide +kernel
theorem dX6_doLot_1 : decode cX6_doLot 1 = .ok (.aload_n 0, 1) := by decide +kernel
theorem dX6_doLot_2 : decode cX6_doLot 2 = .ok (.getfield 140, 3) := by decide +kernel
theorem dX6_doLot_5 : decode cX6_doLot 5 = .ok (.i2l, 1) := by decide +kernel
theorem dX6_doLot_6 : decode cX6_doLot 6 = .ok (.lrem, 1) := by decide +kernel
theorem dX6_doLot_7 : decode cX6_doLot 7 = .ok (.l2i, 1) := by decide +kernel
theorem dX6_doLot_8 : decode cX6_doLot 8 = .ok (.istore_n 3, 1) := by decide +kernel
theorem dX6_doLot_9 : decode cX6_doLot 9 = .ok (.lload_n 1, 1) := by decide +kernel
theorem dX6_doLot_10 : decode cX6_doLot 10 = .ok (.ldc2_w 256, 3) := by decide +kernel
theorem dX6_doLot_13 : decode cX6_doLot 13 = .ok (.ldiv, 1) := by decide +kernel
theorem dX6_doLot_14 : decode cX6_doLot 14 = .ok (.aload_n 0, 1) := by decide +kernel
theorem dX6_doLot_15 : decode cX6_doLot 15 = .ok (.getfield 140, 3) := by decide +kernel
theorem dX6_doLot_18 : decode cX6_doLot 18 = .ok (.i2l, 1) := by decide +kernel
theorem dX6_doLot_19 : decode cX6_doLot 19 = .ok (.lrem, 1) := by decide +kernel
theorem dX6_doLot_20 : decode cX6_doLot 20 = .ok (.l2i, 1) := by decide +kernel
theorem dX6_doLot_21 : decode cX6_doLot 21 = .ok (.istore 4, 2) := by decide +kernel
theorem dX6_doLot_23 : decode cX6_doLot 23 = .ok (.iconst 1, 1) := by decide +kernel
theorem dX6_doLot_24 : decode cX6_doLot 24 = .ok (.lload_n 1, 1) := by decide +kernel
theorem dX6_doLot_25 : decode cX6_doLot 25 = .ok (.ldc2_w 258, 3) := by decide +kernel
theorem dX6_doLot_28 : decode cX6_doLot 28 = .ok (.ldiv, 1) := by decide +kernel
theorem dX6_doLot_29 : decode cX6_doLot 29 = .ok (.ldc2_w 176, 3) := by decide +kernel
theorem dX6_doLot_32 : decode cX6_doLot 32 = .ok (.lrem, 1) := by decide +kernel
theorem dX6_doLot_33 : decode cX6_doLot 33 = .ok (.l2i, 1) := by decide +kernel
theorem dX6_doLot_34 : decode cX6_doLot 34 = .ok (.iadd, 1) := by decide +kernel
theorem dX6_doLot_35 : decode cX6_doLot 35 = .ok (.istore 5, 2) := by decide +kernel
theorem dX6_doLot_37 : decode cX6_doLot 37 = .ok (.aload_n 0, 1) := by decide +kernel
theorem dX6_doLot_38 : decode cX6_doLot 38 = .ok (.iload_n 3, 1) := by decide +kernel
theorem dX6_doLot_39 : decode cX6_doLot 39 = .ok (.invokevirtual 143, 3) := by decide +kernel
theorem dX6_doLot_42 : decode cX6_doLot 42 = .ok (.ifCond .eq 30, 3) := by decide +kernel
theorem dX6_doLot_45 : decode cX6_doLot 45 = .ok (.aload_n 0, 1) := by decide +kernel
theorem dX6_doLot_46 : decode cX6_doLot 46 = .ok (.invokevirtual 173, 3) := by decide +kernel
theorem dX6_doLot_49 : decode cX6_doLot 49 = .ok (.iload_n 3, 1) := by decide +kernel
theorem dX6_doLot_50 : decode cX6_doLot 50 = .ok (.invokestatic 181, 3) := by decide +kernel
theorem dX6_doLot_53 : decode cX6_doLot 53 = .ok (.ifCond .eq 12, 3) := by decide +kernel
theorem dX6_doLot_56 : decode cX6_doLot 56 = .ok (.aload_n 0, 1) := by decide +kernel
theorem dX6_doLot_57 : decode cX6_doLot 57 = .ok (.iload_n 3, 1) := by decide +kernel
theorem dX6_doLot_58 : decode cX6_doLot 58 = .ok (.invokevirtual 184, 3) := by decide +kernel
theorem dX6_doLot_61 : decode cX6_doLot 61 = .ok (.pop, 1) := by decide +kernel
theorem dX6_doLot_62 : decode cX6_doLot 62 = .ok (.goto 49, 3) := by decide +kernel
theorem dX6_doLot_65 : decode cX6_doLot 65 = .ok (.aload_n 0, 1) := by decide +kernel
theorem dX6_doLot_66 : decode cX6_doLot 66 = .ok (.invokevirtual 197, 3) := by decide +kernel
theorem dX6_doLot_69 : decode cX6_doLot 69 = .ok (.goto 42, 3) := by decide +kernel
theorem dX6_doLot_72 : decode cX6_doLot 72 = .ok (.iload 4, 2) := by decide +kernel
theorem dX6_doLot_74 : decode cX6_doLot 74 = .ok (.iload_n 3, 1) := by decide +kernel
theorem dX6_doLot_75 : decode cX6_doLot 75 = .ok (.if_icmp .eq 29, 3) := by decide +kernel
theorem dX6_doLot_78 : decode cX6_doLot 78 = .ok (.aload_n 0, 1) := by decide +kernel
theorem dX6_doLot_79 : decode cX6_doLot 79 = .ok (.getfield 7, 3) := by decide +kernel
theorem dX6_doLot_82 : decode cX6_doLot 82 = .ok (.iconst 1, 1) := by decide +kernel
theorem dX6_doLot_83 : decode cX6_doLot 83 = .ok (.iload 4, 2) := by decide +kernel
theorem dX6_doLot_85 : decode cX6_doLot 85 = .ok (.iadd, 1) := by decide +kernel
theorem dX6_doLot_86 : decode cX6_doLot 86 = .ok (.iaload, 1) := by decide +kernel
theorem dX6_doLot_87 : decode cX6_doLot 87 = .ok (.iload 5, 2) := by decide +kernel
theorem dX6_doLot_89 : decode cX6_doLot 89 = .ok (.if_icmp .lt 15, 3) := by decide +kernel
theorem dX6_doLot_92 : decode cX6_doLot 92 = .ok (.aload_n 0, 1) := by decide +kernel
theorem dX6_doLot_93 : decode cX6_doLot 93 = .ok (.iload_n 3, 1) := by decide +kernel
theorem dX6_doLot_94 : decode cX6_doLot 94 = .ok (.iload 4, 2) := by decide +kernel
theorem dX6_doLot_96 : decode cX6_doLot 96 = .ok (.iload 5, 2) := by decide +kernel
theorem dX6_doLot_98 : decode cX6_doLot 98 = .ok (.invokevirtual 187, 3) := by decide +kernel
theorem dX6_doLot_101 : decode cX6_doLot 101 = .ok (.goto 10, 3) := by decide +kernel
theorem dX6_doLot_104 : decode cX6_doLot 104 = .ok (.aload_n 0, 1) := by decide +kernel
theorem dX6_doLot_105 : decode cX6_doLot 105 = .ok (.iload_n 3, 1) := by decide +kernel
theorem dX6_doLot_106 : decode cX6_doLot 106 = .ok (.iconst 1, 1) := by decide +kernel
theorem dX6_doLot_107 : decode cX6_doLot 107 = .ok (.invokevirtual 205, 3) := by decide +kernel
theorem dX6_doLot_110 : decode cX6_doLot 110 = .ok (.pop, 1) := by decide +kernel
theorem dX6_doLot_111 : decode cX6_doLot 111 = .ok (.return_, 1) := by decide +kernel
def p6_doLot_104 (v3 : Int32) (M : SX) : Option SX :=
  bd (p6_doGive v3 1 M) (fun r3 M2 => some M2)
set_option maxHeartbeats 4000000 in
set_option maxRecDepth 100000 in
theorem w6_doLot_104 {G : XG} {p : Program} {l : Launch} {e : Env} {s : State} {m : MethodId} {args : Array Value} {below : List Frame} {meth : Method} {c : Code} (F : Fx G ZY p m c cX6_doLot 6 s args RX6) (hr : meth.sig.returnType = none) (hk : meth.locks = false) {M' : SX} : ∀ (v3 : Int32) (M : SX) (H : Heap) (locs : List Loc) (ls : Array Slot), Wld G ZY M s.heap H locs → lv_has ls 6 [(0, .ref (G.2.1 0)), (3, .int v3)] → p6_doLot_104 v3 M = some M' → WXv G ZY p l e 3 s m args below meth c M' H locs (F0 m 104 ls []) := by
  intro v3 M H locs ls hw hl hf
  have hx := F.1.1
  have hb := F.1.2.1
  unfold p6_doLot_104 at hf
  refine lv_aload_n hx hb dX6_doLot_104 rfl (lv_at hl 0 rfl) ?_
  refine lv_iload_n hx hb dX6_doLot_105 rfl (lv_at hl 1 rfl) ?_
  refine lv_iconst (v := 1) hx hb dX6_doLot_106 (by decide) ?_
  obtain ⟨r3, M2, hc1, hf⟩ := bd_some hf
  refine x_aftI hw (x_runV (rest := []) F hw hl.1 vw_RX6_205 (sM) rfl (c6_doGive v3 1 hc1) rfl rfl (Nat.le_of_ble_eq_true rfl) ⟨Nat.le_of_ble_eq_true rfl, Nat.le_of_ble_eq_true rfl⟩ dX6_doLot_107) (fun H locs hw => ?_)
  refine lv_pop hx hb dX6_doLot_110 rfl ?_
  exact x_vret F hw hr hk hf dX6_doLot_111
def p6_doLot (a1 : Int64) (M : SX) : Option SX :=
  gd (nzL (Int32.toInt64 (M.1 0 1))) ( lt_ (Int64.toInt32 (a1 - a1 / (Int32.toInt64 (M.1 0 1)) * (Int32.toInt64 (M.1 0 1)))) (fun x2 => lt_ (Int64.toInt32 ((a1 / 16) - (a1 / 16) / (Int32.toInt64 (M.1 0 1)) * (Int32.toInt64 (M.1 0 1)))) (fun x3 => lt_ (1 + (Int64.toInt32 ((a1 / 256) - (a1 / 256) / 9 * 9))) (fun x4 => bd (p6_isPawned x2 M) (fun r7 M6 => if r7 = 0 then (if x3 = x2 then (p6_doLot_104 x2 M6)
  else (gd (bIn (1 + x3) 3964) ( if (M6.1 1 (Int32.toNatClampNeg (1 + x3))) < x4 then (p6_doLot_104 x2 M6)
  else (bv (p6_doPawn x2 x3 x4 M6) (fun M13 => some M13)))))
  else (bd (p6_canNow M6) (fun r16 M15 => bd (p6_has r16 x2 M15) (fun r19 M18 => if r19 = 0 then (bv (p6_doWeek M18) (fun M22 => some M22))
  else (bd (p6_doRedeem x2 M18) (fun r25 M24 => some M24))))))))))
set_option maxHeartbeats 4000000 in
set_option maxRecDepth 100000 in
theorem c6_doLot {l : Launch} {G : XG} {M' : SX} {M : SX} (a1 : Int64) (hf : p6_doLot a1 M = some M') : Met l yX6_doLot (.code yX6_doLot cX6_doLot 6 none :: TBL) (rmX 3) (xPc G ZY M [.ref (G.2.1 0), .long a1]) (xQv G ZY M') 0 0 (inA G ZY) := by
  refine x_met (cc := cX6_doLot) (by decide) (Nat.le_of_ble_eq_true rfl) ?_
  intro p e s m below meth c ls F hr hk hl hw
  have F : Fx G ZY p m c cX6_doLot 6 s [.ref (G.2.1 0), .long a1].toArray RX6 := F
  have hl : lv_has ls 6 [(0, .ref (G.2.1 0)), (1, .long a1)] := hl
  have hx := F.1.1
  have hb := F.1.2.1
  unfold p6_doLot at hf
  refine lv_lload_n hx hb dX6_doLot_0 rfl (lv_at hl 1 rfl) ?_
  refine lv_aload_n hx hb dX6_doLot_1 rfl (lv_at hl 0 rfl) ?_
  refine g6_1 F hw tw_611 dX6_doLot_2 ?_
  refine lv_i2l (v := Int32.toInt64 (M.1 0 1)) hx hb dX6_doLot_5 rfl ?_
  obtain ⟨g1, hf⟩ := gd_some hf
  refine lv_lrem hx hb dX6_doLot_6 (nzL_ne g1) ?_
  refine lv_l2i (v := Int64.toInt32 (a1 - a1 / (Int32.toInt64 (M.1 0 1)) * (Int32.toInt64 (M.1 0 1)))) hx hb dX6_doLot_7 rfl ?_
  obtain ⟨x2, ex2, hf⟩ := lt_elim hf
  refine x_let ex2 ?_
  refine lv_istore_n (lv' := [(3, .int x2), (0, .ref (G.2.1 0)), (1, .long a1)]) hx hb dX6_doLot_8 rfl hl (by decide) rfl (fun ls hl => ?_)
  refine lv_lload_n hx hb dX6_doLot_9 rfl (lv_at hl 2 rfl) ?_
  refine lv_ldc2 (v := 16) hx hb F.1.2.2.2.1 (F.1.2.2.2.2 _ tw_829) dX6_doLot_10 ?_
  refine lv_ldiv hx hb dX6_doLot_13 (by decide) ?_
  refine lv_aload_n hx hb dX6_doLot_14 rfl (lv_at hl 1 rfl) ?_
  refine g6_1 F hw tw_611 dX6_doLot_15 ?_
  refine lv_i2l (v := Int32.toInt64 (M.1 0 1)) hx hb dX6_doLot_18 rfl ?_
  refine lv_lrem hx hb dX6_doLot_19 (nzL_ne g1) ?_
  refine lv_l2i (v := Int64.toInt32 ((a1 / 16) - (a1 / 16) / (Int32.toInt64 (M.1 0 1)) * (Int32.toInt64 (M.1 0 1)))) hx hb dX6_doLot_20 rfl ?_
  obtain ⟨x3, ex3, hf⟩ := lt_elim hf
  refine x_let ex3 ?_
  refine lv_istore (lv' := [(4, .int x3), (3, .int x2), (0, .ref (G.2.1 0)), (1, .long a1)]) hx hb dX6_doLot_21 hl (by decide) rfl (fun ls hl => ?_)
  refine lv_iconst (v := 1) hx hb dX6_doLot_23 (by decide) ?_
  refine lv_lload_n hx hb dX6_doLot_24 rfl (lv_at hl 3 rfl) ?_
  refine lv_ldc2 (v := 256) hx hb F.1.2.2.2.1 (F.1.2.2.2.2 _ tw_830) dX6_doLot_25 ?_
  refine lv_ldiv hx hb dX6_doLot_28 (by decide) ?_
  refine lv_ldc2 (v := 9) hx hb F.1.2.2.2.1 (F.1.2.2.2.2 _ tw_711) dX6_doLot_29 ?_
  refine lv_lrem hx hb dX6_doLot_32 (by decide) ?_
  refine lv_l2i (v := Int64.toInt32 ((a1 / 256) - (a1 / 256) / 9 * 9)) hx hb dX6_doLot_33 rfl ?_
  refine lv_iadd hx hb dX6_doLot_34 ?_
  obtain ⟨x4, ex4, hf⟩ := lt_elim hf
  refine x_let ex4 ?_
  refine lv_istore (lv' := [(5, .int x4), (4, .int x3), (3, .int x2), (0, .ref (G.2.1 0)), (1, .long a1)]) hx hb dX6_doLot_35 hl (by decide) rfl (fun ls hl => ?_)
  refine lv_aload_n hx hb dX6_doLot_37 rfl (lv_at hl 3 rfl) ?_
  refine lv_iload_n hx hb dX6_doLot_38 rfl (lv_at hl 2 rfl) ?_
  obtain ⟨r7, M6, hc5, hf⟩ := bd_some hf
  refine x_aftI hw (x_runV (rest := []) F hw hl.1 vw_RX6_143 (sM) rfl (c6_isPawned x2 hc5) rfl rfl (Nat.le_of_ble_eq_true rfl) ⟨Nat.le_of_ble_eq_true rfl, Nat.le_of_ble_eq_true rfl⟩ dX6_doLot_39) (fun H locs hw => ?_)
  refine lv_if_eq (tgt := 72) hx hb dX6_doLot_42 (by decide) (fun c8 => ?_) (fun c8 => ?_)
  · have hf := it_t hf c8
    refine lv_iload hx hb dX6_doLot_72 (lv_at hl 1 rfl) ?_
    refine lv_iload_n hx hb dX6_doLot_74 rfl (lv_at hl 2 rfl) ?_
    refine lv_icmp_eq (tgt := 104) hx hb dX6_doLot_75 (by decide) (fun c9 => ?_) (fun c9 => ?_)
    · have hf := it_t hf c9
      exact w6_doLot_104 F hr hk x2 M6 _ _ ls hw (lv_sub hl [3, 2] rfl) hf
    · have hf := it_f hf c9
      refine lv_aload_n hx hb dX6_doLot_78 rfl (lv_at hl 3 rfl) ?_
      refine g6_0 F hw tw_610 dX6_doLot_79 ?_
      refine lv_iconst (v := 1) hx hb dX6_doLot_82 (by decide) ?_
      refine lv_iload hx hb dX6_doLot_83 (lv_at hl 1 rfl) ?_
      refine lv_iadd hx hb dX6_doLot_85 ?_
      obtain ⟨g10, hf⟩ := gd_some hf
      refine x_iald F hw sM1 g10 dX6_doLot_86 ?_
      refine lv_iload hx hb dX6_doLot_87 (lv_at hl 0 rfl) ?_
      refine lv_icmp_lt (tgt := 104) hx hb dX6_doLot_89 (by decide) (fun c11 => ?_) (fun c11 => ?_)
      · have hf := it_t hf c11
        exact w6_doLot_104 F hr hk x2 M6 _ _ ls hw (lv_sub hl [3, 2] rfl) hf
      · have hf := it_f hf c11
        refine lv_aload_n hx hb dX6_doLot_92 rfl (lv_at hl 3 rfl) ?_
        refine lv_iload_n hx hb dX6_doLot_93 rfl (lv_at hl 2 rfl) ?_
        refine lv_iload hx hb dX6_doLot_94 (lv_at hl 1 rfl) ?_
        refine lv_iload hx hb dX6_doLot_96 (lv_at hl 0 rfl) ?_
        obtain ⟨M13, hc12, hf⟩ := bv_some hf
        refine x_aftV hw (x_runV (rest := []) F hw hl.1 vw_RX6_187 (sM) rfl (c6_doPawn x2 x3 x4 hc12) rfl rfl (Nat.le_of_ble_eq_true rfl) ⟨Nat.le_of_ble_eq_true rfl, Nat.le_of_ble_eq_true rfl⟩ dX6_doLot_98) (fun H locs hw => ?_)
        refine lv_goto (tgt := 111) hx hb dX6_doLot_101 (by decide) ?_
        exact x_vret F hw hr hk hf dX6_doLot_111
  · have hf := it_f hf c8
    refine lv_aload_n hx hb dX6_doLot_45 rfl (lv_at hl 3 rfl) ?_
    obtain ⟨r16, M15, hc14, hf⟩ := bd_some hf
    refine x_aftI hw (x_runV (rest := []) F hw hl.1 vw_RX6_173 (sM) rfl (c6_canNow hc14) rfl rfl (Nat.le_of_ble_eq_true rfl) ⟨Nat.le_of_ble_eq_true rfl, Nat.le_of_ble_eq_true rfl⟩ dX6_doLot_46) (fun H locs hw => ?_)
    refine lv_iload_n hx hb dX6_doLot_49 rfl (lv_at hl 2 rfl) ?_
    obtain ⟨r19, M18, hc17, hf⟩ := bd_some hf
    refine x_aftI hw (x_runS (rest := []) F hw hl.1 sw_RX6_181 (c6_has r16 x2 hc17) rfl rfl (Nat.le_of_ble_eq_true rfl) ⟨Nat.le_of_ble_eq_true rfl, Nat.le_of_ble_eq_true rfl⟩ dX6_doLot_50) (fun H locs hw => ?_)
    refine lv_if_eq (tgt := 65) hx hb dX6_doLot_53 (by decide) (fun c20 => ?_) (fun c20 => ?_)
    · have hf := it_t hf c20
      refine lv_aload_n hx hb dX6_doLot_65 rfl (lv_at hl 3 rfl) ?_
      obtain ⟨M22, hc21, hf⟩ := bv_some hf
      refine x_aftV hw (x_runV (rest := []) F hw hl.1 vw_RX6_197 (sM) rfl (c6_doWeek hc21) rfl rfl (Nat.le_of_ble_eq_true rfl) ⟨Nat.le_of_ble_eq_true rfl, Nat.le_of_ble_eq_true rfl⟩ dX6_doLot_66) (fun H locs hw => ?_)
      refine lv_goto (tgt := 111) hx hb dX6_doLot_69 (by decide) ?_
      exact x_vret F hw hr hk hf dX6_doLot_111
    · have hf := it_f hf c20
      refine lv_aload_n hx hb dX6_doLot_56 rfl (lv_at hl 3 rfl) ?_
      refine lv_iload_n hx hb dX6_doLot_57 rfl (lv_at hl 2 rfl) ?_
      obtain ⟨r25, M24, hc23, hf⟩ := bd_some hf
      refine x_aftI hw (x_runV (rest := []) F hw hl.1 vw_RX6_184 (sM) rfl (c6_doRedeem x2 hc23) rfl rfl (Nat.le_of_ble_eq_true rfl) ⟨Nat.le_of_ble_eq_true rfl, Nat.le_of_ble_eq_true rfl⟩ dX6_doLot_58) (fun H locs hw => ?_)
      refine lv_pop hx hb dX6_doLot_61 rfl ?_
      refine lv_goto (tgt := 111) hx hb dX6_doLot_62 (by decide) ?_
      exact x_vret F hw hr hk hf dX6_doLot_111
theorem dX6_countOf_0 : decode cX6_countOf 0 = .ok (.iload_n 1, 1) := by decide +kernel
theorem dX6_countOf_1 : decode cX6_countOf 1 = .ok (.tableswitch 74 0 5 #[39, 44, 52, 59, 64, 69], 39) := by decide +kernel
theorem dX6_countOf_40 : decode cX6_countOf 40 = .ok (.aload_n 0, 1) := by decide +kernel
theorem dX6_countOf_41 : decode cX6_countOf 41 = .ok (.getfield 140, 3) := by decide +kernel
theorem dX6_countOf_44 : decode cX6_countOf 44 = .ok (.ireturn, 1) := by decide +kernel
theorem dX6_countOf_45 : decode cX6_countOf 45 = .ok (.aload_n 0, 1) := by decide +kernel
theorem dX6_countOf_46 : decode cX6_countOf 46 = .ok (.invokevirtual 191, 3) := by decide +kernel
theorem dX6_countOf_49 : decode cX6_countOf 49 = .ok (.invokestatic 170, 3) := by decide +kernel
theorem dX6_countOf_52 : decode cX6_countOf 52 = .ok (.ireturn, 1) := by decide +kernel
theorem dX6_countOf_53 : decode cX6_countOf 53 = .ok (.aload_n 0, 1) := by decide +kernel
theorem dX6_countOf_54 : decode cX6_countOf 54 = .ok (.getfield 7, 3) := by decide +kernel
theorem dX6_countOf_57 : decode cX6_countOf 57 = .ok (.iconst 0, 1) := by decide +kernel
theorem dX6_countOf_58 : decode cX6_countOf 58 = .ok (.iaload, 1) := by decide +kernel
theorem dX6_countOf_59 : decode cX6_countOf 59 = .ok (.ireturn, 1) := by decide +kernel
theorem dX6_countOf_60 : decode cX6_countOf 60 = .ok (.aload_n 0, 1) := by decide +kernel
theorem dX6_countOf_61 : decode cX6_countOf 61 = .ok (.invokevirtual 272, 3) := by decide +kernel
theorem dX6_countOf_64 : decode cX6_countOf 64 = .ok (.ireturn, 1) := by decide +kernel
theorem dX6_countOf_65 : decode cX6_countOf 65 = .ok (.aload_n 0, 1) := by decide +kernel
theorem dX6_countOf_66 : decode cX6_countOf 66 = .ok (.invokevirtual 200, 3) := by decide +kernel
theorem dX6_countOf_69 : decode cX6_countOf 69 = .ok (.ireturn, 1) := by decide +kernel
theorem dX6_countOf_70 : decode cX6_countOf 70 = .ok (.aload_n 0, 1) := by decide +kernel
theorem dX6_countOf_71 : decode cX6_countOf 71 = .ok (.invokevirtual 275, 3) := by decide +kernel
theorem dX6_countOf_74 : decode cX6_countOf 74 = .ok (.ireturn, 1) := by decide +kernel
theorem dX6_countOf_75 : decode cX6_countOf 75 = .ok (.aload_n 0, 1) := by decide +kernel
theorem dX6_countOf_76 : decode cX6_countOf 76 = .ok (.iload_n 1, 1) := by decide +kernel
theorem dX6_countOf_77 : decode cX6_countOf 77 = .ok (.invokevirtual 278, 3) := by decide +kernel
theorem dX6_countOf_80 : decode cX6_countOf 80 = .ok (.ireturn, 1) := by decide +kernel
def p6_countOf (a1 : Int32) (M : SX) : Option (Int32 × SX) :=
  if a1 = 0 then (some (M.1 0 1, M))
  else (if a1 = 1 then (bd (p6_pawned M) (fun r5 M4 => bd (p6_bits r5 M4) (fun r8 M7 => some (r8, M7))))
  else (if a1 = 2 then (gd (bIn 0 3964) ( some (M.1 1 (Int32.toNatClampNeg 0), M)))
  else (if a1 = 3 then (bd (p6_cashOfAll M) (fun r14 M13 => some (r14, M13)))
  else (if a1 = 4 then (bd (p6_dueInAll M) (fun r18 M17 => some (r18, M17)))
  else (if a1 = 5 then (bd (p6_hawks M) (fun r22 M21 => some (r22, M21)))
  else (bd (p6_thereOf a1 M) (fun r25 M24 => some (r25, M24))))))))
set_option maxHeartbeats 4000000 in
set_option maxRecDepth 100000 in
theorem c6_countOf {l : Launch} {G : XG} {r : Int32} {M' : SX} {M : SX} (a1 : Int32) (hf : p6_countOf a1 M = some (r, M')) : Met l yX6_countOf (.code yX6_countOf cX6_countOf 2 (some .int) :: TBL) (rmX 3) (xPc G ZY M [.ref (G.2.1 0), .int a1]) (xQi G ZY r M') 0 0 (inA G ZY) := by
  refine x_met (cc := cX6_countOf) (by decide) (Nat.le_of_ble_eq_true rfl) ?_
  intro p e s m below meth c ls F hr hk hl hw
  have F : Fx G ZY p m c cX6_countOf 2 s [.ref (G.2.1 0), .int a1].toArray RX6 := F
  have hl : lv_has ls 2 [(0, .ref (G.2.1 0)), (1, .int a1)] := hl
  have hx := F.1.1
  have hb := F.1.2.1
  unfold p6_countOf at hf
  refine lv_iload_n hx hb dX6_countOf_0 rfl (lv_at hl 1 rfl) ?_
  by_cases c1 : a1 = 0
  · have hf := it_t hf c1
    refine lv_tableIn (tgt := 40) hx hb dX6_countOf_1 (by rw [c1]; decide) (by rw [c1]; decide) (by rw [c1]; rfl) (by decide) ?_
    refine lv_aload_n hx hb dX6_countOf_40 rfl (lv_at hl 0 rfl) ?_
    refine g6_1 F hw tw_611 dX6_countOf_41 ?_
    exact x_iret F hw hr hk hf dX6_countOf_44
  · have hf := it_f hf c1
    by_cases c2 : a1 = 1
    · have hf := it_t hf c2
      refine lv_tableIn (tgt := 45) hx hb dX6_countOf_1 (by rw [c2]; decide) (by rw [c2]; decide) (by rw [c2]; rfl) (by decide) ?_
      refine lv_aload_n hx hb dX6_countOf_45 rfl (lv_at hl 0 rfl) ?_
      obtain ⟨r5, M4, hc3, hf⟩ := bd_some hf
      refine x_aftI hw (x_runV (rest := []) F hw hl.1 vw_RX6_191 (sM) rfl (c6_pawned hc3) rfl rfl (Nat.le_of_ble_eq_true rfl) ⟨Nat.le_of_ble_eq_true rfl, Nat.le_of_ble_eq_true rfl⟩ dX6_countOf_46) (fun H locs hw => ?_)
      obtain ⟨r8, M7, hc6, hf⟩ := bd_some hf
      refine x_aftI hw (x_runS (rest := []) F hw hl.1 sw_RX6_170 (c6_bits r5 hc6) rfl rfl (Nat.le_of_ble_eq_true rfl) ⟨Nat.le_of_ble_eq_true rfl, Nat.le_of_ble_eq_true rfl⟩ dX6_countOf_49) (fun H locs hw => ?_)
      exact x_iret F hw hr hk hf dX6_countOf_52
    · have hf := it_f hf c2
      by_cases c9 : a1 = 2
      · have hf := it_t hf c9
        refine lv_tableIn (tgt := 53) hx hb dX6_countOf_1 (by rw [c9]; decide) (by rw [c9]; decide) (by rw [c9]; rfl) (by decide) ?_
        refine lv_aload_n hx hb dX6_countOf_53 rfl (lv_at hl 0 rfl) ?_
        refine g6_0 F hw tw_610 dX6_countOf_54 ?_
        refine lv_iconst (v := 0) hx hb dX6_countOf_57 (by decide) ?_
        obtain ⟨g10, hf⟩ := gd_some hf
        refine x_iald F hw sM1 g10 dX6_countOf_58 ?_
        exact x_iret F hw hr hk hf dX6_countOf_59
      · have hf := it_f hf c9
        by_cases c11 : a1 = 3
        · have hf := it_t hf c11
          refine lv_tableIn (tgt := 60) hx hb dX6_countOf_1 (by rw [c11]; decide) (by rw [c11]; decide) (by rw [c11]; rfl) (by decide) ?_
          refine lv_aload_n hx hb dX6_countOf_60 rfl (lv_at hl 0 rfl) ?_
          obtain ⟨r14, M13, hc12, hf⟩ := bd_some hf
          refine x_aftI hw (x_runV (rest := []) F hw hl.1 vw_RX6_272 (sM) rfl (c6_cashOfAll hc12) rfl rfl (Nat.le_of_ble_eq_true rfl) ⟨Nat.le_of_ble_eq_true rfl, Nat.le_of_ble_eq_true rfl⟩ dX6_countOf_61) (fun H locs hw => ?_)
          exact x_iret F hw hr hk hf dX6_countOf_64
        · have hf := it_f hf c11
          by_cases c15 : a1 = 4
          · have hf := it_t hf c15
            refine lv_tableIn (tgt := 65) hx hb dX6_countOf_1 (by rw [c15]; decide) (by rw [c15]; decide) (by rw [c15]; rfl) (by decide) ?_
            refine lv_aload_n hx hb dX6_countOf_65 rfl (lv_at hl 0 rfl) ?_
            obtain ⟨r18, M17, hc16, hf⟩ := bd_some hf
            refine x_aftI hw (x_runV (rest := []) F hw hl.1 vw_RX6_200 (sM) rfl (c6_dueInAll hc16) rfl rfl (Nat.le_of_ble_eq_true rfl) ⟨Nat.le_of_ble_eq_true rfl, Nat.le_of_ble_eq_true rfl⟩ dX6_countOf_66) (fun H locs hw => ?_)
            exact x_iret F hw hr hk hf dX6_countOf_69
          · have hf := it_f hf c15
            by_cases c19 : a1 = 5
            · have hf := it_t hf c19
              refine lv_tableIn (tgt := 70) hx hb dX6_countOf_1 (by rw [c19]; decide) (by rw [c19]; decide) (by rw [c19]; rfl) (by decide) ?_
              refine lv_aload_n hx hb dX6_countOf_70 rfl (lv_at hl 0 rfl) ?_
              obtain ⟨r22, M21, hc20, hf⟩ := bd_some hf
              refine x_aftI hw (x_runV (rest := []) F hw hl.1 vw_RX6_275 (sM) rfl (c6_hawks hc20) rfl rfl (Nat.le_of_ble_eq_true rfl) ⟨Nat.le_of_ble_eq_true rfl, Nat.le_of_ble_eq_true rfl⟩ dX6_countOf_71) (fun H locs hw => ?_)
              exact x_iret F hw hr hk hf dX6_countOf_74
            · have hf := it_f hf c19
              have nc1 := x_ne (k := 0) (0) rfl c1
              have nc2 := x_ne (k := 1) (1) rfl c2
              have nc9 := x_ne (k := 2) (2) rfl c9
              have nc11 := x_ne (k := 3) (3) rfl c11
              have nc15 := x_ne (k := 4) (4) rfl c15
              have nc19 := x_ne (k := 5) (5) rfl c19
              refine lv_tableOut (tgt := 75) hx hb dX6_countOf_1 (by omega) (by decide) ?_
              refine lv_aload_n hx hb dX6_countOf_75 rfl (lv_at hl 0 rfl) ?_
              refine lv_iload_n hx hb dX6_countOf_76 rfl (lv_at hl 1 rfl) ?_
              obtain ⟨r25, M24, hc23, hf⟩ := bd_some hf
              refine x_aftI hw (x_runV (rest := []) F hw hl.1 vw_RX6_278 (sM) rfl (c6_thereOf a1 hc23) rfl rfl (Nat.le_of_ble_eq_true rfl) ⟨Nat.le_of_ble_eq_true rfl, Nat.le_of_ble_eq_true rfl⟩ dX6_countOf_77) (fun H locs hw => ?_)
              exact x_iret F hw hr hk hf dX6_countOf_80
theorem dX6_fault_0 : decode cX6_fault 0 = .ok (.iload_n 1, 1) := by decide +kernel
theorem dX6_fault_1 : decode cX6_fault 1 = .ok (.invokestatic 98, 3) := by decide +kernel
theorem dX6_fault_4 : decode cX6_fault 4 = .ok (.ifCond .ne 5, 3) := by decide +kernel
theorem dX6_fault_7 : decode cX6_fault 7 = .ok (.iconst (-1), 1) := by decide +kernel
theorem dX6_fault_8 : decode cX6_fault 8 = .ok (.ireturn, 1) := by decide +kernel
theorem dX6_fault_9 : decode cX6_fault 9 = .ok (.aload_n 0, 1) := by decide +kernel
theorem dX6_fault_10 : decode cX6_fault 10 = .ok (.getfield 22, 3) := by decide +kernel
theorem dX6_fault_13 : decode cX6_fault 13 = .ok (.iload_n 1, 1) := by decide +kernel
theorem dX6_fault_14 : decode cX6_fault 14 = .ok (.iaload, 1) := by decide +kernel
theorem dX6_fault_15 : decode cX6_fault 15 = .ok (.ifCond .ge 11, 3) := by decide +kernel
theorem dX6_fault_18 : decode cX6_fault 18 = .ok (.aload_n 0, 1) := by decide +kernel
theorem dX6_fault_19 : decode cX6_fault 19 = .ok (.iconst 1, 1) := by decide +kernel
theorem dX6_fault_20 : decode cX6_fault 20 = .ok (.invokevirtual 79, 3) := by decide +kernel
theorem dX6_fault_23 : decode cX6_fault 23 = .ok (.goto 8, 3) := by decide +kernel
theorem dX6_fault_26 : decode cX6_fault 26 = .ok (.aload_n 0, 1) := by decide +kernel
theorem dX6_fault_27 : decode cX6_fault 27 = .ok (.iload_n 1, 1) := by decide +kernel
theorem dX6_fault_28 : decode cX6_fault 28 = .ok (.invokevirtual 137, 3) := by decide +kernel
theorem dX6_fault_31 : decode cX6_fault 31 = .ok (.ireturn, 1) := by decide +kernel
def p6_fault (a1 : Int32) (M : SX) : Option (Int32 × SX) :=
  bd (p6_isText a1 M) (fun r3 M2 => if r3 = 0 then (some ((-1), M2))
  else (gd (bIn a1 4) ( if 0 ≤ (M2.1 5 (Int32.toNatClampNeg a1)) then (bd (p6_faultOf a1 M2) (fun r9 M8 => some (r9, M8)))
  else (bd (p6_find 1 M2) (fun r12 M11 => some (r12, M11))))))
set_option maxHeartbeats 4000000 in
set_option maxRecDepth 100000 in
theorem c6_fault {l : Launch} {G : XG} {r : Int32} {M' : SX} {M : SX} (a1 : Int32) (hf : p6_fault a1 M = some (r, M')) : Met l yX6_fault (.code yX6_fault cX6_fault 2 (some .int) :: TBL) (rmX 4) (xPc G ZY M [.ref (G.2.1 0), .int a1]) (xQi G ZY r M') 0 0 (inA G ZY) := by
  refine x_met (cc := cX6_fault) (by decide) (Nat.le_of_ble_eq_true rfl) ?_
  intro p e s m below meth c ls F hr hk hl hw
  have F : Fx G ZY p m c cX6_fault 2 s [.ref (G.2.1 0), .int a1].toArray RX6 := F
  have hl : lv_has ls 2 [(0, .ref (G.2.1 0)), (1, .int a1)] := hl
  have hx := F.1.1
  have hb := F.1.2.1
  unfold p6_fault at hf
  refine lv_iload_n hx hb dX6_fault_0 rfl (lv_at hl 1 rfl) ?_
  obtain ⟨r3, M2, hc1, hf⟩ := bd_some hf
  refine x_aftI hw (x_runS (rest := []) F hw hl.1 sw_RX6_98 (c6_isText a1 hc1) rfl rfl (Nat.le_of_ble_eq_true rfl) ⟨Nat.le_of_ble_eq_true rfl, Nat.le_of_ble_eq_true rfl⟩ dX6_fault_1) (fun H locs hw => ?_)
  refine lv_if_ne (tgt := 9) hx hb dX6_fault_4 (by decide) (fun c4 => ?_) (fun c4 => ?_)
  · have hf := it_f hf c4
    refine lv_aload_n hx hb dX6_fault_9 rfl (lv_at hl 0 rfl) ?_
    refine g6_5 F hw tw_615 dX6_fault_10 ?_
    refine lv_iload_n hx hb dX6_fault_13 rfl (lv_at hl 1 rfl) ?_
    obtain ⟨g5, hf⟩ := gd_some hf
    refine x_iald F hw sM5 g5 dX6_fault_14 ?_
    refine lv_if_ge (tgt := 26) hx hb dX6_fault_15 (by decide) (fun c6 => ?_) (fun c6 => ?_)
    · have hf := it_t hf c6
      refine lv_aload_n hx hb dX6_fault_26 rfl (lv_at hl 0 rfl) ?_
      refine lv_iload_n hx hb dX6_fault_27 rfl (lv_at hl 1 rfl) ?_
      obtain ⟨r9, M8, hc7, hf⟩ := bd_some hf
      refine x_aftI hw (x_runV (rest := []) F hw hl.1 vw_RX6_137 (sM) rfl (c6_faultOf a1 hc7) rfl rfl (Nat.le_of_ble_eq_true rfl) ⟨Nat.le_of_ble_eq_true rfl, Nat.le_of_ble_eq_true rfl⟩ dX6_fault_28) (fun H locs hw => ?_)
      exact x_iret F hw hr hk hf dX6_fault_31
    · have hf := it_f hf c6
      refine lv_aload_n hx hb dX6_fault_18 rfl (lv_at hl 0 rfl) ?_
      refine lv_iconst (v := 1) hx hb dX6_fault_19 (by decide) ?_
      obtain ⟨r12, M11, hc10, hf⟩ := bd_some hf
      refine x_aftI hw (x_runV (rest := []) F hw hl.1 vw_RX6_79 (sM) rfl (c6_find 1 hc10) rfl rfl (Nat.le_of_ble_eq_true rfl) ⟨Nat.le_of_ble_eq_true rfl, Nat.le_of_ble_eq_true rfl⟩ dX6_fault_20) (fun H locs hw => ?_)
      refine lv_goto (tgt := 31) hx hb dX6_fault_23 (by decide) ?_
      exact x_iret F hw hr hk hf dX6_fault_31
  · have hf := it_t hf c4
    refine lv_iconst (v := (-1)) hx hb dX6_fault_7 (by decide) ?_
    exact x_iret F hw hr hk hf dX6_fault_8
theorem dX6_lane_0 : decode cX6_lane 0 = .ok (.iload_n 1, 1) := by decide +kernel
theorem dX6_lane_1 : decode cX6_lane 1 = .ok (.invokestatic 98, 3) := by decide +kernel
theorem dX6_lane_4 : decode cX6_lane 4 = .ok (.ifCond .ne 5, 3) := by decide +kernel
theorem dX6_lane_7 : decode cX6_lane 7 = .ok (.iconst (-1), 1) := by decide +kernel
theorem dX6_lane_8 : decode cX6_lane 8 = .ok (.ireturn, 1) := by decide +kernel
theorem dX6_lane_9 : decode cX6_lane 9 = .ok (.aload_n 0, 1) := by decide +kernel
theorem dX6_lane_10 : decode cX6_lane 10 = .ok (.getfield 22, 3) := by decide +kernel
theorem dX6_lane_13 : decode cX6_lane 13 = .ok (.iload_n 1, 1) := by decide +kernel
theorem dX6_lane_14 : decode cX6_lane 14 = .ok (.iaload, 1) := by decide +kernel
theorem dX6_lane_15 : decode cX6_lane 15 = .ok (.ifCond .ge 9, 3) := by decide +kernel
theorem dX6_lane_18 : decode cX6_lane 18 = .ok (.aload_n 0, 1) := by decide +kernel
theorem dX6_lane_19 : decode cX6_lane 19 = .ok (.iconst 1, 1) := by decide +kernel
theorem dX6_lane_20 : decode cX6_lane 20 = .ok (.invokevirtual 79, 3) := by decide +kernel
theorem dX6_lane_23 : decode cX6_lane 23 = .ok (.ireturn, 1) := by decide +kernel
theorem dX6_lane_24 : decode cX6_lane 24 = .ok (.aload_n 0, 1) := by decide +kernel
theorem dX6_lane_25 : decode cX6_lane 25 = .ok (.iload_n 1, 1) := by decide +kernel
theorem dX6_lane_26 : decode cX6_lane 26 = .ok (.invokevirtual 137, 3) := by decide +kernel
theorem dX6_lane_29 : decode cX6_lane 29 = .ok (.bipush (-9), 2) := by decide +kernel
theorem dX6_lane_31 : decode cX6_lane 31 = .ok (.if_icmp .eq 6, 3) := by decide +kernel
theorem dX6_lane_34 : decode cX6_lane 34 = .ok (.bipush (-4), 2) := by decide +kernel
theorem dX6_lane_36 : decode cX6_lane 36 = .ok (.ireturn, 1) := by decide +kernel
theorem dX6_lane_37 : decode cX6_lane 37 = .ok (.aload_n 0, 1) := by decide +kernel
theorem dX6_lane_38 : decode cX6_lane 38 = .ok (.aload_n 0, 1) := by decide +kernel
theorem dX6_lane_39 : decode cX6_lane 39 = .ok (.getfield 117, 3) := by decide +kernel
theorem dX6_lane_42 : decode cX6_lane 42 = .ok (.putfield 140, 3) := by decide +kernel
theorem dX6_lane_45 : decode cX6_lane 45 = .ok (.iconst 0, 1) := by decide +kernel
theorem dX6_lane_46 : decode cX6_lane 46 = .ok (.istore_n 2, 1) := by decide +kernel
theorem dX6_lane_47 : decode cX6_lane 47 = .ok (.iload_n 2, 1) := by decide +kernel
theorem dX6_lane_48 : decode cX6_lane 48 = .ok (.sipush 991, 3) := by decide +kernel
theorem dX6_lane_51 : decode cX6_lane 51 = .ok (.if_icmp .ge 16, 3) := by decide +kernel
theorem dX6_lane_54 : decode cX6_lane 54 = .ok (.aload_n 0, 1) := by decide +kernel
theorem dX6_lane_55 : decode cX6_lane 55 = .ok (.getfield 7, 3) := by decide +kernel
theorem dX6_lane_58 : decode cX6_lane 58 = .ok (.iload_n 2, 1) := by decide +kernel
theorem dX6_lane_59 : decode cX6_lane 59 = .ok (.iconst 0, 1) := by decide +kernel
theorem dX6_lane_60 : decode cX6_lane 60 = .ok (.iastore, 1) := by decide +kernel
theorem dX6_lane_61 : decode cX6_lane 61 = .ok (.iinc 2 1, 3) := by decide +kernel
theorem dX6_lane_64 : decode cX6_lane 64 = .ok (.goto (-17), 3) := by decide +kernel
theorem dX6_lane_67 : decode cX6_lane 67 = .ok (.iconst 0, 1) := by decide +kernel
theorem dX6_lane_68 : decode cX6_lane 68 = .ok (.istore_n 2, 1) := by decide +kernel
theorem dX6_lane_69 : decode cX6_lane 69 = .ok (.iload_n 2, 1) := by decide +kernel
theorem dX6_lane_70 : decode cX6_lane 70 = .ok (.bipush 6, 2) := by decide +kernel
theorem dX6_lane_72 : decode cX6_lane 72 = .ok (.if_icmp .ge 153, 3) := by decide +kernel
theorem dX6_lane_75 : decode cX6_lane 75 = .ok (.iload_n 2, 1) := by decide +kernel
theorem dX6_lane_76 : decode cX6_lane 76 = .ok (.aload_n 0, 1) := by decide +kernel
theorem dX6_lane_77 : decode cX6_lane 77 = .ok (.getfield 140, 3) := by decide +kernel
theorem dX6_lane_80 : decode cX6_lane 80 = .ok (.if_icmp .ge 7, 3) := by decide +kernel
theorem dX6_lane_83 : decode cX6_lane 83 = .ok (.iconst 1, 1) := by decide +kernel
theorem dX6_lane_84 : decode cX6_lane 84 = .ok (.goto 4, 3) := by decide +kernel
theorem dX6_lane_87 : decode cX6_lane 87 = .ok (.iconst 0, 1) := by decide +kernel
theorem dX6_lane_88 : decode cX6_lane 88 = .ok (.istore_n 3, 1) := by decide +kernel
theorem dX6_lane_89 : decode cX6_lane 89 = .ok (.aload_n 0, 1) := by decide +kernel
theorem dX6_lane_90 : decode cX6_lane 90 = .ok (.getfield 13, 3) := by decide +kernel
theorem dX6_lane_93 : decode cX6_lane 93 = .ok (.iload_n 2, 1) := by decide +kernel
theorem dX6_lane_94 : decode cX6_lane 94 = .ok (.iload_n 3, 1) := by decide +kernel
theorem dX6_lane_95 : decode cX6_lane 95 = .ok (.ifCond .eq 14, 3) := by decide +kernel
theorem dX6_lane_98 : decode cX6_lane 98 = .ok (.aload_n 0, 1) := by decide +kernel
theorem dX6_lane_99 : decode cX6_lane 99 = .ok (.getfield 35, 3) := by decide +kernel
theorem dX6_lane_102 : decode cX6_lane 102 = .ok (.iconst 5, 1) := by decide +kernel
theorem dX6_lane_103 : decode cX6_lane 103 = .ok (.iload_n 2, 1) := by decide +kernel
theorem dX6_lane_104 : decode cX6_lane 104 = .ok (.imul, 1) := by decide +kernel
theorem dX6_lane_105 : decode cX6_lane 105 = .ok (.iaload, 1) := by decide +kernel
theorem dX6_lane_106 : decode cX6_lane 106 = .ok (.goto 4, 3) := by decide +kernel
theorem dX6_lane_109 : decode cX6_lane 109 = .ok (.iconst 0, 1) := by decide +kernel
theorem dX6_lane_110 : decode cX6_lane 110 = .ok (.iastore, 1) := by decide +kernel
theorem dX6_lane_111 : decode cX6_lane 111 = .ok (.aload_n 0, 1) := by decide +kernel
theorem dX6_lane_112 : decode cX6_lane 112 = .ok (.getfield 7, 3) := by decide +kernel
theorem dX6_lane_115 : decode cX6_lane 115 = .ok (.iconst 1, 1) := by decide +kernel
theorem dX6_lane_116 : decode cX6_lane 116 = .ok (.iload_n 2, 1) := by decide +kernel
theorem dX6_lane_117 : decode cX6_lane 117 = .ok (.iadd, 1) := by decide +kernel
theorem dX6_lane_118 : decode cX6_lane 118 = .ok (.iload_n 3, 1) := by decide +kernel
theorem dX6_lane_119 : decode cX6_lane 119 = .ok (.ifCond .eq 16, 3) := by decide +kernel
theorem dX6_lane_122 : decode cX6_lane 122 = .ok (.aload_n 0, 1) := by decide +kernel
theorem dX6_lane_123 : decode cX6_lane 123 = .ok (.getfield 35, 3) := by decide +kernel
theorem dX6_lane_126 : decode cX6_lane 126 = .ok (.iconst 5, 1) := by decide +kernel
theorem dX6_lane_127 : decode cX6_lane 127 = .ok (.iload_n 2, 1) := by decide +kernel
theorem dX6_lane_128 : decode cX6_lane 128 = .ok (.imul, 1) := by decide +kernel
theorem dX6_lane_129 : decode cX6_lane 129 = .ok (.iconst 1, 1) := by decide +kernel
theorem dX6_lane_130 : decode cX6_lane 130 = .ok (.iadd, 1) := by decide +kernel
theorem dX6_lane_131 : decode cX6_lane 131 = .ok (.iaload, 1) := by decide +kernel
theorem dX6_lane_132 : decode cX6_lane 132 = .ok (.goto 4, 3) := by decide +kernel
theorem dX6_lane_135 : decode cX6_lane 135 = .ok (.iconst 0, 1) := by decide +kernel
theorem dX6_lane_136 : decode cX6_lane 136 = .ok (.iastore, 1) := by decide +kernel
theorem dX6_lane_137 : decode cX6_lane 137 = .ok (.aload_n 0, 1) := by decide +kernel
theorem dX6_lane_138 : decode cX6_lane 138 = .ok (.getfield 7, 3) := by decide +kernel
theorem dX6_lane_141 : decode cX6_lane 141 = .ok (.bipush 25, 2) := by decide +kernel
theorem dX6_lane_143 : decode cX6_lane 143 = .ok (.iload_n 2, 1) := by decide +kernel
theorem dX6_lane_144 : decode cX6_lane 144 = .ok (.iadd, 1) := by decide +kernel
theorem dX6_lane_145 : decode cX6_lane 145 = .ok (.iload_n 3, 1) := by decide +kernel
theorem dX6_lane_146 : decode cX6_lane 146 = .ok (.ifCond .eq 16, 3) := by decide +kernel
theorem dX6_lane_149 : decode cX6_lane 149 = .ok (.aload_n 0, 1) := by decide +kernel
theorem dX6_lane_150 : decode cX6_lane 150 = .ok (.getfield 35, 3) := by decide +kernel
theorem dX6_lane_153 : decode cX6_lane 153 = .ok (.iconst 5, 1) := by decide +kernel
theorem dX6_lane_154 : decode cX6_lane 154 = .ok (.iload_n 2, 1) := by decide +kernel
theorem dX6_lane_155 : decode cX6_lane 155 = .ok (.imul, 1) := by decide +kernel
theorem dX6_lane_156 : decode cX6_lane 156 = .ok (.iconst 2, 1) := by decide +kernel
theorem dX6_lane_157 : decode cX6_lane 157 = .ok (.iadd, 1) := by decide +kernel
theorem dX6_lane_158 : decode cX6_lane 158 = .ok (.iaload, 1) := by decide +kernel
theorem dX6_lane_159 : decode cX6_lane 159 = .ok (.goto 4, 3) := by decide +kernel
theorem dX6_lane_162 : decode cX6_lane 162 = .ok (.iconst 0, 1) := by decide +kernel
theorem dX6_lane_163 : decode cX6_lane 163 = .ok (.iastore, 1) := by decide +kernel
theorem dX6_lane_164 : decode cX6_lane 164 = .ok (.aload_n 0, 1) := by decide +kernel
theorem dX6_lane_165 : decode cX6_lane 165 = .ok (.getfield 7, 3) := by decide +kernel
theorem dX6_lane_168 : decode cX6_lane 168 = .ok (.bipush 7, 2) := by decide +kernel
theorem dX6_lane_170 : decode cX6_lane 170 = .ok (.iload_n 2, 1) := by decide +kernel
theorem dX6_lane_171 : decode cX6_lane 171 = .ok (.iadd, 1) := by decide +kernel
theorem dX6_lane_172 : decode cX6_lane 172 = .ok (.iload_n 3, 1) := by decide +kernel
theorem dX6_lane_173 : decode cX6_lane 173 = .ok (.ifCond .eq 16, 3) := by decide +kernel
theorem dX6_lane_176 : decode cX6_lane 176 = .ok (.aload_n 0, 1) := by decide +kernel
theorem dX6_lane_177 : decode cX6_lane 177 = .ok (.getfield 35, 3) := by decide +kernel
theorem dX6_lane_180 : decode cX6_lane 180 = .ok (.iconst 5, 1) := by decide +kernel
theorem dX6_lane_181 : decode cX6_lane 181 = .ok (.iload_n 2, 1) := by decide +kernel
theorem dX6_lane_182 : decode cX6_lane 182 = .ok (.imul, 1) := by decide +kernel
theorem dX6_lane_183 : decode cX6_lane 183 = .ok (.iconst 3, 1) := by decide +kernel
theorem dX6_lane_184 : decode cX6_lane 184 = .ok (.iadd, 1) := by decide +kernel
theorem dX6_lane_185 : decode cX6_lane 185 = .ok (.iaload, 1) := by decide +kernel
theorem dX6_lane_186 : decode cX6_lane 186 = .ok (.goto 5, 3) := by decide +kernel
theorem dX6_lane_189 : decode cX6_lane 189 = .ok (.bipush (-9), 2) := by decide +kernel
theorem dX6_lane_191 : decode cX6_lane 191 = .ok (.iastore, 1) := by decide +kernel
theorem dX6_lane_192 : decode cX6_lane 192 = .ok (.aload_n 0, 1) := by decide +kernel
theorem dX6_lane_193 : decode cX6_lane 193 = .ok (.getfield 7, 3) := by decide +kernel
theorem dX6_lane_196 : decode cX6_lane 196 = .ok (.bipush 13, 2) := by decide +kernel
theorem dX6_lane_198 : decode cX6_lane 198 = .ok (.iload_n 2, 1) := by decide +kernel
theorem dX6_lane_199 : decode cX6_lane 199 = .ok (.iadd, 1) := by decide +kernel
theorem dX6_lane_200 : decode cX6_lane 200 = .ok (.iload_n 3, 1) := by decide +kernel
theorem dX6_lane_201 : decode cX6_lane 201 = .ok (.ifCond .eq 16, 3) := by decide +kernel
theorem dX6_lane_204 : decode cX6_lane 204 = .ok (.aload_n 0, 1) := by decide +kernel
theorem dX6_lane_205 : decode cX6_lane 205 = .ok (.getfield 35, 3) := by decide +kernel
theorem dX6_lane_208 : decode cX6_lane 208 = .ok (.iconst 5, 1) := by decide +kernel
theorem dX6_lane_209 : decode cX6_lane 209 = .ok (.iload_n 2, 1) := by decide +kernel
theorem dX6_lane_210 : decode cX6_lane 210 = .ok (.imul, 1) := by decide +kernel
theorem dX6_lane_211 : decode cX6_lane 211 = .ok (.iconst 4, 1) := by decide +kernel
theorem dX6_lane_212 : decode cX6_lane 212 = .ok (.iadd, 1) := by decide +kernel
theorem dX6_lane_213 : decode cX6_lane 213 = .ok (.iaload, 1) := by decide +kernel
theorem dX6_lane_214 : decode cX6_lane 214 = .ok (.goto 4, 3) := by decide +kernel
theorem dX6_lane_217 : decode cX6_lane 217 = .ok (.iconst 0, 1) := by decide +kernel
theorem dX6_lane_218 : decode cX6_lane 218 = .ok (.iastore, 1) := by decide +kernel
theorem dX6_lane_219 : decode cX6_lane 219 = .ok (.iinc 2 1, 3) := by decide +kernel
theorem dX6_lane_222 : decode cX6_lane 222 = .ok (.goto (-153), 3) := by decide +kernel
theorem dX6_lane_225 : decode cX6_lane 225 = .ok (.iconst 1, 1) := by decide +kernel
theorem dX6_lane_226 : decode cX6_lane 226 = .ok (.istore_n 2, 1) := by decide +kernel
theorem dX6_lane_227 : decode cX6_lane 227 = .ok (.iload_n 2, 1) := by decide +kernel
theorem dX6_lane_228 : decode cX6_lane 228 = .ok (.iconst 4, 1) := by decide +kernel
theorem dX6_lane_229 : decode cX6_lane 229 = .ok (.if_icmp .ge 22, 3) := by decide +kernel
theorem dX6_lane_232 : decode cX6_lane 232 = .ok (.aload_n 0, 1) := by decide +kernel
theorem dX6_lane_233 : decode cX6_lane 233 = .ok (.getfield 7, 3) := by decide +kernel
theorem dX6_lane_236 : decode cX6_lane 236 = .ok (.sipush 991, 3) := by decide +kernel
theorem dX6_lane_239 : decode cX6_lane 239 = .ok (.iload_n 2, 1) := by decide +kernel
theorem dX6_lane_240 : decode cX6_lane 240 = .ok (.imul, 1) := by decide +kernel
theorem dX6_lane_241 : decode cX6_lane 241 = .ok (.iconst 0, 1) := by decide +kernel
theorem dX6_lane_242 : decode cX6_lane 242 = .ok (.iadd, 1) := by decide +kernel
theorem dX6_lane_243 : decode cX6_lane 243 = .ok (.iconst (-1), 1) := by decide +kernel
theorem dX6_lane_244 : decode cX6_lane 244 = .ok (.iastore, 1) := by decide +kernel
theorem dX6_lane_245 : decode cX6_lane 245 = .ok (.iinc 2 1, 3) := by decide +kernel
theorem dX6_lane_248 : decode cX6_lane 248 = .ok (.goto (-21), 3) := by decide +kernel
theorem dX6_lane_251 : decode cX6_lane 251 = .ok (.aload_n 0, 1) := by decide +kernel
theorem dX6_lane_252 : decode cX6_lane 252 = .ok (.getfield 140, 3) := by decide +kernel
theorem dX6_lane_255 : decode cX6_lane 255 = .ok (.ireturn, 1) := by decide +kernel
def p6_lane_227 (k227 : Int32 → SX → Option (Int32 × SX)) (v2 : Int32) (M : SX) : Option (Int32 × SX) :=
  if (4 : Int32) ≤ v2 then (some (M.1 0 1, M))
  else (gd (bIn ((991 * v2) + 0) 3964) ( lt_ (wI M 1 (Int32.toNatClampNeg ((991 * v2) + 0)) (-1)) (fun M3 => lt_ (v2 + 1) (fun x4 => k227 x4 M3))))
set_option maxHeartbeats 4000000 in
set_option maxRecDepth 100000 in
theorem w6_lane_227 {G : XG} {p : Program} {l : Launch} {e : Env} {s : State} {m : MethodId} {args : Array Value} {below : List Frame} {meth : Method} {c : Code} (F : Fx G ZY p m c cX6_lane 4 s args RX6) (hr : meth.sig.returnType = some .int) (hk : meth.locks = false) {r : Int32} {M' : SX} (k227 : Int32 → SX → Option (Int32 × SX)) (hk227 : ∀ (v2 : Int32) (M : SX) (H : Heap) (locs : List Loc) (ls : Array Slot), Wld G ZY M s.heap H locs → lv_has ls 4 [(0, .ref (G.2.1 0)), (2, .int v2)] → k227 v2 M = some (r, M') → WXi G ZY p l e 4 s m args below meth c r M' H locs (F0 m 227 ls [])) : ∀ (v2 : Int32) (M : SX) (H : Heap) (locs : List Loc) (ls : Array Slot), Wld G ZY M s.heap H locs → lv_has ls 4 [(0, .ref (G.2.1 0)), (2, .int v2)] → p6_lane_227 k227 v2 M = some (r, M') → WXi G ZY p l e 4 s m args below meth c r M' H locs (F0 m 227 ls []) := by
  intro v2 M H locs ls hw hl hf
  have hx := F.1.1
  have hb := F.1.2.1
  unfold p6_lane_227 at hf
  refine lv_iload_n hx hb dX6_lane_227 rfl (lv_at hl 1 rfl) ?_
  refine lv_iconst (v := 4) hx hb dX6_lane_228 (by decide) ?_
  refine lv_icmp_ge (tgt := 251) hx hb dX6_lane_229 (by decide) (fun c1 => ?_) (fun c1 => ?_)
  · have hf := it_t hf c1
    refine lv_aload_n hx hb dX6_lane_251 rfl (lv_at hl 0 rfl) ?_
    refine g6_1 F hw tw_611 dX6_lane_252 ?_
    exact x_iret F hw hr hk hf dX6_lane_255
  · have hf := it_f hf c1
    refine lv_aload_n hx hb dX6_lane_232 rfl (lv_at hl 0 rfl) ?_
    refine g6_0 F hw tw_610 dX6_lane_233 ?_
    refine lv_sipush (v := 991) hx hb dX6_lane_236 (by decide) ?_
    refine lv_iload_n hx hb dX6_lane_239 rfl (lv_at hl 1 rfl) ?_
    refine lv_imul hx hb dX6_lane_240 ?_
    refine lv_iconst (v := 0) hx hb dX6_lane_241 (by decide) ?_
    refine lv_iadd hx hb dX6_lane_242 ?_
    refine lv_iconst (v := (-1)) hx hb dX6_lane_243 (by decide) ?_
    obtain ⟨g2, hf⟩ := gd_some hf
    refine x_iast F hw sM1 g2 dX6_lane_244 (fun H locs hw => ?_)
    obtain ⟨M3, eM3, hf⟩ := lt_elim hf
    rw [← eM3] at hw
    obtain ⟨x4, ex4, hf⟩ := lt_elim hf
    refine lv_iinc (v := x4) (lv' := [(2, .int x4), (0, .ref (G.2.1 0))]) hx hb dX6_lane_245 hl (k := 1) rfl (by rw [ex4]; rfl) (by decide) rfl (fun ls hl => ?_)
    refine lv_goto (tgt := 227) hx hb dX6_lane_248 (by decide) ?_
    exact hk227 x4 M3 _ _ ls hw (lv_sub hl [1, 0] rfl) hf
theorem z6_lane_227 {G : XG} {p : Program} {l : Launch} {e : Env} {s : State} {m : MethodId} {args : Array Value} {below : List Frame} {meth : Method} {c : Code} (F : Fx G ZY p m c cX6_lane 4 s args RX6) (hr : meth.sig.returnType = some .int) (hk : meth.locks = false) {r : Int32} {M' : SX} : ∀ n : Nat, ∀ (v2 : Int32) (M : SX) (H : Heap) (locs : List Loc) (ls : Array Slot), Wld G ZY M s.heap H locs → lv_has ls 4 [(0, .ref (G.2.1 0)), (2, .int v2)] → xlp1 p6_lane_227 n v2 M = some (r, M') → WXi G ZY p l e 4 s m args below meth c r M' H locs (F0 m 227 ls []) := by
  intro n
  induction n with
  | zero => intro _ _ _ _ _ _ _ hf; cases hf
  | succ n ih => exact w6_lane_227 F hr hk (xlp1 p6_lane_227 n) ih
def p6_lane_218 (k69 : Int32 → SX → Option (Int32 × SX)) (v2 : Int32) (t1 : Int32) (t2 : Int32) (M : SX) : Option (Int32 × SX) :=
  gd (bIn t1 3964) ( lt_ (wI M 1 (Int32.toNatClampNeg t1) t2) (fun M2 => lt_ (v2 + 1) (fun x3 => k69 x3 M2)))
set_option maxHeartbeats 4000000 in
set_option maxRecDepth 100000 in
theorem w6_lane_218 {G : XG} {p : Program} {l : Launch} {e : Env} {s : State} {m : MethodId} {args : Array Value} {below : List Frame} {meth : Method} {c : Code} (F : Fx G ZY p m c cX6_lane 4 s args RX6) (hr : meth.sig.returnType = some .int) (hk : meth.locks = false) {r : Int32} {M' : SX} (k69 : Int32 → SX → Option (Int32 × SX)) (hk69 : ∀ (v2 : Int32) (M : SX) (H : Heap) (locs : List Loc) (ls : Array Slot), Wld G ZY M s.heap H locs → lv_has ls 4 [(0, .ref (G.2.1 0)), (2, .int v2)] → k69 v2 M = some (r, M') → WXi G ZY p l e 4 s m args below meth c r M' H locs (F0 m 69 ls [])) : ∀ (v2 : Int32) (t1 : Int32) (t2 : Int32) (M : SX) (H : Heap) (locs : List Loc) (ls : Array Slot), Wld G ZY M s.heap H locs → lv_has ls 4 [(0, .ref (G.2.1 0)), (2, .int v2)] → p6_lane_218 k69 v2 t1 t2 M = some (r, M') → WXi G ZY p l e 4 s m args below meth c r M' H locs (F0 m 218 ls [.int t2, .int t1, .ref (G.2.1 1)]) := by
  intro v2 t1 t2 M H locs ls hw hl hf
  have hx := F.1.1
  have hb := F.1.2.1
  unfold p6_lane_218 at hf
  obtain ⟨g1, hf⟩ := gd_some hf
  refine x_iast F hw sM1 g1 dX6_lane_218 (fun H locs hw => ?_)
  obtain ⟨M2, eM2, hf⟩ := lt_elim hf
  rw [← eM2] at hw
  obtain ⟨x3, ex3, hf⟩ := lt_elim hf
  refine lv_iinc (v := x3) (lv' := [(2, .int x3), (0, .ref (G.2.1 0))]) hx hb dX6_lane_219 hl (k := 1) rfl (by rw [ex3]; rfl) (by decide) rfl (fun ls hl => ?_)
  refine lv_goto (tgt := 69) hx hb dX6_lane_222 (by decide) ?_
  exact hk69 x3 M2 _ _ ls hw (lv_sub hl [1, 0] rfl) hf
def p6_lane_191 (k69 : Int32 → SX → Option (Int32 × SX)) (v2 : Int32) (v3 : Int32) (t1 : Int32) (t2 : Int32) (M : SX) : Option (Int32 × SX) :=
  gd (bIn t1 3964) ( lt_ (wI M 1 (Int32.toNatClampNeg t1) t2) (fun M2 => if v3 = 0 then (p6_lane_218 k69 v2 (13 + v2) 0 M2)
  else (gd (bIn ((5 * v2) + 4) 30) ( p6_lane_218 k69 v2 (13 + v2) (M2.1 8 (Int32.toNatClampNeg ((5 * v2) + 4))) M2))))
set_option maxHeartbeats 4000000 in
set_option maxRecDepth 100000 in
theorem w6_lane_191 {G : XG} {p : Program} {l : Launch} {e : Env} {s : State} {m : MethodId} {args : Array Value} {below : List Frame} {meth : Method} {c : Code} (F : Fx G ZY p m c cX6_lane 4 s args RX6) (hr : meth.sig.returnType = some .int) (hk : meth.locks = false) {r : Int32} {M' : SX} (k69 : Int32 → SX → Option (Int32 × SX)) (hk69 : ∀ (v2 : Int32) (M : SX) (H : Heap) (locs : List Loc) (ls : Array Slot), Wld G ZY M s.heap H locs → lv_has ls 4 [(0, .ref (G.2.1 0)), (2, .int v2)] → k69 v2 M = some (r, M') → WXi G ZY p l e 4 s m args below meth c r M' H locs (F0 m 69 ls [])) : ∀ (v2 : Int32) (v3 : Int32) (t1 : Int32) (t2 : Int32) (M : SX) (H : Heap) (locs : List Loc) (ls : Array Slot), Wld G ZY M s.heap H locs → lv_has ls 4 [(0, .ref (G.2.1 0)), (2, .int v2), (3, .int v3)] → p6_lane_191 k69 v2 v3 t1 t2 M = some (r, M') → WXi G ZY p l e 4 s m args below meth c r M' H locs (F0 m 191 ls [.int t2, .int t1, .ref (G.2.1 1)]) := by
  intro v2 v3 t1 t2 M H locs ls hw hl hf
  have hx := F.1.1
  have hb := F.1.2.1
  unfold p6_lane_191 at hf
  obtain ⟨g1, hf⟩ := gd_some hf
  refine x_iast F hw sM1 g1 dX6_lane_191 (fun H locs hw => ?_)
  obtain ⟨M2, eM2, hf⟩ := lt_elim hf
  rw [← eM2] at hw
  refine lv_aload_n hx hb dX6_lane_192 rfl (lv_at hl 0 rfl) ?_
  refine g6_0 F hw tw_610 dX6_lane_193 ?_
  refine lv_bipush (v := 13) hx hb dX6_lane_196 (by decide) ?_
  refine lv_iload_n hx hb dX6_lane_198 rfl (lv_at hl 1 rfl) ?_
  refine lv_iadd hx hb dX6_lane_199 ?_
  refine lv_iload_n hx hb dX6_lane_200 rfl (lv_at hl 2 rfl) ?_
  refine lv_if_eq (tgt := 217) hx hb dX6_lane_201 (by decide) (fun c3 => ?_) (fun c3 => ?_)
  · have hf := it_t hf c3
    refine lv_iconst (v := 0) hx hb dX6_lane_217 (by decide) ?_
    exact w6_lane_218 F hr hk k69 hk69 v2 (13 + v2) 0 M2 _ _ ls hw (lv_sub hl [0, 1] rfl) hf
  · have hf := it_f hf c3
    refine lv_aload_n hx hb dX6_lane_204 rfl (lv_at hl 0 rfl) ?_
    refine g6_15 F hw tw_685 dX6_lane_205 ?_
    refine lv_iconst (v := 5) hx hb dX6_lane_208 (by decide) ?_
    refine lv_iload_n hx hb dX6_lane_209 rfl (lv_at hl 1 rfl) ?_
    refine lv_imul hx hb dX6_lane_210 ?_
    refine lv_iconst (v := 4) hx hb dX6_lane_211 (by decide) ?_
    refine lv_iadd hx hb dX6_lane_212 ?_
    obtain ⟨g4, hf⟩ := gd_some hf
    refine x_iald F hw sM8 g4 dX6_lane_213 ?_
    refine lv_goto (tgt := 218) hx hb dX6_lane_214 (by decide) ?_
    exact w6_lane_218 F hr hk k69 hk69 v2 (13 + v2) (M2.1 8 (Int32.toNatClampNeg ((5 * v2) + 4))) M2 _ _ ls hw (lv_sub hl [0, 1] rfl) hf
def p6_lane_163 (k69 : Int32 → SX → Option (Int32 × SX)) (v2 : Int32) (v3 : Int32) (t1 : Int32) (t2 : Int32) (M : SX) : Option (Int32 × SX) :=
  gd (bIn t1 3964) ( lt_ (wI M 1 (Int32.toNatClampNeg t1) t2) (fun M2 => if v3 = 0 then (p6_lane_191 k69 v2 v3 (7 + v2) (-9) M2)
  else (gd (bIn ((5 * v2) + 3) 30) ( p6_lane_191 k69 v2 v3 (7 + v2) (M2.1 8 (Int32.toNatClampNeg ((5 * v2) + 3))) M2))))
set_option maxHeartbeats 4000000 in
set_option maxRecDepth 100000 in
theorem w6_lane_163 {G : XG} {p : Program} {l : Launch} {e : Env} {s : State} {m : MethodId} {args : Array Value} {below : List Frame} {meth : Method} {c : Code} (F : Fx G ZY p m c cX6_lane 4 s args RX6) (hr : meth.sig.returnType = some .int) (hk : meth.locks = false) {r : Int32} {M' : SX} (k69 : Int32 → SX → Option (Int32 × SX)) (hk69 : ∀ (v2 : Int32) (M : SX) (H : Heap) (locs : List Loc) (ls : Array Slot), Wld G ZY M s.heap H locs → lv_has ls 4 [(0, .ref (G.2.1 0)), (2, .int v2)] → k69 v2 M = some (r, M') → WXi G ZY p l e 4 s m args below meth c r M' H locs (F0 m 69 ls [])) : ∀ (v2 : Int32) (v3 : Int32) (t1 : Int32) (t2 : Int32) (M : SX) (H : Heap) (locs : List Loc) (ls : Array Slot), Wld G ZY M s.heap H locs → lv_has ls 4 [(0, .ref (G.2.1 0)), (2, .int v2), (3, .int v3)] → p6_lane_163 k69 v2 v3 t1 t2 M = some (r, M') → WXi G ZY p l e 4 s m args below meth c r M' H locs (F0 m 163 ls [.int t2, .int t1, .ref (G.2.1 1)]) := by
  intro v2 v3 t1 t2 M H locs ls hw hl hf
  have hx := F.1.1
  have hb := F.1.2.1
  unfold p6_lane_163 at hf
  obtain ⟨g1, hf⟩ := gd_some hf
  refine x_iast F hw sM1 g1 dX6_lane_163 (fun H locs hw => ?_)
  obtain ⟨M2, eM2, hf⟩ := lt_elim hf
  rw [← eM2] at hw
  refine lv_aload_n hx hb dX6_lane_164 rfl (lv_at hl 0 rfl) ?_
  refine g6_0 F hw tw_610 dX6_lane_165 ?_
  refine lv_bipush (v := 7) hx hb dX6_lane_168 (by decide) ?_
  refine lv_iload_n hx hb dX6_lane_170 rfl (lv_at hl 1 rfl) ?_
  refine lv_iadd hx hb dX6_lane_171 ?_
  refine lv_iload_n hx hb dX6_lane_172 rfl (lv_at hl 2 rfl) ?_
  refine lv_if_eq (tgt := 189) hx hb dX6_lane_173 (by decide) (fun c3 => ?_) (fun c3 => ?_)
  · have hf := it_t hf c3
    refine lv_bipush (v := (-9)) hx hb dX6_lane_189 (by decide) ?_
    exact w6_lane_191 F hr hk k69 hk69 v2 v3 (7 + v2) (-9) M2 _ _ ls hw (lv_sub hl [0, 1, 2] rfl) hf
  · have hf := it_f hf c3
    refine lv_aload_n hx hb dX6_lane_176 rfl (lv_at hl 0 rfl) ?_
    refine g6_15 F hw tw_685 dX6_lane_177 ?_
    refine lv_iconst (v := 5) hx hb dX6_lane_180 (by decide) ?_
    refine lv_iload_n hx hb dX6_lane_181 rfl (lv_at hl 1 rfl) ?_
    refine lv_imul hx hb dX6_lane_182 ?_
    refine lv_iconst (v := 3) hx hb dX6_lane_183 (by decide) ?_
    refine lv_iadd hx hb dX6_lane_184 ?_
    obtain ⟨g4, hf⟩ := gd_some hf
    refine x_iald F hw sM8 g4 dX6_lane_185 ?_
    refine lv_goto (tgt := 191) hx hb dX6_lane_186 (by decide) ?_
    exact w6_lane_191 F hr hk k69 hk69 v2 v3 (7 + v2) (M2.1 8 (Int32.toNatClampNeg ((5 * v2) + 3))) M2 _ _ ls hw (lv_sub hl [0, 1, 2] rfl) hf
def p6_lane_136 (k69 : Int32 → SX → Option (Int32 × SX)) (v2 : Int32) (v3 : Int32) (t1 : Int32) (t2 : Int32) (M : SX) : Option (Int32 × SX) :=
  gd (bIn t1 3964) ( lt_ (wI M 1 (Int32.toNatClampNeg t1) t2) (fun M2 => if v3 = 0 then (p6_lane_163 k69 v2 v3 (25 + v2) 0 M2)
  else (gd (bIn ((5 * v2) + 2) 30) ( p6_lane_163 k69 v2 v3 (25 + v2) (M2.1 8 (Int32.toNatClampNeg ((5 * v2) + 2))) M2))))
set_option maxHeartbeats 4000000 in
set_option maxRecDepth 100000 in
theorem w6_lane_136 {G : XG} {p : Program} {l : Launch} {e : Env} {s : State} {m : MethodId} {args : Array Value} {below : List Frame} {meth : Method} {c : Code} (F : Fx G ZY p m c cX6_lane 4 s args RX6) (hr : meth.sig.returnType = some .int) (hk : meth.locks = false) {r : Int32} {M' : SX} (k69 : Int32 → SX → Option (Int32 × SX)) (hk69 : ∀ (v2 : Int32) (M : SX) (H : Heap) (locs : List Loc) (ls : Array Slot), Wld G ZY M s.heap H locs → lv_has ls 4 [(0, .ref (G.2.1 0)), (2, .int v2)] → k69 v2 M = some (r, M') → WXi G ZY p l e 4 s m args below meth c r M' H locs (F0 m 69 ls [])) : ∀ (v2 : Int32) (v3 : Int32) (t1 : Int32) (t2 : Int32) (M : SX) (H : Heap) (locs : List Loc) (ls : Array Slot), Wld G ZY M s.heap H locs → lv_has ls 4 [(0, .ref (G.2.1 0)), (2, .int v2), (3, .int v3)] → p6_lane_136 k69 v2 v3 t1 t2 M = some (r, M') → WXi G ZY p l e 4 s m args below meth c r M' H locs (F0 m 136 ls [.int t2, .int t1, .ref (G.2.1 1)]) := by
  intro v2 v3 t1 t2 M H locs ls hw hl hf
  have hx := F.1.1
  have hb := F.1.2.1
  unfold p6_lane_136 at hf
  obtain ⟨g1, hf⟩ := gd_some hf
  refine x_iast F hw sM1 g1 dX6_lane_136 (fun H locs hw => ?_)
  obtain ⟨M2, eM2, hf⟩ := lt_elim hf
  rw [← eM2] at hw
  refine lv_aload_n hx hb dX6_lane_137 rfl (lv_at hl 0 rfl) ?_
  refine g6_0 F hw tw_610 dX6_lane_138 ?_
  refine lv_bipush (v := 25) hx hb dX6_lane_141 (by decide) ?_
  refine lv_iload_n hx hb dX6_lane_143 rfl (lv_at hl 1 rfl) ?_
  refine lv_iadd hx hb dX6_lane_144 ?_
  refine lv_iload_n hx hb dX6_lane_145 rfl (lv_at hl 2 rfl) ?_
  refine lv_if_eq (tgt := 162) hx hb dX6_lane_146 (by decide) (fun c3 => ?_) (fun c3 => ?_)
  · have hf := it_t hf c3
    refine lv_iconst (v := 0) hx hb dX6_lane_162 (by decide) ?_
    exact w6_lane_163 F hr hk k69 hk69 v2 v3 (25 + v2) 0 M2 _ _ ls hw (lv_sub hl [0, 1, 2] rfl) hf
  · have hf := it_f hf c3
    refine lv_aload_n hx hb dX6_lane_149 rfl (lv_at hl 0 rfl) ?_
    refine g6_15 F hw tw_685 dX6_lane_150 ?_
    refine lv_iconst (v := 5) hx hb dX6_lane_153 (by decide) ?_
    refine lv_iload_n hx hb dX6_lane_154 rfl (lv_at hl 1 rfl) ?_
    refine lv_imul hx hb dX6_lane_155 ?_
    refine lv_iconst (v := 2) hx hb dX6_lane_156 (by decide) ?_
    refine lv_iadd hx hb dX6_lane_157 ?_
    obtain ⟨g4, hf⟩ := gd_some hf
    refine x_iald F hw sM8 g4 dX6_lane_158 ?_
    refine lv_goto (tgt := 163) hx hb dX6_lane_159 (by decide) ?_
    exact w6_lane_163 F hr hk k69 hk69 v2 v3 (25 + v2) (M2.1 8 (Int32.toNatClampNeg ((5 * v2) + 2))) M2 _ _ ls hw (lv_sub hl [0, 1, 2] rfl) hf
def p6_lane_110 (k69 : Int32 → SX → Option (Int32 × SX)) (v2 : Int32) (v3 : Int32) (t1 : Int32) (t2 : Int32) (M : SX) : Option (Int32 × SX) :=
  gd (bIn t1 6) ( lt_ (wI M 2 (Int32.toNatClampNeg t1) t2) (fun M2 => if v3 = 0 then (p6_lane_136 k69 v2 v3 (1 + v2) 0 M2)
  else (gd (bIn ((5 * v2) + 1) 30) ( p6_lane_136 k69 v2 v3 (1 + v2) (M2.1 8 (Int32.toNatClampNeg ((5 * v2) + 1))) M2))))
set_option maxHeartbeats 4000000 in
set_option maxRecDepth 100000 in
theorem w6_lane_110 {G : XG} {p : Program} {l : Launch} {e : Env} {s : State} {m : MethodId} {args : Array Value} {below : List Frame} {meth : Method} {c : Code} (F : Fx G ZY p m c cX6_lane 4 s args RX6) (hr : meth.sig.returnType = some .int) (hk : meth.locks = false) {r : Int32} {M' : SX} (k69 : Int32 → SX → Option (Int32 × SX)) (hk69 : ∀ (v2 : Int32) (M : SX) (H : Heap) (locs : List Loc) (ls : Array Slot), Wld G ZY M s.heap H locs → lv_has ls 4 [(0, .ref (G.2.1 0)), (2, .int v2)] → k69 v2 M = some (r, M') → WXi G ZY p l e 4 s m args below meth c r M' H locs (F0 m 69 ls [])) : ∀ (v2 : Int32) (v3 : Int32) (t1 : Int32) (t2 : Int32) (M : SX) (H : Heap) (locs : List Loc) (ls : Array Slot), Wld G ZY M s.heap H locs → lv_has ls 4 [(0, .ref (G.2.1 0)), (2, .int v2), (3, .int v3)] → p6_lane_110 k69 v2 v3 t1 t2 M = some (r, M') → WXi G ZY p l e 4 s m args below meth c r M' H locs (F0 m 110 ls [.int t2, .int t1, .ref (G.2.1 2)]) := by
  intro v2 v3 t1 t2 M H locs ls hw hl hf
  have hx := F.1.1
  have hb := F.1.2.1
  unfold p6_lane_110 at hf
  obtain ⟨g1, hf⟩ := gd_some hf
  refine x_iast F hw sM2 g1 dX6_lane_110 (fun H locs hw => ?_)
  obtain ⟨M2, eM2, hf⟩ := lt_elim hf
  rw [← eM2] at hw
  refine lv_aload_n hx hb dX6_lane_111 rfl (lv_at hl 0 rfl) ?_
  refine g6_0 F hw tw_610 dX6_lane_112 ?_
  refine lv_iconst (v := 1) hx hb dX6_lane_115 (by decide) ?_
  refine lv_iload_n hx hb dX6_lane_116 rfl (lv_at hl 1 rfl) ?_
  refine lv_iadd hx hb dX6_lane_117 ?_
  refine lv_iload_n hx hb dX6_lane_118 rfl (lv_at hl 2 rfl) ?_
  refine lv_if_eq (tgt := 135) hx hb dX6_lane_119 (by decide) (fun c3 => ?_) (fun c3 => ?_)
  · have hf := it_t hf c3
    refine lv_iconst (v := 0) hx hb dX6_lane_135 (by decide) ?_
    exact w6_lane_136 F hr hk k69 hk69 v2 v3 (1 + v2) 0 M2 _ _ ls hw (lv_sub hl [0, 1, 2] rfl) hf
  · have hf := it_f hf c3
    refine lv_aload_n hx hb dX6_lane_122 rfl (lv_at hl 0 rfl) ?_
    refine g6_15 F hw tw_685 dX6_lane_123 ?_
    refine lv_iconst (v := 5) hx hb dX6_lane_126 (by decide) ?_
    refine lv_iload_n hx hb dX6_lane_127 rfl (lv_at hl 1 rfl) ?_
    refine lv_imul hx hb dX6_lane_128 ?_
    refine lv_iconst (v := 1) hx hb dX6_lane_129 (by decide) ?_
    refine lv_iadd hx hb dX6_lane_130 ?_
    obtain ⟨g4, hf⟩ := gd_some hf
    refine x_iald F hw sM8 g4 dX6_lane_131 ?_
    refine lv_goto (tgt := 136) hx hb dX6_lane_132 (by decide) ?_
    exact w6_lane_136 F hr hk k69 hk69 v2 v3 (1 + v2) (M2.1 8 (Int32.toNatClampNeg ((5 * v2) + 1))) M2 _ _ ls hw (lv_sub hl [0, 1, 2] rfl) hf
def p6_lane_88 (k69 : Int32 → SX → Option (Int32 × SX)) (v2 : Int32) (t0 : Int32) (M : SX) : Option (Int32 × SX) :=
  if t0 = 0 then (p6_lane_110 k69 v2 t0 v2 0 M)
  else (gd (bIn (5 * v2) 30) ( p6_lane_110 k69 v2 t0 v2 (M.1 8 (Int32.toNatClampNeg (5 * v2))) M))
set_option maxHeartbeats 4000000 in
set_option maxRecDepth 100000 in
theorem w6_lane_88 {G : XG} {p : Program} {l : Launch} {e : Env} {s : State} {m : MethodId} {args : Array Value} {below : List Frame} {meth : Method} {c : Code} (F : Fx G ZY p m c cX6_lane 4 s args RX6) (hr : meth.sig.returnType = some .int) (hk : meth.locks = false) {r : Int32} {M' : SX} (k69 : Int32 → SX → Option (Int32 × SX)) (hk69 : ∀ (v2 : Int32) (M : SX) (H : Heap) (locs : List Loc) (ls : Array Slot), Wld G ZY M s.heap H locs → lv_has ls 4 [(0, .ref (G.2.1 0)), (2, .int v2)] → k69 v2 M = some (r, M') → WXi G ZY p l e 4 s m args below meth c r M' H locs (F0 m 69 ls [])) : ∀ (v2 : Int32) (t0 : Int32) (M : SX) (H : Heap) (locs : List Loc) (ls : Array Slot), Wld G ZY M s.heap H locs → lv_has ls 4 [(0, .ref (G.2.1 0)), (2, .int v2)] → p6_lane_88 k69 v2 t0 M = some (r, M') → WXi G ZY p l e 4 s m args below meth c r M' H locs (F0 m 88 ls [.int t0]) := by
  intro v2 t0 M H locs ls hw hl hf
  have hx := F.1.1
  have hb := F.1.2.1
  unfold p6_lane_88 at hf
  refine lv_istore_n (lv' := [(3, .int t0), (0, .ref (G.2.1 0)), (2, .int v2)]) hx hb dX6_lane_88 rfl hl (by decide) rfl (fun ls hl => ?_)
  refine lv_aload_n hx hb dX6_lane_89 rfl (lv_at hl 1 rfl) ?_
  refine g6_2 F hw tw_612 dX6_lane_90 ?_
  refine lv_iload_n hx hb dX6_lane_93 rfl (lv_at hl 2 rfl) ?_
  refine lv_iload_n hx hb dX6_lane_94 rfl (lv_at hl 0 rfl) ?_
  refine lv_if_eq (tgt := 109) hx hb dX6_lane_95 (by decide) (fun c1 => ?_) (fun c1 => ?_)
  · have hf := it_t hf c1
    refine lv_iconst (v := 0) hx hb dX6_lane_109 (by decide) ?_
    exact w6_lane_110 F hr hk k69 hk69 v2 t0 v2 0 M _ _ ls hw (lv_sub hl [1, 2, 0] rfl) hf
  · have hf := it_f hf c1
    refine lv_aload_n hx hb dX6_lane_98 rfl (lv_at hl 1 rfl) ?_
    refine g6_15 F hw tw_685 dX6_lane_99 ?_
    refine lv_iconst (v := 5) hx hb dX6_lane_102 (by decide) ?_
    refine lv_iload_n hx hb dX6_lane_103 rfl (lv_at hl 2 rfl) ?_
    refine lv_imul hx hb dX6_lane_104 ?_
    obtain ⟨g2, hf⟩ := gd_some hf
    refine x_iald F hw sM8 g2 dX6_lane_105 ?_
    refine lv_goto (tgt := 110) hx hb dX6_lane_106 (by decide) ?_
    exact w6_lane_110 F hr hk k69 hk69 v2 t0 v2 (M.1 8 (Int32.toNatClampNeg (5 * v2))) M _ _ ls hw (lv_sub hl [1, 2, 0] rfl) hf
def p6_lane_69 (k69 : Int32 → SX → Option (Int32 × SX)) (v2 : Int32) (M : SX) : Option (Int32 × SX) :=
  if (6 : Int32) ≤ v2 then (xlp1 p6_lane_227 FU 1 M)
  else (if (M.1 0 1) ≤ v2 then (p6_lane_88 k69 v2 0 M)
  else (p6_lane_88 k69 v2 1 M))
set_option maxHeartbeats 4000000 in
set_option maxRecDepth 100000 in
theorem w6_lane_69 {G : XG} {p : Program} {l : Launch} {e : Env} {s : State} {m : MethodId} {args : Array Value} {below : List Frame} {meth : Method} {c : Code} (F : Fx G ZY p m c cX6_lane 4 s args RX6) (hr : meth.sig.returnType = some .int) (hk : meth.locks = false) {r : Int32} {M' : SX} (k69 : Int32 → SX → Option (Int32 × SX)) (hk69 : ∀ (v2 : Int32) (M : SX) (H : Heap) (locs : List Loc) (ls : Array Slot), Wld G ZY M s.heap H locs → lv_has ls 4 [(0, .ref (G.2.1 0)), (2, .int v2)] → k69 v2 M = some (r, M') → WXi G ZY p l e 4 s m args below meth c r M' H locs (F0 m 69 ls [])) : ∀ (v2 : Int32) (M : SX) (H : Heap) (locs : List Loc) (ls : Array Slot), Wld G ZY M s.heap H locs → lv_has ls 4 [(0, .ref (G.2.1 0)), (2, .int v2)] → p6_lane_69 k69 v2 M = some (r, M') → WXi G ZY p l e 4 s m args below meth c r M' H locs (F0 m 69 ls []) := by
  intro v2 M H locs ls hw hl hf
  have hx := F.1.1
  have hb := F.1.2.1
  unfold p6_lane_69 at hf
  refine lv_iload_n hx hb dX6_lane_69 rfl (lv_at hl 1 rfl) ?_
  refine lv_bipush (v := 6) hx hb dX6_lane_70 (by decide) ?_
  refine lv_icmp_ge (tgt := 225) hx hb dX6_lane_72 (by decide) (fun c1 => ?_) (fun c1 => ?_)
  · have hf := it_t hf c1
    refine lv_iconst (v := 1) hx hb dX6_lane_225 (by decide) ?_
    refine lv_istore_n (lv' := [(2, .int 1), (0, .ref (G.2.1 0))]) hx hb dX6_lane_226 rfl hl (by decide) rfl (fun ls hl => ?_)
    exact z6_lane_227 F hr hk FU 1 M _ _ ls hw (lv_sub hl [1, 0] rfl) hf
  · have hf := it_f hf c1
    refine lv_iload_n hx hb dX6_lane_75 rfl (lv_at hl 1 rfl) ?_
    refine lv_aload_n hx hb dX6_lane_76 rfl (lv_at hl 0 rfl) ?_
    refine g6_1 F hw tw_611 dX6_lane_77 ?_
    refine lv_icmp_ge (tgt := 87) hx hb dX6_lane_80 (by decide) (fun c2 => ?_) (fun c2 => ?_)
    · have hf := it_t hf c2
      refine lv_iconst (v := 0) hx hb dX6_lane_87 (by decide) ?_
      exact w6_lane_88 F hr hk k69 hk69 v2 0 M _ _ ls hw (lv_sub hl [0, 1] rfl) hf
    · have hf := it_f hf c2
      refine lv_iconst (v := 1) hx hb dX6_lane_83 (by decide) ?_
      refine lv_goto (tgt := 88) hx hb dX6_lane_84 (by decide) ?_
      exact w6_lane_88 F hr hk k69 hk69 v2 1 M _ _ ls hw (lv_sub hl [0, 1] rfl) hf
theorem z6_lane_69 {G : XG} {p : Program} {l : Launch} {e : Env} {s : State} {m : MethodId} {args : Array Value} {below : List Frame} {meth : Method} {c : Code} (F : Fx G ZY p m c cX6_lane 4 s args RX6) (hr : meth.sig.returnType = some .int) (hk : meth.locks = false) {r : Int32} {M' : SX} : ∀ n : Nat, ∀ (v2 : Int32) (M : SX) (H : Heap) (locs : List Loc) (ls : Array Slot), Wld G ZY M s.heap H locs → lv_has ls 4 [(0, .ref (G.2.1 0)), (2, .int v2)] → xlp1 p6_lane_69 n v2 M = some (r, M') → WXi G ZY p l e 4 s m args below meth c r M' H locs (F0 m 69 ls []) := by
  intro n
  induction n with
  | zero => intro _ _ _ _ _ _ _ hf; cases hf
  | succ n ih => exact w6_lane_69 F hr hk (xlp1 p6_lane_69 n) ih
def p6_lane_47 (k47 : Int32 → SX → Option (Int32 × SX)) (v2 : Int32) (M : SX) : Option (Int32 × SX) :=
  if (991 : Int32) ≤ v2 then (xlp1 p6_lane_69 FU 0 M)
  else (gd (bIn v2 3964) ( lt_ (wI M 1 (Int32.toNatClampNeg v2) 0) (fun M3 => lt_ (v2 + 1) (fun x4 => k47 x4 M3))))
set_option maxHeartbeats 4000000 in
set_option maxRecDepth 100000 in
theorem w6_lane_47 {G : XG} {p : Program} {l : Launch} {e : Env} {s : State} {m : MethodId} {args : Array Value} {below : List Frame} {meth : Method} {c : Code} (F : Fx G ZY p m c cX6_lane 4 s args RX6) (hr : meth.sig.returnType = some .int) (hk : meth.locks = false) {r : Int32} {M' : SX} (k47 : Int32 → SX → Option (Int32 × SX)) (hk47 : ∀ (v2 : Int32) (M : SX) (H : Heap) (locs : List Loc) (ls : Array Slot), Wld G ZY M s.heap H locs → lv_has ls 4 [(0, .ref (G.2.1 0)), (2, .int v2)] → k47 v2 M = some (r, M') → WXi G ZY p l e 4 s m args below meth c r M' H locs (F0 m 47 ls [])) : ∀ (v2 : Int32) (M : SX) (H : Heap) (locs : List Loc) (ls : Array Slot), Wld G ZY M s.heap H locs → lv_has ls 4 [(0, .ref (G.2.1 0)), (2, .int v2)] → p6_lane_47 k47 v2 M = some (r, M') → WXi G ZY p l e 4 s m args below meth c r M' H locs (F0 m 47 ls []) := by
  intro v2 M H locs ls hw hl hf
  have hx := F.1.1
  have hb := F.1.2.1
  unfold p6_lane_47 at hf
  refine lv_iload_n hx hb dX6_lane_47 rfl (lv_at hl 1 rfl) ?_
  refine lv_sipush (v := 991) hx hb dX6_lane_48 (by decide) ?_
  refine lv_icmp_ge (tgt := 67) hx hb dX6_lane_51 (by decide) (fun c1 => ?_) (fun c1 => ?_)
  · have hf := it_t hf c1
    refine lv_iconst (v := 0) hx hb dX6_lane_67 (by decide) ?_
    refine lv_istore_n (lv' := [(2, .int 0), (0, .ref (G.2.1 0))]) hx hb dX6_lane_68 rfl hl (by decide) rfl (fun ls hl => ?_)
    exact z6_lane_69 F hr hk FU 0 M _ _ ls hw (lv_sub hl [1, 0] rfl) hf
  · have hf := it_f hf c1
    refine lv_aload_n hx hb dX6_lane_54 rfl (lv_at hl 0 rfl) ?_
    refine g6_0 F hw tw_610 dX6_lane_55 ?_
    refine lv_iload_n hx hb dX6_lane_58 rfl (lv_at hl 1 rfl) ?_
    refine lv_iconst (v := 0) hx hb dX6_lane_59 (by decide) ?_
    obtain ⟨g2, hf⟩ := gd_some hf
    refine x_iast F hw sM1 g2 dX6_lane_60 (fun H locs hw => ?_)
    obtain ⟨M3, eM3, hf⟩ := lt_elim hf
    rw [← eM3] at hw
    obtain ⟨x4, ex4, hf⟩ := lt_elim hf
    refine lv_iinc (v := x4) (lv' := [(2, .int x4), (0, .ref (G.2.1 0))]) hx hb dX6_lane_61 hl (k := 1) rfl (by rw [ex4]; rfl) (by decide) rfl (fun ls hl => ?_)
    refine lv_goto (tgt := 47) hx hb dX6_lane_64 (by decide) ?_
    exact hk47 x4 M3 _ _ ls hw (lv_sub hl [1, 0] rfl) hf
theorem z6_lane_47 {G : XG} {p : Program} {l : Launch} {e : Env} {s : State} {m : MethodId} {args : Array Value} {below : List Frame} {meth : Method} {c : Code} (F : Fx G ZY p m c cX6_lane 4 s args RX6) (hr : meth.sig.returnType = some .int) (hk : meth.locks = false) {r : Int32} {M' : SX} : ∀ n : Nat, ∀ (v2 : Int32) (M : SX) (H : Heap) (locs : List Loc) (ls : Array Slot), Wld G ZY M s.heap H locs → lv_has ls 4 [(0, .ref (G.2.1 0)), (2, .int v2)] → xlp1 p6_lane_47 n v2 M = some (r, M') → WXi G ZY p l e 4 s m args below meth c r M' H locs (F0 m 47 ls []) := by
  intro n
  induction n with
  | zero => intro _ _ _ _ _ _ _ hf; cases hf
  | succ n ih => exact w6_lane_47 F hr hk (xlp1 p6_lane_47 n) ih
def p6_lane (a1 : Int32) (M : SX) : Option (Int32 × SX) :=
  bd (p6_isText a1 M) (fun r3 M2 => if r3 = 0 then (some ((-1), M2))
  else (gd (bIn a1 4) ( if 0 ≤ (M2.1 5 (Int32.toNatClampNeg a1)) then (bd (p6_faultOf a1 M2) (fun r9 M8 => if r9 = (-9 : Int32) then (lt_ (wI M8 0 1 (M8.1 0 16)) (fun M11 => xlp1 p6_lane_47 FU 0 M11))
  else (some ((-4), M8))))
  else (bd (p6_find 1 M2) (fun r14 M13 => some (r14, M13))))))
set_option maxHeartbeats 4000000 in
set_option maxRecDepth 100000 in
theorem c6_lane {l : Launch} {G : XG} {r : Int32} {M' : SX} {M : SX} (a1 : Int32) (hf : p6_lane a1 M = some (r, M')) : Met l yX6_lane (.code yX6_lane cX6_lane 4 (some .int) :: TBL) (rmX 4) (xPc G ZY M [.ref (G.2.1 0), .int a1]) (xQi G ZY r M') 0 0 (inA G ZY) := by
  refine x_met (cc := cX6_lane) (by decide) (Nat.le_of_ble_eq_true rfl) ?_
  intro p e s m below meth c ls F hr hk hl hw
  have F : Fx G ZY p m c cX6_lane 4 s [.ref (G.2.1 0), .int a1].toArray RX6 := F
  have hl : lv_has ls 4 [(0, .ref (G.2.1 0)), (1, .int a1)] := hl
  have hx := F.1.1
  have hb := F.1.2.1
  unfold p6_lane at hf
  refine lv_iload_n hx hb dX6_lane_0 rfl (lv_at hl 1 rfl) ?_
  obtain ⟨r3, M2, hc1, hf⟩ := bd_some hf
  refine x_aftI hw (x_runS (rest := []) F hw hl.1 sw_RX6_98 (c6_isText a1 hc1) rfl rfl (Nat.le_of_ble_eq_true rfl) ⟨Nat.le_of_ble_eq_true rfl, Nat.le_of_ble_eq_true rfl⟩ dX6_lane_1) (fun H locs hw => ?_)
  refine lv_if_ne (tgt := 9) hx hb dX6_lane_4 (by decide) (fun c4 => ?_) (fun c4 => ?_)
  · have hf := it_f hf c4
    refine lv_aload_n hx hb dX6_lane_9 rfl (lv_at hl 0 rfl) ?_
    refine g6_5 F hw tw_615 dX6_lane_10 ?_
    refine lv_iload_n hx hb dX6_lane_13 rfl (lv_at hl 1 rfl) ?_
    obtain ⟨g5, hf⟩ := gd_some hf
    refine x_iald F hw sM5 g5 dX6_lane_14 ?_
    refine lv_if_ge (tgt := 24) hx hb dX6_lane_15 (by decide) (fun c6 => ?_) (fun c6 => ?_)
    · have hf := it_t hf c6
      refine lv_aload_n hx hb dX6_lane_24 rfl (lv_at hl 0 rfl) ?_
      refine lv_iload_n hx hb dX6_lane_25 rfl (lv_at hl 1 rfl) ?_
      obtain ⟨r9, M8, hc7, hf⟩ := bd_some hf
      refine x_aftI hw (x_runV (rest := []) F hw hl.1 vw_RX6_137 (sM) rfl (c6_faultOf a1 hc7) rfl rfl (Nat.le_of_ble_eq_true rfl) ⟨Nat.le_of_ble_eq_true rfl, Nat.le_of_ble_eq_true rfl⟩ dX6_lane_26) (fun H locs hw => ?_)
      refine lv_bipush (v := (-9)) hx hb dX6_lane_29 (by decide) ?_
      refine lv_icmp_eq (tgt := 37) hx hb dX6_lane_31 (by decide) (fun c10 => ?_) (fun c10 => ?_)
      · have hf := it_t hf c10
        refine lv_aload_n hx hb dX6_lane_37 rfl (lv_at hl 0 rfl) ?_
        refine lv_aload_n hx hb dX6_lane_38 rfl (lv_at hl 0 rfl) ?_
        refine g6_16 F hw tw_684 dX6_lane_39 ?_
        refine s6_1 F hw tw_611 dX6_lane_42 (fun H locs hw => ?_)
        obtain ⟨M11, eM11, hf⟩ := lt_elim hf
        rw [← eM11] at hw
        refine lv_iconst (v := 0) hx hb dX6_lane_45 (by decide) ?_
        refine lv_istore_n (lv' := [(2, .int 0), (0, .ref (G.2.1 0)), (1, .int a1)]) hx hb dX6_lane_46 rfl hl (by decide) rfl (fun ls hl => ?_)
        exact z6_lane_47 F hr hk FU 0 M11 _ _ ls hw (lv_sub hl [1, 0] rfl) hf
      · have hf := it_f hf c10
        refine lv_bipush (v := (-4)) hx hb dX6_lane_34 (by decide) ?_
        exact x_iret F hw hr hk hf dX6_lane_36
    · have hf := it_f hf c6
      refine lv_aload_n hx hb dX6_lane_18 rfl (lv_at hl 0 rfl) ?_
      refine lv_iconst (v := 1) hx hb dX6_lane_19 (by decide) ?_
      obtain ⟨r14, M13, hc12, hf⟩ := bd_some hf
      refine x_aftI hw (x_runV (rest := []) F hw hl.1 vw_RX6_79 (sM) rfl (c6_find 1 hc12) rfl rfl (Nat.le_of_ble_eq_true rfl) ⟨Nat.le_of_ble_eq_true rfl, Nat.le_of_ble_eq_true rfl⟩ dX6_lane_20) (fun H locs hw => ?_)
      exact x_iret F hw hr hk hf dX6_lane_23
  · have hf := it_t hf c4
    refine lv_iconst (v := (-1)) hx hb dX6_lane_7 (by decide) ?_
    exact x_iret F hw hr hk hf dX6_lane_8
theorem dX6_canAll_0 : decode cX6_canAll 0 = .ok (.aload_n 0, 1) := by decide +kernel
theorem dX6_canAll_1 : decode cX6_canAll 1 = .ok (.invokevirtual 228, 3) := by decide +kernel
theorem dX6_canAll_4 : decode cX6_canAll 4 = .ok (.aload_n 0, 1) := by decide +kernel
theorem dX6_canAll_5 : decode cX6_canAll 5 = .ok (.getfield 50, 3) := by decide +kernel
theorem dX6_canAll_8 : decode cX6_canAll 8 = .ok (.aload_n 0, 1) := by decide +kernel
theorem dX6_canAll_9 : decode cX6_canAll 9 = .ok (.getfield 219, 3) := by decide +kernel
theorem dX6_canAll_12 : decode cX6_canAll 12 = .ok (.laload, 1) := by decide +kernel
theorem dX6_canAll_13 : decode cX6_canAll 13 = .ok (.lconst 0, 1) := by decide +kernel
theorem dX6_canAll_14 : decode cX6_canAll 14 = .ok (.lcmp, 1) := by decide +kernel
theorem dX6_canAll_15 : decode cX6_canAll 15 = .ok (.ifCond .le 7, 3) := by decide +kernel
theorem dX6_canAll_18 : decode cX6_canAll 18 = .ok (.iconst 1, 1) := by decide +kernel
theorem dX6_canAll_19 : decode cX6_canAll 19 = .ok (.goto 4, 3) := by decide +kernel
theorem dX6_canAll_22 : decode cX6_canAll 22 = .ok (.iconst 0, 1) := by decide +kernel
theorem dX6_canAll_23 : decode cX6_canAll 23 = .ok (.ireturn, 1) := by decide +kernel
def p6_canAll (M : SX) : Option (Int32 × SX) :=
  bv (p6_layWays M) (fun M2 => gd (bIn (M2.1 0 22) 64) ( if (M2.2 13 (Int32.toNatClampNeg (M2.1 0 22))) ≤ 0 then (some (0, M2))
  else (some (1, M2))))
set_option maxHeartbeats 4000000 in
set_option maxRecDepth 100000 in
theorem c6_canAll {l : Launch} {G : XG} {r : Int32} {M' : SX} {M : SX} (hf : p6_canAll M = some (r, M')) : Met l yX6_canAll (.code yX6_canAll cX6_canAll 1 (some .boolean) :: TBL) (rmX 4) (xPc G ZY M [.ref (G.2.1 0)]) (xQi G ZY r M') 0 0 (inA G ZY) := by
  refine x_met (cc := cX6_canAll) (by decide) (Nat.le_of_ble_eq_true rfl) ?_
  intro p e s m below meth c ls F hr hk hl hw
  have F : Fx G ZY p m c cX6_canAll 1 s [.ref (G.2.1 0)].toArray RX6 := F
  have hl : lv_has ls 1 [(0, .ref (G.2.1 0))] := hl
  have hx := F.1.1
  have hb := F.1.2.1
  unfold p6_canAll at hf
  refine lv_aload_n hx hb dX6_canAll_0 rfl (lv_at hl 0 rfl) ?_
  obtain ⟨M2, hc1, hf⟩ := bv_some hf
  refine x_aftV hw (x_runV (rest := []) F hw hl.1 vw_RX6_228 (sM) rfl (c6_layWays hc1) rfl rfl (Nat.le_of_ble_eq_true rfl) ⟨Nat.le_of_ble_eq_true rfl, Nat.le_of_ble_eq_true rfl⟩ dX6_canAll_1) (fun H locs hw => ?_)
  refine lv_aload_n hx hb dX6_canAll_4 rfl (lv_at hl 0 rfl) ?_
  refine g6_23 F hw tw_811 dX6_canAll_5 ?_
  refine lv_aload_n hx hb dX6_canAll_8 rfl (lv_at hl 0 rfl) ?_
  refine g6_22 F hw tw_745 dX6_canAll_9 ?_
  obtain ⟨g3, hf⟩ := gd_some hf
  refine x_lald F hw sM13 g3 dX6_canAll_12 ?_
  refine lv_lconst (v := 0) hx hb dX6_canAll_13 (by decide) ?_
  refine W.lcmp hx hb dX6_canAll_14 ?_
  refine lv_if_le (tgt := 22) hx hb dX6_canAll_15 (by decide) (fun c4 => ?_) (fun c4 => ?_)
  · have hf := it_t hf ((lc_le (M2.2 13 (Int32.toNatClampNeg (M2.1 0 22))) 0).mp c4)
    refine lv_iconst (v := 0) hx hb dX6_canAll_22 (by decide) ?_
    exact x_zret F hw hr hk (by decide) hf dX6_canAll_23
  · have hf := it_f hf (fun h9 => c4 ((lc_le (M2.2 13 (Int32.toNatClampNeg (M2.1 0 22))) 0).mpr h9))
    refine lv_iconst (v := 1) hx hb dX6_canAll_18 (by decide) ?_
    refine lv_goto (tgt := 23) hx hb dX6_canAll_19 (by decide) ?_
    exact x_zret F hw hr hk (by decide) hf dX6_canAll_23
theorem dX6_order_0 : decode cX6_order 0 = .ok (.iload_n 1, 1) := by decide +kernel
theorem dX6_order_1 : decode cX6_order 1 = .ok (.invokestatic 75, 3) := by decide +kernel
theorem dX6_order_4 : decode cX6_order 4 = .ok (.ifCond .ne 5, 3) := by decide +kernel
theorem dX6_order_7 : decode cX6_order 7 = .ok (.iconst (-1), 1) := by decide +kernel
theorem dX6_order_8 : decode cX6_order 8 = .ok (.ireturn, 1) := by decide +kernel
theorem dX6_order_9 : decode cX6_order 9 = .ok (.aload_n 0, 1) := by decide +kernel
theorem dX6_order_10 : decode cX6_order 10 = .ok (.getfield 140, 3) := by decide +kernel
theorem dX6_order_13 : decode cX6_order 13 = .ok (.ifCond .ne 6, 3) := by decide +kernel
theorem dX6_order_16 : decode cX6_order 16 = .ok (.bipush (-4), 2) := by decide +kernel
theorem dX6_order_18 : decode cX6_order 18 = .ok (.ireturn, 1) := by decide +kernel
theorem dX6_order_19 : decode cX6_order 19 = .ok (.aload_n 0, 1) := by decide +kernel
theorem dX6_order_20 : decode cX6_order 20 = .ok (.iconst 0, 1) := by decide +kernel
theorem dX6_order_21 : decode cX6_order 21 = .ok (.iconst 0, 1) := by decide +kernel
theorem dX6_order_22 : decode cX6_order 22 = .ok (.invokevirtual 231, 3) := by decide +kernel
theorem dX6_order_25 : decode cX6_order 25 = .ok (.aload_n 0, 1) := by decide +kernel
theorem dX6_order_26 : decode cX6_order 26 = .ok (.invokevirtual 234, 3) := by decide +kernel
theorem dX6_order_29 : decode cX6_order 29 = .ok (.aload_n 0, 1) := by decide +kernel
theorem dX6_order_30 : decode cX6_order 30 = .ok (.getfield 54, 3) := by decide +kernel
theorem dX6_order_33 : decode cX6_order 33 = .ok (.iconst 0, 1) := by decide +kernel
theorem dX6_order_34 : decode cX6_order 34 = .ok (.laload, 1) := by decide +kernel
theorem dX6_order_35 : decode cX6_order 35 = .ok (.lconst 0, 1) := by decide +kernel
theorem dX6_order_36 : decode cX6_order 36 = .ok (.lcmp, 1) := by decide +kernel
theorem dX6_order_37 : decode cX6_order 37 = .ok (.ifCond .ne 6, 3) := by decide +kernel
theorem dX6_order_40 : decode cX6_order 40 = .ok (.bipush (-9), 2) := by decide +kernel
theorem dX6_order_42 : decode cX6_order 42 = .ok (.ireturn, 1) := by decide +kernel
theorem dX6_order_43 : decode cX6_order 43 = .ok (.aload_n 0, 1) := by decide +kernel
theorem dX6_order_44 : decode cX6_order 44 = .ok (.getfield 219, 3) := by decide +kernel
theorem dX6_order_47 : decode cX6_order 47 = .ok (.invokestatic 170, 3) := by decide +kernel
theorem dX6_order_50 : decode cX6_order 50 = .ok (.istore_n 2, 1) := by decide +kernel
theorem dX6_order_51 : decode cX6_order 51 = .ok (.aload_n 0, 1) := by decide +kernel
theorem dX6_order_52 : decode cX6_order 52 = .ok (.iload_n 1, 1) := by decide +kernel
theorem dX6_order_53 : decode cX6_order 53 = .ok (.iload_n 2, 1) := by decide +kernel
theorem dX6_order_54 : decode cX6_order 54 = .ok (.invokevirtual 83, 3) := by decide +kernel
theorem dX6_order_57 : decode cX6_order 57 = .ok (.iconst 0, 1) := by decide +kernel
theorem dX6_order_58 : decode cX6_order 58 = .ok (.istore_n 3, 1) := by decide +kernel
theorem dX6_order_59 : decode cX6_order 59 = .ok (.iconst 0, 1) := by decide +kernel
theorem dX6_order_60 : decode cX6_order 60 = .ok (.istore 4, 2) := by decide +kernel
theorem dX6_order_62 : decode cX6_order 62 = .ok (.iload 4, 2) := by decide +kernel
theorem dX6_order_64 : decode cX6_order 64 = .ok (.iload_n 2, 1) := by decide +kernel
theorem dX6_order_65 : decode cX6_order 65 = .ok (.if_icmp .ge 65, 3) := by decide +kernel
theorem dX6_order_68 : decode cX6_order 68 = .ok (.iconst 0, 1) := by decide +kernel
theorem dX6_order_69 : decode cX6_order 69 = .ok (.istore 5, 2) := by decide +kernel
theorem dX6_order_71 : decode cX6_order 71 = .ok (.aload_n 0, 1) := by decide +kernel
theorem dX6_order_72 : decode cX6_order 72 = .ok (.iload 5, 2) := by decide +kernel
theorem dX6_order_74 : decode cX6_order 74 = .ok (.iload_n 3, 1) := by decide +kernel
theorem dX6_order_75 : decode cX6_order 75 = .ok (.invokevirtual 225, 3) := by decide +kernel
theorem dX6_order_78 : decode cX6_order 78 = .ok (.ifCond .eq 19, 3) := by decide +kernel
theorem dX6_order_81 : decode cX6_order 81 = .ok (.aload_n 0, 1) := by decide +kernel
theorem dX6_order_82 : decode cX6_order 82 = .ok (.getfield 54, 3) := by decide +kernel
theorem dX6_order_85 : decode cX6_order 85 = .ok (.iload_n 3, 1) := by decide +kernel
theorem dX6_order_86 : decode cX6_order 86 = .ok (.iconst 1, 1) := by decide +kernel
theorem dX6_order_87 : decode cX6_order 87 = .ok (.iload 5, 2) := by decide +kernel
theorem dX6_order_89 : decode cX6_order 89 = .ok (.ishl, 1) := by decide +kernel
theorem dX6_order_90 : decode cX6_order 90 = .ok (.ior, 1) := by decide +kernel
theorem dX6_order_91 : decode cX6_order 91 = .ok (.laload, 1) := by decide +kernel
theorem dX6_order_92 : decode cX6_order 92 = .ok (.lconst 0, 1) := by decide +kernel
theorem dX6_order_93 : decode cX6_order 93 = .ok (.lcmp, 1) := by decide +kernel
theorem dX6_order_94 : decode cX6_order 94 = .ok (.ifCond .ne 9, 3) := by decide +kernel
theorem dX6_order_97 : decode cX6_order 97 = .ok (.iinc 5 1, 3) := by decide +kernel
theorem dX6_order_100 : decode cX6_order 100 = .ok (.goto (-29), 3) := by decide +kernel
theorem dX6_order_103 : decode cX6_order 103 = .ok (.aload_n 0, 1) := by decide +kernel
theorem dX6_order_104 : decode cX6_order 104 = .ok (.getfield 19, 3) := by decide +kernel
theorem dX6_order_107 : decode cX6_order 107 = .ok (.bipush 40, 2) := by decide +kernel
theorem dX6_order_109 : decode cX6_order 109 = .ok (.iload_n 1, 1) := by decide +kernel
theorem dX6_order_110 : decode cX6_order 110 = .ok (.imul, 1) := by decide +kernel
theorem dX6_order_111 : decode cX6_order 111 = .ok (.iload 4, 2) := by decide +kernel
theorem dX6_order_113 : decode cX6_order 113 = .ok (.iadd, 1) := by decide +kernel
theorem dX6_order_114 : decode cX6_order 114 = .ok (.iload 5, 2) := by decide +kernel
theorem dX6_order_116 : decode cX6_order 116 = .ok (.iastore, 1) := by decide +kernel
theorem dX6_order_117 : decode cX6_order 117 = .ok (.iload_n 3, 1) := by decide +kernel
theorem dX6_order_118 : decode cX6_order 118 = .ok (.iconst 1, 1) := by decide +kernel
theorem dX6_order_119 : decode cX6_order 119 = .ok (.iload 5, 2) := by decide +kernel
theorem dX6_order_121 : decode cX6_order 121 = .ok (.ishl, 1) := by decide +kernel
theorem dX6_order_122 : decode cX6_order 122 = .ok (.ior, 1) := by decide +kernel
theorem dX6_order_123 : decode cX6_order 123 = .ok (.istore_n 3, 1) := by decide +kernel
theorem dX6_order_124 : decode cX6_order 124 = .ok (.iinc 4 1, 3) := by decide +kernel
theorem dX6_order_127 : decode cX6_order 127 = .ok (.goto (-65), 3) := by decide +kernel
theorem dX6_order_130 : decode cX6_order 130 = .ok (.iload_n 2, 1) := by decide +kernel
theorem dX6_order_131 : decode cX6_order 131 = .ok (.ireturn, 1) := by decide +kernel
def p6_order_97 (k62 : Int32 → Int32 → Int32 → Int32 → SX → Option (Int32 × SX)) (k71 : Int32 → Int32 → Int32 → Int32 → Int32 → SX → Option (Int32 × SX)) (v1 : Int32) (v2 : Int32) (v3 : Int32) (v4 : Int32) (v5 : Int32) (M : SX) : Option (Int32 × SX) :=
  lt_ (v5 + 1) (fun x1 => k71 v1 v2 v3 v4 x1 M)
set_option maxHeartbeats 4000000 in
set_option maxRecDepth 100000 in
theorem w6_order_97 {G : XG} {p : Program} {l : Launch} {e : Env} {s : State} {m : MethodId} {args : Array Value} {below : List Frame} {meth : Method} {c : Code} (F : Fx G ZY p m c cX6_order 6 s args RX6) (hr : meth.sig.returnType = some .int) (hk : meth.locks = false) {r : Int32} {M' : SX} (k62 : Int32 → Int32 → Int32 → Int32 → SX → Option (Int32 × SX)) (hk62 : ∀ (v1 : Int32) (v2 : Int32) (v3 : Int32) (v4 : Int32) (M : SX) (H : Heap) (locs : List Loc) (ls : Array Slot), Wld G ZY M s.heap H locs → lv_has ls 6 [(0, .ref (G.2.1 0)), (1, .int v1), (2, .int v2), (3, .int v3), (4, .int v4)] → k62 v1 v2 v3 v4 M = some (r, M') → WXi G ZY p l e 4 s m args below meth c r M' H locs (F0 m 62 ls [])) (k71 : Int32 → Int32 → Int32 → Int32 → Int32 → SX → Option (Int32 × SX)) (hk71 : ∀ (v1 : Int32) (v2 : Int32) (v3 : Int32) (v4 : Int32) (v5 : Int32) (M : SX) (H : Heap) (locs : List Loc) (ls : Array Slot), Wld G ZY M s.heap H locs → lv_has ls 6 [(0, .ref (G.2.1 0)), (1, .int v1), (2, .int v2), (3, .int v3), (4, .int v4), (5, .int v5)] → k71 v1 v2 v3 v4 v5 M = some (r, M') → WXi G ZY p l e 4 s m args below meth c r M' H locs (F0 m 71 ls [])) : ∀ (v1 : Int32) (v2 : Int32) (v3 : Int32) (v4 : Int32) (v5 : Int32) (M : SX) (H : Heap) (locs : List Loc) (ls : Array Slot), Wld G ZY M s.heap H locs → lv_has ls 6 [(0, .ref (G.2.1 0)), (1, .int v1), (2, .int v2), (3, .int v3), (4, .int v4), (5, .int v5)] → p6_order_97 k62 k71 v1 v2 v3 v4 v5 M = some (r, M') → WXi G ZY p l e 4 s m args below meth c r M' H locs (F0 m 97 ls []) := by
  intro v1 v2 v3 v4 v5 M H locs ls hw hl hf
  have hx := F.1.1
  have hb := F.1.2.1
  unfold p6_order_97 at hf
  obtain ⟨x1, ex1, hf⟩ := lt_elim hf
  refine lv_iinc (v := x1) (lv' := [(5, .int x1), (0, .ref (G.2.1 0)), (1, .int v1), (2, .int v2), (3, .int v3), (4, .int v4)]) hx hb dX6_order_97 hl (k := 5) rfl (by rw [ex1]; rfl) (by decide) rfl (fun ls hl => ?_)
  refine lv_goto (tgt := 71) hx hb dX6_order_100 (by decide) ?_
  exact hk71 v1 v2 v3 v4 x1 M _ _ ls hw (lv_sub hl [1, 2, 3, 4, 5, 0] rfl) hf
def p6_order_71 (k62 : Int32 → Int32 → Int32 → Int32 → SX → Option (Int32 × SX)) (k71 : Int32 → Int32 → Int32 → Int32 → Int32 → SX → Option (Int32 × SX)) (v1 : Int32) (v2 : Int32) (v3 : Int32) (v4 : Int32) (v5 : Int32) (M : SX) : Option (Int32 × SX) :=
  bd (p6_next v5 v3 M) (fun r3 M2 => if r3 = 0 then (p6_order_97 k62 k71 v1 v2 v3 v4 v5 M2)
  else (gd (bIn (v3 ||| ((1 : Int32) <<< (v5 &&& 31))) 64) ( if (M2.2 14 (Int32.toNatClampNeg (v3 ||| ((1 : Int32) <<< (v5 &&& 31))))) = 0 then (p6_order_97 k62 k71 v1 v2 v3 v4 v5 M2)
  else (gd (bIn ((40 * v1) + v4) 240) ( lt_ (wI M2 4 (Int32.toNatClampNeg ((40 * v1) + v4)) v5) (fun M8 => lt_ (v3 ||| ((1 : Int32) <<< (v5 &&& 31))) (fun x9 => lt_ (v4 + 1) (fun x10 => k62 v1 v2 x9 x10 M8))))))))
set_option maxHeartbeats 4000000 in
set_option maxRecDepth 100000 in
theorem w6_order_71 {G : XG} {p : Program} {l : Launch} {e : Env} {s : State} {m : MethodId} {args : Array Value} {below : List Frame} {meth : Method} {c : Code} (F : Fx G ZY p m c cX6_order 6 s args RX6) (hr : meth.sig.returnType = some .int) (hk : meth.locks = false) {r : Int32} {M' : SX} (k62 : Int32 → Int32 → Int32 → Int32 → SX → Option (Int32 × SX)) (hk62 : ∀ (v1 : Int32) (v2 : Int32) (v3 : Int32) (v4 : Int32) (M : SX) (H : Heap) (locs : List Loc) (ls : Array Slot), Wld G ZY M s.heap H locs → lv_has ls 6 [(0, .ref (G.2.1 0)), (1, .int v1), (2, .int v2), (3, .int v3), (4, .int v4)] → k62 v1 v2 v3 v4 M = some (r, M') → WXi G ZY p l e 4 s m args below meth c r M' H locs (F0 m 62 ls [])) (k71 : Int32 → Int32 → Int32 → Int32 → Int32 → SX → Option (Int32 × SX)) (hk71 : ∀ (v1 : Int32) (v2 : Int32) (v3 : Int32) (v4 : Int32) (v5 : Int32) (M : SX) (H : Heap) (locs : List Loc) (ls : Array Slot), Wld G ZY M s.heap H locs → lv_has ls 6 [(0, .ref (G.2.1 0)), (1, .int v1), (2, .int v2), (3, .int v3), (4, .int v4), (5, .int v5)] → k71 v1 v2 v3 v4 v5 M = some (r, M') → WXi G ZY p l e 4 s m args below meth c r M' H locs (F0 m 71 ls [])) : ∀ (v1 : Int32) (v2 : Int32) (v3 : Int32) (v4 : Int32) (v5 : Int32) (M : SX) (H : Heap) (locs : List Loc) (ls : Array Slot), Wld G ZY M s.heap H locs → lv_has ls 6 [(0, .ref (G.2.1 0)), (1, .int v1), (2, .int v2), (3, .int v3), (4, .int v4), (5, .int v5)] → p6_order_71 k62 k71 v1 v2 v3 v4 v5 M = some (r, M') → WXi G ZY p l e 4 s m args below meth c r M' H locs (F0 m 71 ls []) := by
  intro v1 v2 v3 v4 v5 M H locs ls hw hl hf
  have hx := F.1.1
  have hb := F.1.2.1
  unfold p6_order_71 at hf
  refine lv_aload_n hx hb dX6_order_71 rfl (lv_at hl 0 rfl) ?_
  refine lv_iload hx hb dX6_order_72 (lv_at hl 5 rfl) ?_
  refine lv_iload_n hx hb dX6_order_74 rfl (lv_at hl 3 rfl) ?_
  obtain ⟨r3, M2, hc1, hf⟩ := bd_some hf
  refine x_aftI hw (x_runV (rest := []) F hw hl.1 vw_RX6_225 (sM) rfl (c6_next v5 v3 hc1) rfl rfl (Nat.le_of_ble_eq_true rfl) ⟨Nat.le_of_ble_eq_true rfl, Nat.le_of_ble_eq_true rfl⟩ dX6_order_75) (fun H locs hw => ?_)
  refine lv_if_eq (tgt := 97) hx hb dX6_order_78 (by decide) (fun c4 => ?_) (fun c4 => ?_)
  · have hf := it_t hf c4
    exact w6_order_97 F hr hk k62 hk62 k71 hk71 v1 v2 v3 v4 v5 M2 _ _ ls hw (lv_sub hl [0, 1, 2, 3, 4, 5] rfl) hf
  · have hf := it_f hf c4
    refine lv_aload_n hx hb dX6_order_81 rfl (lv_at hl 0 rfl) ?_
    refine g6_24 F hw tw_817 dX6_order_82 ?_
    refine lv_iload_n hx hb dX6_order_85 rfl (lv_at hl 3 rfl) ?_
    refine lv_iconst (v := 1) hx hb dX6_order_86 (by decide) ?_
    refine lv_iload hx hb dX6_order_87 (lv_at hl 5 rfl) ?_
    refine lv_ishl hx hb dX6_order_89 ?_
    refine lv_ior hx hb dX6_order_90 ?_
    obtain ⟨g5, hf⟩ := gd_some hf
    refine x_lald F hw sM14 g5 dX6_order_91 ?_
    refine lv_lconst (v := 0) hx hb dX6_order_92 (by decide) ?_
    refine W.lcmp hx hb dX6_order_93 ?_
    refine lv_if_ne (tgt := 103) hx hb dX6_order_94 (by decide) (fun c6 => ?_) (fun c6 => ?_)
    · have hf := it_f hf (fun h9 => c6 ((lc_eq (M2.2 14 (Int32.toNatClampNeg (v3 ||| ((1 : Int32) <<< (v5 &&& 31))))) 0).mpr h9))
      refine lv_aload_n hx hb dX6_order_103 rfl (lv_at hl 0 rfl) ?_
      refine g6_4 F hw tw_605 dX6_order_104 ?_
      refine lv_bipush (v := 40) hx hb dX6_order_107 (by decide) ?_
      refine lv_iload_n hx hb dX6_order_109 rfl (lv_at hl 1 rfl) ?_
      refine lv_imul hx hb dX6_order_110 ?_
      refine lv_iload hx hb dX6_order_111 (lv_at hl 4 rfl) ?_
      refine lv_iadd hx hb dX6_order_113 ?_
      refine lv_iload hx hb dX6_order_114 (lv_at hl 5 rfl) ?_
      obtain ⟨g7, hf⟩ := gd_some hf
      refine x_iast F hw sM4 g7 dX6_order_116 (fun H locs hw => ?_)
      obtain ⟨M8, eM8, hf⟩ := lt_elim hf
      rw [← eM8] at hw
      refine lv_iload_n hx hb dX6_order_117 rfl (lv_at hl 3 rfl) ?_
      refine lv_iconst (v := 1) hx hb dX6_order_118 (by decide) ?_
      refine lv_iload hx hb dX6_order_119 (lv_at hl 5 rfl) ?_
      refine lv_ishl hx hb dX6_order_121 ?_
      refine lv_ior hx hb dX6_order_122 ?_
      obtain ⟨x9, ex9, hf⟩ := lt_elim hf
      refine x_let ex9 ?_
      refine lv_istore_n (lv' := [(3, .int x9), (0, .ref (G.2.1 0)), (1, .int v1), (2, .int v2), (4, .int v4), (5, .int v5)]) hx hb dX6_order_123 rfl hl (by decide) rfl (fun ls hl => ?_)
      obtain ⟨x10, ex10, hf⟩ := lt_elim hf
      refine lv_iinc (v := x10) (lv' := [(4, .int x10), (3, .int x9), (0, .ref (G.2.1 0)), (1, .int v1), (2, .int v2), (5, .int v5)]) hx hb dX6_order_124 hl (k := 4) rfl (by rw [ex10]; rfl) (by decide) rfl (fun ls hl => ?_)
      refine lv_goto (tgt := 62) hx hb dX6_order_127 (by decide) ?_
      exact hk62 v1 v2 x9 x10 M8 _ _ ls hw (lv_sub hl [2, 3, 4, 1, 0] rfl) hf
    · have hf := it_t hf ((lc_eq (M2.2 14 (Int32.toNatClampNeg (v3 ||| ((1 : Int32) <<< (v5 &&& 31))))) 0).mp c6)
      exact w6_order_97 F hr hk k62 hk62 k71 hk71 v1 v2 v3 v4 v5 M2 _ _ ls hw (lv_sub hl [0, 1, 2, 3, 4, 5] rfl) hf
theorem z6_order_71 {G : XG} {p : Program} {l : Launch} {e : Env} {s : State} {m : MethodId} {args : Array Value} {below : List Frame} {meth : Method} {c : Code} (F : Fx G ZY p m c cX6_order 6 s args RX6) (hr : meth.sig.returnType = some .int) (hk : meth.locks = false) {r : Int32} {M' : SX} (k62 : Int32 → Int32 → Int32 → Int32 → SX → Option (Int32 × SX)) (hk62 : ∀ (v1 : Int32) (v2 : Int32) (v3 : Int32) (v4 : Int32) (M : SX) (H : Heap) (locs : List Loc) (ls : Array Slot), Wld G ZY M s.heap H locs → lv_has ls 6 [(0, .ref (G.2.1 0)), (1, .int v1), (2, .int v2), (3, .int v3), (4, .int v4)] → k62 v1 v2 v3 v4 M = some (r, M') → WXi G ZY p l e 4 s m args below meth c r M' H locs (F0 m 62 ls [])) : ∀ n : Nat, ∀ (v1 : Int32) (v2 : Int32) (v3 : Int32) (v4 : Int32) (v5 : Int32) (M : SX) (H : Heap) (locs : List Loc) (ls : Array Slot), Wld G ZY M s.heap H locs → lv_has ls 6 [(0, .ref (G.2.1 0)), (1, .int v1), (2, .int v2), (3, .int v3), (4, .int v4), (5, .int v5)] → xlp5 (p6_order_71 k62) n v1 v2 v3 v4 v5 M = some (r, M') → WXi G ZY p l e 4 s m args below meth c r M' H locs (F0 m 71 ls []) := by
  intro n
  induction n with
  | zero => intro _ _ _ _ _ _ _ _ _ _ _ hf; cases hf
  | succ n ih => exact w6_order_71 F hr hk k62 hk62 (xlp5 (p6_order_71 k62) n) ih
def p6_order_62 (k62 : Int32 → Int32 → Int32 → Int32 → SX → Option (Int32 × SX)) (v1 : Int32) (v2 : Int32) (v3 : Int32) (v4 : Int32) (M : SX) : Option (Int32 × SX) :=
  if v2 ≤ v4 then (some (v2, M))
  else (xlp5 (p6_order_71 k62) FU v1 v2 v3 v4 0 M)
set_option maxHeartbeats 4000000 in
set_option maxRecDepth 100000 in
theorem w6_order_62 {G : XG} {p : Program} {l : Launch} {e : Env} {s : State} {m : MethodId} {args : Array Value} {below : List Frame} {meth : Method} {c : Code} (F : Fx G ZY p m c cX6_order 6 s args RX6) (hr : meth.sig.returnType = some .int) (hk : meth.locks = false) {r : Int32} {M' : SX} (k62 : Int32 → Int32 → Int32 → Int32 → SX → Option (Int32 × SX)) (hk62 : ∀ (v1 : Int32) (v2 : Int32) (v3 : Int32) (v4 : Int32) (M : SX) (H : Heap) (locs : List Loc) (ls : Array Slot), Wld G ZY M s.heap H locs → lv_has ls 6 [(0, .ref (G.2.1 0)), (1, .int v1), (2, .int v2), (3, .int v3), (4, .int v4)] → k62 v1 v2 v3 v4 M = some (r, M') → WXi G ZY p l e 4 s m args below meth c r M' H locs (F0 m 62 ls [])) : ∀ (v1 : Int32) (v2 : Int32) (v3 : Int32) (v4 : Int32) (M : SX) (H : Heap) (locs : List Loc) (ls : Array Slot), Wld G ZY M s.heap H locs → lv_has ls 6 [(0, .ref (G.2.1 0)), (1, .int v1), (2, .int v2), (3, .int v3), (4, .int v4)] → p6_order_62 k62 v1 v2 v3 v4 M = some (r, M') → WXi G ZY p l e 4 s m args below meth c r M' H locs (F0 m 62 ls []) := by
  intro v1 v2 v3 v4 M H locs ls hw hl hf
  have hx := F.1.1
  have hb := F.1.2.1
  unfold p6_order_62 at hf
  refine lv_iload hx hb dX6_order_62 (lv_at hl 4 rfl) ?_
  refine lv_iload_n hx hb dX6_order_64 rfl (lv_at hl 2 rfl) ?_
  refine lv_icmp_ge (tgt := 130) hx hb dX6_order_65 (by decide) (fun c1 => ?_) (fun c1 => ?_)
  · have hf := it_t hf c1
    refine lv_iload_n hx hb dX6_order_130 rfl (lv_at hl 2 rfl) ?_
    exact x_iret F hw hr hk hf dX6_order_131
  · have hf := it_f hf c1
    refine lv_iconst (v := 0) hx hb dX6_order_68 (by decide) ?_
    refine lv_istore (lv' := [(5, .int 0), (0, .ref (G.2.1 0)), (1, .int v1), (2, .int v2), (3, .int v3), (4, .int v4)]) hx hb dX6_order_69 hl (by decide) rfl (fun ls hl => ?_)
    exact z6_order_71 F hr hk k62 hk62 FU v1 v2 v3 v4 0 M _ _ ls hw (lv_sub hl [1, 2, 3, 4, 5, 0] rfl) hf
theorem z6_order_62 {G : XG} {p : Program} {l : Launch} {e : Env} {s : State} {m : MethodId} {args : Array Value} {below : List Frame} {meth : Method} {c : Code} (F : Fx G ZY p m c cX6_order 6 s args RX6) (hr : meth.sig.returnType = some .int) (hk : meth.locks = false) {r : Int32} {M' : SX} : ∀ n : Nat, ∀ (v1 : Int32) (v2 : Int32) (v3 : Int32) (v4 : Int32) (M : SX) (H : Heap) (locs : List Loc) (ls : Array Slot), Wld G ZY M s.heap H locs → lv_has ls 6 [(0, .ref (G.2.1 0)), (1, .int v1), (2, .int v2), (3, .int v3), (4, .int v4)] → xlp4 p6_order_62 n v1 v2 v3 v4 M = some (r, M') → WXi G ZY p l e 4 s m args below meth c r M' H locs (F0 m 62 ls []) := by
  intro n
  induction n with
  | zero => intro _ _ _ _ _ _ _ _ _ _ hf; cases hf
  | succ n ih => exact w6_order_62 F hr hk (xlp4 p6_order_62 n) ih
def p6_order (a1 : Int32) (M : SX) : Option (Int32 × SX) :=
  bd (p6_isRow a1 M) (fun r3 M2 => if r3 = 0 then (some ((-1), M2))
  else (if (M2.1 0 1) = 0 then (some ((-4), M2))
  else (bv (p6_layTried 0 0 M2) (fun M7 => bv (p6_layOn M7) (fun M9 => gd (bIn 0 64) ( if (M9.2 14 (Int32.toNatClampNeg 0)) = 0 then (some ((-9), M9))
  else (bd (p6_bits (M9.1 0 22) M9) (fun r14 M13 => bv (p6_makeRow a1 r14 M13) (fun M16 => xlp4 p6_order_62 FU a1 r14 0 0 M16)))))))))
set_option maxHeartbeats 4000000 in
set_option maxRecDepth 100000 in
theorem c6_order {l : Launch} {G : XG} {r : Int32} {M' : SX} {M : SX} (a1 : Int32) (hf : p6_order a1 M = some (r, M')) : Met l yX6_order (.code yX6_order cX6_order 6 (some .int) :: TBL) (rmX 4) (xPc G ZY M [.ref (G.2.1 0), .int a1]) (xQi G ZY r M') 0 0 (inA G ZY) := by
  refine x_met (cc := cX6_order) (by decide) (Nat.le_of_ble_eq_true rfl) ?_
  intro p e s m below meth c ls F hr hk hl hw
  have F : Fx G ZY p m c cX6_order 6 s [.ref (G.2.1 0), .int a1].toArray RX6 := F
  have hl : lv_has ls 6 [(0, .ref (G.2.1 0)), (1, .int a1)] := hl
  have hx := F.1.1
  have hb := F.1.2.1
  unfold p6_order at hf
  refine lv_iload_n hx hb dX6_order_0 rfl (lv_at hl 1 rfl) ?_
  obtain ⟨r3, M2, hc1, hf⟩ := bd_some hf
  refine x_aftI hw (x_runS (rest := []) F hw hl.1 sw_RX6_75 (c6_isRow a1 hc1) rfl rfl (Nat.le_of_ble_eq_true rfl) ⟨Nat.le_of_ble_eq_true rfl, Nat.le_of_ble_eq_true rfl⟩ dX6_order_1) (fun H locs hw => ?_)
  refine lv_if_ne (tgt := 9) hx hb dX6_order_4 (by decide) (fun c4 => ?_) (fun c4 => ?_)
  · have hf := it_f hf c4
    refine lv_aload_n hx hb dX6_order_9 rfl (lv_at hl 0 rfl) ?_
    refine g6_1 F hw tw_611 dX6_order_10 ?_
    refine lv_if_ne (tgt := 19) hx hb dX6_order_13 (by decide) (fun c5 => ?_) (fun c5 => ?_)
    · have hf := it_f hf c5
      refine lv_aload_n hx hb dX6_order_19 rfl (lv_at hl 0 rfl) ?_
      refine lv_iconst (v := 0) hx hb dX6_order_20 (by decide) ?_
      refine lv_iconst (v := 0) hx hb dX6_order_21 (by decide) ?_
      obtain ⟨M7, hc6, hf⟩ := bv_some hf
      refine x_aftV hw (x_runV (rest := []) F hw hl.1 vw_RX6_231 (sM) rfl (c6_layTried 0 0 hc6) rfl rfl (Nat.le_of_ble_eq_true rfl) ⟨Nat.le_of_ble_eq_true rfl, Nat.le_of_ble_eq_true rfl⟩ dX6_order_22) (fun H locs hw => ?_)
      refine lv_aload_n hx hb dX6_order_25 rfl (lv_at hl 0 rfl) ?_
      obtain ⟨M9, hc8, hf⟩ := bv_some hf
      refine x_aftV hw (x_runV (rest := []) F hw hl.1 vw_RX6_234 (sM) rfl (c6_layOn hc8) rfl rfl (Nat.le_of_ble_eq_true rfl) ⟨Nat.le_of_ble_eq_true rfl, Nat.le_of_ble_eq_true rfl⟩ dX6_order_26) (fun H locs hw => ?_)
      refine lv_aload_n hx hb dX6_order_29 rfl (lv_at hl 0 rfl) ?_
      refine g6_24 F hw tw_817 dX6_order_30 ?_
      refine lv_iconst (v := 0) hx hb dX6_order_33 (by decide) ?_
      obtain ⟨g10, hf⟩ := gd_some hf
      refine x_lald F hw sM14 g10 dX6_order_34 ?_
      refine lv_lconst (v := 0) hx hb dX6_order_35 (by decide) ?_
      refine W.lcmp hx hb dX6_order_36 ?_
      refine lv_if_ne (tgt := 43) hx hb dX6_order_37 (by decide) (fun c11 => ?_) (fun c11 => ?_)
      · have hf := it_f hf (fun h9 => c11 ((lc_eq (M9.2 14 (Int32.toNatClampNeg 0)) 0).mpr h9))
        refine lv_aload_n hx hb dX6_order_43 rfl (lv_at hl 0 rfl) ?_
        refine g6_22 F hw tw_745 dX6_order_44 ?_
        obtain ⟨r14, M13, hc12, hf⟩ := bd_some hf
        refine x_aftI hw (x_runS (rest := []) F hw hl.1 sw_RX6_170 (c6_bits (M9.1 0 22) hc12) rfl rfl (Nat.le_of_ble_eq_true rfl) ⟨Nat.le_of_ble_eq_true rfl, Nat.le_of_ble_eq_true rfl⟩ dX6_order_47) (fun H locs hw => ?_)
        refine lv_istore_n (lv' := [(2, .int r14), (0, .ref (G.2.1 0)), (1, .int a1)]) hx hb dX6_order_50 rfl hl (by decide) rfl (fun ls hl => ?_)
        refine lv_aload_n hx hb dX6_order_51 rfl (lv_at hl 1 rfl) ?_
        refine lv_iload_n hx hb dX6_order_52 rfl (lv_at hl 2 rfl) ?_
        refine lv_iload_n hx hb dX6_order_53 rfl (lv_at hl 0 rfl) ?_
        obtain ⟨M16, hc15, hf⟩ := bv_some hf
        refine x_aftV hw (x_runV (rest := []) F hw hl.1 vw_RX6_83 (sM) rfl (c6_makeRow a1 r14 hc15) rfl rfl (Nat.le_of_ble_eq_true rfl) ⟨Nat.le_of_ble_eq_true rfl, Nat.le_of_ble_eq_true rfl⟩ dX6_order_54) (fun H locs hw => ?_)
        refine lv_iconst (v := 0) hx hb dX6_order_57 (by decide) ?_
        refine lv_istore_n (lv' := [(3, .int 0), (2, .int r14), (0, .ref (G.2.1 0)), (1, .int a1)]) hx hb dX6_order_58 rfl hl (by decide) rfl (fun ls hl => ?_)
        refine lv_iconst (v := 0) hx hb dX6_order_59 (by decide) ?_
        refine lv_istore (lv' := [(4, .int 0), (3, .int 0), (2, .int r14), (0, .ref (G.2.1 0)), (1, .int a1)]) hx hb dX6_order_60 hl (by decide) rfl (fun ls hl => ?_)
        exact z6_order_62 F hr hk FU a1 r14 0 0 M16 _ _ ls hw (lv_sub hl [3, 4, 2, 1, 0] rfl) hf
      · have hf := it_t hf ((lc_eq (M9.2 14 (Int32.toNatClampNeg 0)) 0).mp c11)
        refine lv_bipush (v := (-9)) hx hb dX6_order_40 (by decide) ?_
        exact x_iret F hw hr hk hf dX6_order_42
    · have hf := it_t hf c5
      refine lv_bipush (v := (-4)) hx hb dX6_order_16 (by decide) ?_
      exact x_iret F hw hr hk hf dX6_order_18
  · have hf := it_t hf c4
    refine lv_iconst (v := (-1)) hx hb dX6_order_7 (by decide) ?_
    exact x_iret F hw hr hk hf dX6_order_8
