theorem dX3_takesOfShop_0 : decode cX3_takesOfShop 0 = .ok (.aload_n 0, 1) := by decide +kernel
theorem dX3_takesOfShop_1 : decode cX3_takesOfShop 1 = .ok (.getfield 12, 3) := by decide +kernel
theorem dX3_takesOfShop_4 : decode cX3_takesOfShop 4 = .ok (.getfield 49, 3) := by decide +kernel
theorem dX3_takesOfShop_7 : decode cX3_takesOfShop 7 = .ok (.iconst 1, 1) := by decide +kernel
theorem dX3_takesOfShop_8 : decode cX3_takesOfShop 8 = .ok (.isub, 1) := by decide +kernel
theorem dX3_takesOfShop_9 : decode cX3_takesOfShop 9 = .ok (.istore_n 2, 1) := by decide +kernel
theorem dX3_takesOfShop_10 : decode cX3_takesOfShop 10 = .ok (.iload_n 2, 1) := by decide +kernel
theorem dX3_takesOfShop_11 : decode cX3_takesOfShop 11 = .ok (.ifCond .ge 5, 3) := by decide +kernel
theorem dX3_takesOfShop_14 : decode cX3_takesOfShop 14 = .ok (.iconst 0, 1) := by decide +kernel
theorem dX3_takesOfShop_15 : decode cX3_takesOfShop 15 = .ok (.ireturn, 1) := by decide +kernel
theorem dX3_takesOfShop_16 : decode cX3_takesOfShop 16 = .ok (.aload_n 0, 1) := by decide +kernel
theorem dX3_takesOfShop_17 : decode cX3_takesOfShop 17 = .ok (.getfield 18, 3) := by decide +kernel
theorem dX3_takesOfShop_20 : decode cX3_takesOfShop 20 = .ok (.iconst 1, 1) := by decide +kernel
theorem dX3_takesOfShop_21 : decode cX3_takesOfShop 21 = .ok (.if_icmp .ne 21, 3) := by decide +kernel
theorem dX3_takesOfShop_24 : decode cX3_takesOfShop 24 = .ok (.aload_n 0, 1) := by decide +kernel
theorem dX3_takesOfShop_25 : decode cX3_takesOfShop 25 = .ok (.getfield 12, 3) := by decide +kernel
theorem dX3_takesOfShop_28 : decode cX3_takesOfShop 28 = .ok (.getfield 68, 3) := by decide +kernel
theorem dX3_takesOfShop_31 : decode cX3_takesOfShop 31 = .ok (.iload_n 2, 1) := by decide +kernel
theorem dX3_takesOfShop_32 : decode cX3_takesOfShop 32 = .ok (.iload_n 1, 1) := by decide +kernel
theorem dX3_takesOfShop_33 : decode cX3_takesOfShop 33 = .ok (.iastore, 1) := by decide +kernel
theorem dX3_takesOfShop_34 : decode cX3_takesOfShop 34 = .ok (.aload_n 0, 1) := by decide +kernel
theorem dX3_takesOfShop_35 : decode cX3_takesOfShop 35 = .ok (.iconst 2, 1) := by decide +kernel
theorem dX3_takesOfShop_36 : decode cX3_takesOfShop 36 = .ok (.putfield 18, 3) := by decide +kernel
theorem dX3_takesOfShop_39 : decode cX3_takesOfShop 39 = .ok (.goto 18, 3) := by decide +kernel
theorem dX3_takesOfShop_42 : decode cX3_takesOfShop 42 = .ok (.aload_n 0, 1) := by decide +kernel
theorem dX3_takesOfShop_43 : decode cX3_takesOfShop 43 = .ok (.getfield 12, 3) := by decide +kernel
theorem dX3_takesOfShop_46 : decode cX3_takesOfShop 46 = .ok (.getfield 72, 3) := by decide +kernel
theorem dX3_takesOfShop_49 : decode cX3_takesOfShop 49 = .ok (.iload_n 2, 1) := by decide +kernel
theorem dX3_takesOfShop_50 : decode cX3_takesOfShop 50 = .ok (.iload_n 1, 1) := by decide +kernel
theorem dX3_takesOfShop_51 : decode cX3_takesOfShop 51 = .ok (.iastore, 1) := by decide +kernel
theorem dX3_takesOfShop_52 : decode cX3_takesOfShop 52 = .ok (.aload_n 0, 1) := by decide +kernel
theorem dX3_takesOfShop_53 : decode cX3_takesOfShop 53 = .ok (.iconst 0, 1) := by decide +kernel
theorem dX3_takesOfShop_54 : decode cX3_takesOfShop 54 = .ok (.putfield 18, 3) := by decide +kernel
theorem dX3_takesOfShop_57 : decode cX3_takesOfShop 57 = .ok (.iconst 1, 1) := by decide +kernel
theorem dX3_takesOfShop_58 : decode cX3_takesOfShop 58 = .ok (.ireturn, 1) := by decide +kernel
def p3_takesOfShop (a1 : Int32) (M : SX) : Option (Int32 × SX) :=
  lt_ ((M.1 8 0) - 1) (fun x1 => if 0 ≤ x1 then (if (M.1 7 1) = (1 : Int32) then (gd (bIn x1 6) ( lt_ (wI M (8 + 2) (Int32.toNatClampNeg x1) a1) (fun M8 => lt_ (wI M8 7 1 2) (fun M9 => some (1, M9)))))
  else (gd (bIn x1 6) ( lt_ (wI M (8 + 3) (Int32.toNatClampNeg x1) a1) (fun M5 => lt_ (wI M5 7 1 0) (fun M6 => some (1, M6))))))
  else (some (0, M)))
set_option maxHeartbeats 4000000 in
set_option maxRecDepth 100000 in
theorem c3_takesOfShop {l : Launch} {G : XG} {r : Int32} {M' : SX} {M : SX} (a1 : Int32) (hf : p3_takesOfShop a1 M = some (r, M')) : Met l yX3_takesOfShop (.code yX3_takesOfShop cX3_takesOfShop 3 (some .boolean) :: TBL) (rmX 0) (xPc G ZX M [.ref (G.2.1 7), .int a1]) (xQi G ZX r M') 0 0 (inA G ZX) := by
  refine x_met (cc := cX3_takesOfShop) (by decide) (Nat.le_of_ble_eq_true rfl) ?_
  intro p e s m below meth c ls F hr hk hl hw
  have F : Fx G ZX p m c cX3_takesOfShop 3 s [.ref (G.2.1 7), .int a1].toArray RX3 := F
  have hl : lv_has ls 3 [(0, .ref (G.2.1 7)), (1, .int a1)] := hl
  have hx := F.1.1
  have hb := F.1.2.1
  unfold p3_takesOfShop at hf
  refine lv_aload_n hx hb dX3_takesOfShop_0 rfl (lv_at hl 0 rfl) ?_
  refine g3_0 F hw tw_173 dX3_takesOfShop_1 ?_
  refine g1_0 isL_8 F hw tw_174 dX3_takesOfShop_4 ?_
  refine lv_iconst (v := 1) hx hb dX3_takesOfShop_7 (by decide) ?_
  refine lv_isub hx hb dX3_takesOfShop_8 ?_
  obtain ⟨x1, ex1, hf⟩ := lt_elim hf
  refine x_let ex1 ?_
  refine lv_istore_n (lv' := [(2, .int x1), (0, .ref (G.2.1 7)), (1, .int a1)]) hx hb dX3_takesOfShop_9 rfl hl (by decide) rfl (fun ls hl => ?_)
  refine lv_iload_n hx hb dX3_takesOfShop_10 rfl (lv_at hl 0 rfl) ?_
  refine lv_if_ge (tgt := 16) hx hb dX3_takesOfShop_11 (by decide) (fun c2 => ?_) (fun c2 => ?_)
  · have hf := it_t hf c2
    refine lv_aload_n hx hb dX3_takesOfShop_16 rfl (lv_at hl 1 rfl) ?_
    refine g3_1 F hw tw_175 dX3_takesOfShop_17 ?_
    refine lv_iconst (v := 1) hx hb dX3_takesOfShop_20 (by decide) ?_
    refine lv_icmp_ne (tgt := 42) hx hb dX3_takesOfShop_21 (by decide) (fun c3 => ?_) (fun c3 => ?_)
    · have hf := it_f hf c3
      refine lv_aload_n hx hb dX3_takesOfShop_42 rfl (lv_at hl 1 rfl) ?_
      refine g3_0 F hw tw_173 dX3_takesOfShop_43 ?_
      refine g1_3 isL_8 F hw tw_176 dX3_takesOfShop_46 ?_
      refine lv_iload_n hx hb dX3_takesOfShop_49 rfl (lv_at hl 0 rfl) ?_
      refine lv_iload_n hx hb dX3_takesOfShop_50 rfl (lv_at hl 2 rfl) ?_
      obtain ⟨g4, hf⟩ := gd_some hf
      refine x_iast F hw (sL3 isL_8) g4 dX3_takesOfShop_51 (fun H locs hw => ?_)
      obtain ⟨M5, eM5, hf⟩ := lt_elim hf
      rw [← eM5] at hw
      refine lv_aload_n hx hb dX3_takesOfShop_52 rfl (lv_at hl 1 rfl) ?_
      refine lv_iconst (v := 0) hx hb dX3_takesOfShop_53 (by decide) ?_
      refine s3_1 F hw tw_175 dX3_takesOfShop_54 (fun H locs hw => ?_)
      obtain ⟨M6, eM6, hf⟩ := lt_elim hf
      rw [← eM6] at hw
      refine lv_iconst (v := 1) hx hb dX3_takesOfShop_57 (by decide) ?_
      exact x_zret F hw hr hk (by decide) hf dX3_takesOfShop_58
    · have hf := it_t hf c3
      refine lv_aload_n hx hb dX3_takesOfShop_24 rfl (lv_at hl 1 rfl) ?_
      refine g3_0 F hw tw_173 dX3_takesOfShop_25 ?_
      refine g1_2 isL_8 F hw tw_177 dX3_takesOfShop_28 ?_
      refine lv_iload_n hx hb dX3_takesOfShop_31 rfl (lv_at hl 0 rfl) ?_
      refine lv_iload_n hx hb dX3_takesOfShop_32 rfl (lv_at hl 2 rfl) ?_
      obtain ⟨g7, hf⟩ := gd_some hf
      refine x_iast F hw (sL2 isL_8) g7 dX3_takesOfShop_33 (fun H locs hw => ?_)
      obtain ⟨M8, eM8, hf⟩ := lt_elim hf
      rw [← eM8] at hw
      refine lv_aload_n hx hb dX3_takesOfShop_34 rfl (lv_at hl 1 rfl) ?_
      refine lv_iconst (v := 2) hx hb dX3_takesOfShop_35 (by decide) ?_
      refine s3_1 F hw tw_175 dX3_takesOfShop_36 (fun H locs hw => ?_)
      obtain ⟨M9, eM9, hf⟩ := lt_elim hf
      rw [← eM9] at hw
      refine lv_goto (tgt := 57) hx hb dX3_takesOfShop_39 (by decide) ?_
      refine lv_iconst (v := 1) hx hb dX3_takesOfShop_57 (by decide) ?_
      exact x_zret F hw hr hk (by decide) hf dX3_takesOfShop_58
  · have hf := it_f hf c2
    refine lv_iconst (v := 0) hx hb dX3_takesOfShop_14 (by decide) ?_
    exact x_zret F hw hr hk (by decide) hf dX3_takesOfShop_15
theorem dX3_kindOf_0 : decode cX3_kindOf 0 = .ok (.iload_n 0, 1) := by decide +kernel
theorem dX3_kindOf_1 : decode cX3_kindOf 1 = .ok (.lookupswitch 71 #[(97, 67), (104, 63), (115, 59), (117, 61), (118, 69), (119, 65)], 59) := by decide +kernel
theorem dX3_kindOf_60 : decode cX3_kindOf 60 = .ok (.iconst 0, 1) := by decide +kernel
theorem dX3_kindOf_61 : decode cX3_kindOf 61 = .ok (.ireturn, 1) := by decide +kernel
theorem dX3_kindOf_62 : decode cX3_kindOf 62 = .ok (.iconst 1, 1) := by decide +kernel
theorem dX3_kindOf_63 : decode cX3_kindOf 63 = .ok (.ireturn, 1) := by decide +kernel
theorem dX3_kindOf_64 : decode cX3_kindOf 64 = .ok (.iconst 2, 1) := by decide +kernel
theorem dX3_kindOf_65 : decode cX3_kindOf 65 = .ok (.ireturn, 1) := by decide +kernel
theorem dX3_kindOf_66 : decode cX3_kindOf 66 = .ok (.iconst 3, 1) := by decide +kernel
theorem dX3_kindOf_67 : decode cX3_kindOf 67 = .ok (.ireturn, 1) := by decide +kernel
theorem dX3_kindOf_68 : decode cX3_kindOf 68 = .ok (.iconst 4, 1) := by decide +kernel
theorem dX3_kindOf_69 : decode cX3_kindOf 69 = .ok (.ireturn, 1) := by decide +kernel
theorem dX3_kindOf_70 : decode cX3_kindOf 70 = .ok (.iconst 5, 1) := by decide +kernel
theorem dX3_kindOf_71 : decode cX3_kindOf 71 = .ok (.ireturn, 1) := by decide +kernel
theorem dX3_kindOf_72 : decode cX3_kindOf 72 = .ok (.bipush (-9), 2) := by decide +kernel
theorem dX3_kindOf_74 : decode cX3_kindOf 74 = .ok (.ireturn, 1) := by decide +kernel
def p3_kindOf (a1 : Int32) (M : SX) : Option (Int32 × SX) :=
  if a1 = 97 then (some (4, M))
  else (if a1 = 104 then (some (2, M))
  else (if a1 = 115 then (some (0, M))
  else (if a1 = 117 then (some (1, M))
  else (if a1 = 118 then (some (5, M))
  else (if a1 = 119 then (some (3, M))
  else (some ((-9), M)))))))
set_option maxHeartbeats 4000000 in
set_option maxRecDepth 100000 in
theorem c3_kindOf {l : Launch} {G : XG} {r : Int32} {M' : SX} {M : SX} (a1 : Int32) (hf : p3_kindOf a1 M = some (r, M')) : Met l yX3_kindOf (.code yX3_kindOf cX3_kindOf 1 (some .int) :: TBL) (rmX 0) (xPc G ZX M [.int a1]) (xQi G ZX r M') 0 0 (inA G ZX) := by
  refine x_met (cc := cX3_kindOf) (by decide) (Nat.le_of_ble_eq_true rfl) ?_
  intro p e s m below meth c ls F hr hk hl hw
  have F : Fx G ZX p m c cX3_kindOf 1 s [.int a1].toArray RX3 := F
  have hl : lv_has ls 1 [(0, .int a1)] := hl
  have hx := F.1.1
  have hb := F.1.2.1
  unfold p3_kindOf at hf
  refine lv_iload_n hx hb dX3_kindOf_0 rfl (lv_at hl 0 rfl) ?_
  by_cases c1 : a1 = 97
  · have hf := it_t hf c1
    refine lv_lookup (tgt := 68) (off := 67) hx hb dX3_kindOf_1 (by decide) (by rw [c1] <;> rfl) (by decide) ?_
    refine lv_iconst (v := 4) hx hb dX3_kindOf_68 (by decide) ?_
    exact x_iret F hw hr hk hf dX3_kindOf_69
  · have hf := it_f hf c1
    by_cases c2 : a1 = 104
    · have hf := it_t hf c2
      refine lv_lookup (tgt := 64) (off := 63) hx hb dX3_kindOf_1 (by decide) (by rw [c2] <;> rfl) (by decide) ?_
      refine lv_iconst (v := 2) hx hb dX3_kindOf_64 (by decide) ?_
      exact x_iret F hw hr hk hf dX3_kindOf_65
    · have hf := it_f hf c2
      by_cases c3 : a1 = 115
      · have hf := it_t hf c3
        refine lv_lookup (tgt := 60) (off := 59) hx hb dX3_kindOf_1 (by decide) (by rw [c3] <;> rfl) (by decide) ?_
        refine lv_iconst (v := 0) hx hb dX3_kindOf_60 (by decide) ?_
        exact x_iret F hw hr hk hf dX3_kindOf_61
      · have hf := it_f hf c3
        by_cases c4 : a1 = 117
        · have hf := it_t hf c4
          refine lv_lookup (tgt := 62) (off := 61) hx hb dX3_kindOf_1 (by decide) (by rw [c4] <;> rfl) (by decide) ?_
          refine lv_iconst (v := 1) hx hb dX3_kindOf_62 (by decide) ?_
          exact x_iret F hw hr hk hf dX3_kindOf_63
        · have hf := it_f hf c4
          by_cases c5 : a1 = 118
          · have hf := it_t hf c5
            refine lv_lookup (tgt := 70) (off := 69) hx hb dX3_kindOf_1 (by decide) (by rw [c5] <;> rfl) (by decide) ?_
            refine lv_iconst (v := 5) hx hb dX3_kindOf_70 (by decide) ?_
            exact x_iret F hw hr hk hf dX3_kindOf_71
          · have hf := it_f hf c5
            by_cases c6 : a1 = 119
            · have hf := it_t hf c6
              refine lv_lookup (tgt := 66) (off := 65) hx hb dX3_kindOf_1 (by decide) (by rw [c6] <;> rfl) (by decide) ?_
              refine lv_iconst (v := 3) hx hb dX3_kindOf_66 (by decide) ?_
              exact x_iret F hw hr hk hf dX3_kindOf_67
            · have hf := it_f hf c6
              refine lv_lookup (tgt := 72) (off := 71) hx hb dX3_kindOf_1 (by decide) (by show Op.lookupswitch.offset [(97, 67), (104, 63), (115, 59), (117, 61), (118, 69), (119, 65)] _ _ = _; rw [lv_osw (a := 97) c1 rfl, lv_osw (a := 104) c2 rfl, lv_osw (a := 115) c3 rfl, lv_osw (a := 117) c4 rfl, lv_osw (a := 118) c5 rfl, lv_osw (a := 119) c6 rfl] <;> rfl) (by decide) ?_
              refine lv_bipush (v := (-9)) hx hb dX3_kindOf_72 (by decide) ?_
              exact x_iret F hw hr hk hf dX3_kindOf_74
theorem dX3_takesOfTicket_0 : decode cX3_takesOfTicket 0 = .ok (.aload_n 0, 1) := by decide +kernel
theorem dX3_takesOfTicket_1 : decode cX3_takesOfTicket 1 = .ok (.getfield 18, 3) := by decide +kernel
theorem dX3_takesOfTicket_4 : decode cX3_takesOfTicket 4 = .ok (.lookupswitch 101 #[(3, 28), (4, 66)], 28) := by decide +kernel
theorem dX3_takesOfTicket_32 : decode cX3_takesOfTicket 32 = .ok (.aload_n 0, 1) := by decide +kernel
theorem dX3_takesOfTicket_33 : decode cX3_takesOfTicket 33 = .ok (.iload_n 1, 1) := by decide +kernel
theorem dX3_takesOfTicket_34 : decode cX3_takesOfTicket 34 = .ok (.putfield 26, 3) := by decide +kernel
theorem dX3_takesOfTicket_37 : decode cX3_takesOfTicket 37 = .ok (.aload_n 0, 1) := by decide +kernel
theorem dX3_takesOfTicket_38 : decode cX3_takesOfTicket 38 = .ok (.iconst 4, 1) := by decide +kernel
theorem dX3_takesOfTicket_39 : decode cX3_takesOfTicket 39 = .ok (.putfield 18, 3) := by decide +kernel
theorem dX3_takesOfTicket_42 : decode cX3_takesOfTicket 42 = .ok (.aload_n 0, 1) := by decide +kernel
theorem dX3_takesOfTicket_43 : decode cX3_takesOfTicket 43 = .ok (.getfield 12, 3) := by decide +kernel
theorem dX3_takesOfTicket_46 : decode cX3_takesOfTicket 46 = .ok (.iload_n 1, 1) := by decide +kernel
theorem dX3_takesOfTicket_47 : decode cX3_takesOfTicket 47 = .ok (.invokevirtual 75, 3) := by decide +kernel
theorem dX3_takesOfTicket_50 : decode cX3_takesOfTicket 50 = .ok (.ifCond .eq 18, 3) := by decide +kernel
theorem dX3_takesOfTicket_53 : decode cX3_takesOfTicket 53 = .ok (.aload_n 0, 1) := by decide +kernel
theorem dX3_takesOfTicket_54 : decode cX3_takesOfTicket 54 = .ok (.getfield 12, 3) := by decide +kernel
theorem dX3_takesOfTicket_57 : decode cX3_takesOfTicket 57 = .ok (.iload_n 1, 1) := by decide +kernel
theorem dX3_takesOfTicket_58 : decode cX3_takesOfTicket 58 = .ok (.invokevirtual 78, 3) := by decide +kernel
theorem dX3_takesOfTicket_61 : decode cX3_takesOfTicket 61 = .ok (.ifCond .ne 7, 3) := by decide +kernel
theorem dX3_takesOfTicket_64 : decode cX3_takesOfTicket 64 = .ok (.iconst 1, 1) := by decide +kernel
theorem dX3_takesOfTicket_65 : decode cX3_takesOfTicket 65 = .ok (.goto 4, 3) := by decide +kernel
theorem dX3_takesOfTicket_68 : decode cX3_takesOfTicket 68 = .ok (.iconst 0, 1) := by decide +kernel
theorem dX3_takesOfTicket_69 : decode cX3_takesOfTicket 69 = .ok (.ireturn, 1) := by decide +kernel
theorem dX3_takesOfTicket_70 : decode cX3_takesOfTicket 70 = .ok (.aload_n 0, 1) := by decide +kernel
theorem dX3_takesOfTicket_71 : decode cX3_takesOfTicket 71 = .ok (.iload_n 1, 1) := by decide +kernel
theorem dX3_takesOfTicket_72 : decode cX3_takesOfTicket 72 = .ok (.putfield 29, 3) := by decide +kernel
theorem dX3_takesOfTicket_75 : decode cX3_takesOfTicket 75 = .ok (.aload_n 0, 1) := by decide +kernel
theorem dX3_takesOfTicket_76 : decode cX3_takesOfTicket 76 = .ok (.iconst 5, 1) := by decide +kernel
theorem dX3_takesOfTicket_77 : decode cX3_takesOfTicket 77 = .ok (.putfield 18, 3) := by decide +kernel
theorem dX3_takesOfTicket_80 : decode cX3_takesOfTicket 80 = .ok (.aload_n 0, 1) := by decide +kernel
theorem dX3_takesOfTicket_81 : decode cX3_takesOfTicket 81 = .ok (.getfield 12, 3) := by decide +kernel
theorem dX3_takesOfTicket_84 : decode cX3_takesOfTicket 84 = .ok (.iload_n 1, 1) := by decide +kernel
theorem dX3_takesOfTicket_85 : decode cX3_takesOfTicket 85 = .ok (.invokevirtual 75, 3) := by decide +kernel
theorem dX3_takesOfTicket_88 : decode cX3_takesOfTicket 88 = .ok (.ifCond .eq 15, 3) := by decide +kernel
theorem dX3_takesOfTicket_91 : decode cX3_takesOfTicket 91 = .ok (.iload_n 1, 1) := by decide +kernel
theorem dX3_takesOfTicket_92 : decode cX3_takesOfTicket 92 = .ok (.aload_n 0, 1) := by decide +kernel
theorem dX3_takesOfTicket_93 : decode cX3_takesOfTicket 93 = .ok (.getfield 26, 3) := by decide +kernel
theorem dX3_takesOfTicket_96 : decode cX3_takesOfTicket 96 = .ok (.if_icmp .eq 7, 3) := by decide +kernel
theorem dX3_takesOfTicket_99 : decode cX3_takesOfTicket 99 = .ok (.iconst 1, 1) := by decide +kernel
theorem dX3_takesOfTicket_100 : decode cX3_takesOfTicket 100 = .ok (.goto 4, 3) := by decide +kernel
theorem dX3_takesOfTicket_103 : decode cX3_takesOfTicket 103 = .ok (.iconst 0, 1) := by decide +kernel
theorem dX3_takesOfTicket_104 : decode cX3_takesOfTicket 104 = .ok (.ireturn, 1) := by decide +kernel
theorem dX3_takesOfTicket_105 : decode cX3_takesOfTicket 105 = .ok (.aload_n 0, 1) := by decide +kernel
theorem dX3_takesOfTicket_106 : decode cX3_takesOfTicket 106 = .ok (.getfield 12, 3) := by decide +kernel
theorem dX3_takesOfTicket_109 : decode cX3_takesOfTicket 109 = .ok (.aload_n 0, 1) := by decide +kernel
theorem dX3_takesOfTicket_110 : decode cX3_takesOfTicket 110 = .ok (.getfield 26, 3) := by decide +kernel
theorem dX3_takesOfTicket_113 : decode cX3_takesOfTicket 113 = .ok (.aload_n 0, 1) := by decide +kernel
theorem dX3_takesOfTicket_114 : decode cX3_takesOfTicket 114 = .ok (.getfield 29, 3) := by decide +kernel
theorem dX3_takesOfTicket_117 : decode cX3_takesOfTicket 117 = .ok (.iload_n 1, 1) := by decide +kernel
theorem dX3_takesOfTicket_118 : decode cX3_takesOfTicket 118 = .ok (.iconst 0, 1) := by decide +kernel
theorem dX3_takesOfTicket_119 : decode cX3_takesOfTicket 119 = .ok (.invokevirtual 81, 3) := by decide +kernel
theorem dX3_takesOfTicket_122 : decode cX3_takesOfTicket 122 = .ok (.aload_n 0, 1) := by decide +kernel
theorem dX3_takesOfTicket_123 : decode cX3_takesOfTicket 123 = .ok (.iconst 0, 1) := by decide +kernel
theorem dX3_takesOfTicket_124 : decode cX3_takesOfTicket 124 = .ok (.putfield 18, 3) := by decide +kernel
theorem dX3_takesOfTicket_127 : decode cX3_takesOfTicket 127 = .ok (.iload_n 1, 1) := by decide +kernel
theorem dX3_takesOfTicket_128 : decode cX3_takesOfTicket 128 = .ok (.iconst 1, 1) := by decide +kernel
theorem dX3_takesOfTicket_129 : decode cX3_takesOfTicket 129 = .ok (.if_icmp .lt 7, 3) := by decide +kernel
theorem dX3_takesOfTicket_132 : decode cX3_takesOfTicket 132 = .ok (.iconst 1, 1) := by decide +kernel
theorem dX3_takesOfTicket_133 : decode cX3_takesOfTicket 133 = .ok (.goto 4, 3) := by decide +kernel
theorem dX3_takesOfTicket_136 : decode cX3_takesOfTicket 136 = .ok (.iconst 0, 1) := by decide +kernel
theorem dX3_takesOfTicket_137 : decode cX3_takesOfTicket 137 = .ok (.ireturn, 1) := by decide +kernel
def p3_takesOfTicket (a1 : Int32) (M : SX) : Option (Int32 × SX) :=
  if (M.1 7 1) = 3 then (lt_ (wI M 7 3 a1) (fun M2 => lt_ (wI M2 7 1 4) (fun M3 => bd (p1_isShop 8 a1 M3) (fun r6 M5 => if r6 = 0 then (some (0, M5))
  else (bd (p1_isPawned 8 a1 M5) (fun r10 M9 => if r10 = 0 then (some (1, M9))
  else (some (0, M9))))))))
  else (if (M.1 7 1) = 4 then (lt_ (wI M 7 4 a1) (fun M13 => lt_ (wI M13 7 1 5) (fun M14 => bd (p1_isShop 8 a1 M14) (fun r17 M16 => if r17 = 0 then (some (0, M16))
  else (if a1 = (M16.1 7 3) then (some (0, M16))
  else (some (1, M16)))))))
  else (bv (p1_setTicket 8 (M.1 7 3) (M.1 7 4) a1 0 M) (fun M21 => lt_ (wI M21 7 1 0) (fun M22 => if a1 < (1 : Int32) then (some (0, M22))
  else (some (1, M22))))))
set_option maxHeartbeats 4000000 in
set_option maxRecDepth 100000 in
theorem c3_takesOfTicket {l : Launch} {G : XG} {r : Int32} {M' : SX} {M : SX} (a1 : Int32) (hf : p3_takesOfTicket a1 M = some (r, M')) : Met l yX3_takesOfTicket (.code yX3_takesOfTicket cX3_takesOfTicket 2 (some .boolean) :: TBL) (rmX 1) (xPc G ZX M [.ref (G.2.1 7), .int a1]) (xQi G ZX r M') 0 0 (inA G ZX) := by
  refine x_met (cc := cX3_takesOfTicket) (by decide) (Nat.le_of_ble_eq_true rfl) ?_
  intro p e s m below meth c ls F hr hk hl hw
  have F : Fx G ZX p m c cX3_takesOfTicket 2 s [.ref (G.2.1 7), .int a1].toArray RX3 := F
  have hl : lv_has ls 2 [(0, .ref (G.2.1 7)), (1, .int a1)] := hl
  have hx := F.1.1
  have hb := F.1.2.1
  unfold p3_takesOfTicket at hf
  refine lv_aload_n hx hb dX3_takesOfTicket_0 rfl (lv_at hl 0 rfl) ?_
  refine g3_1 F hw tw_175 dX3_takesOfTicket_1 ?_
  by_cases c1 : (M.1 7 1) = 3
  · have hf := it_t hf c1
    refine lv_lookup (tgt := 32) (off := 28) hx hb dX3_takesOfTicket_4 (by decide) (by rw [c1] <;> rfl) (by decide) ?_
    refine lv_aload_n hx hb dX3_takesOfTicket_32 rfl (lv_at hl 0 rfl) ?_
    refine lv_iload_n hx hb dX3_takesOfTicket_33 rfl (lv_at hl 1 rfl) ?_
    refine s3_3 F hw tw_178 dX3_takesOfTicket_34 (fun H locs hw => ?_)
    obtain ⟨M2, eM2, hf⟩ := lt_elim hf
    rw [← eM2] at hw
    refine lv_aload_n hx hb dX3_takesOfTicket_37 rfl (lv_at hl 0 rfl) ?_
    refine lv_iconst (v := 4) hx hb dX3_takesOfTicket_38 (by decide) ?_
    refine s3_1 F hw tw_175 dX3_takesOfTicket_39 (fun H locs hw => ?_)
    obtain ⟨M3, eM3, hf⟩ := lt_elim hf
    rw [← eM3] at hw
    refine lv_aload_n hx hb dX3_takesOfTicket_42 rfl (lv_at hl 0 rfl) ?_
    refine g3_0 F hw tw_173 dX3_takesOfTicket_43 ?_
    refine lv_iload_n hx hb dX3_takesOfTicket_46 rfl (lv_at hl 1 rfl) ?_
    obtain ⟨r6, M5, hc4, hf⟩ := bd_some hf
    refine x_aftI hw (x_runV (rest := []) F hw hl.1 vw_RX3_75 (sL isL_8) rfl (c1_isShop 8 isL_8 a1 hc4) rfl rfl (Nat.le_of_ble_eq_true rfl) ⟨Nat.le_of_ble_eq_true rfl, Nat.le_of_ble_eq_true rfl⟩ dX3_takesOfTicket_47) (fun H locs hw => ?_)
    refine lv_if_eq (tgt := 68) hx hb dX3_takesOfTicket_50 (by decide) (fun c7 => ?_) (fun c7 => ?_)
    · have hf := it_t hf c7
      refine lv_iconst (v := 0) hx hb dX3_takesOfTicket_68 (by decide) ?_
      exact x_zret F hw hr hk (by decide) hf dX3_takesOfTicket_69
    · have hf := it_f hf c7
      refine lv_aload_n hx hb dX3_takesOfTicket_53 rfl (lv_at hl 0 rfl) ?_
      refine g3_0 F hw tw_173 dX3_takesOfTicket_54 ?_
      refine lv_iload_n hx hb dX3_takesOfTicket_57 rfl (lv_at hl 1 rfl) ?_
      obtain ⟨r10, M9, hc8, hf⟩ := bd_some hf
      refine x_aftI hw (x_runV (rest := []) F hw hl.1 vw_RX3_78 (sL isL_8) rfl (c1_isPawned 8 isL_8 a1 hc8) rfl rfl (Nat.le_of_ble_eq_true rfl) ⟨Nat.le_of_ble_eq_true rfl, Nat.le_of_ble_eq_true rfl⟩ dX3_takesOfTicket_58) (fun H locs hw => ?_)
      refine lv_if_ne (tgt := 68) hx hb dX3_takesOfTicket_61 (by decide) (fun c11 => ?_) (fun c11 => ?_)
      · have hf := it_f hf c11
        refine lv_iconst (v := 0) hx hb dX3_takesOfTicket_68 (by decide) ?_
        exact x_zret F hw hr hk (by decide) hf dX3_takesOfTicket_69
      · have hf := it_t hf c11
        refine lv_iconst (v := 1) hx hb dX3_takesOfTicket_64 (by decide) ?_
        refine lv_goto (tgt := 69) hx hb dX3_takesOfTicket_65 (by decide) ?_
        exact x_zret F hw hr hk (by decide) hf dX3_takesOfTicket_69
  · have hf := it_f hf c1
    by_cases c12 : (M.1 7 1) = 4
    · have hf := it_t hf c12
      refine lv_lookup (tgt := 70) (off := 66) hx hb dX3_takesOfTicket_4 (by decide) (by rw [c12] <;> rfl) (by decide) ?_
      refine lv_aload_n hx hb dX3_takesOfTicket_70 rfl (lv_at hl 0 rfl) ?_
      refine lv_iload_n hx hb dX3_takesOfTicket_71 rfl (lv_at hl 1 rfl) ?_
      refine s3_4 F hw tw_186 dX3_takesOfTicket_72 (fun H locs hw => ?_)
      obtain ⟨M13, eM13, hf⟩ := lt_elim hf
      rw [← eM13] at hw
      refine lv_aload_n hx hb dX3_takesOfTicket_75 rfl (lv_at hl 0 rfl) ?_
      refine lv_iconst (v := 5) hx hb dX3_takesOfTicket_76 (by decide) ?_
      refine s3_1 F hw tw_175 dX3_takesOfTicket_77 (fun H locs hw => ?_)
      obtain ⟨M14, eM14, hf⟩ := lt_elim hf
      rw [← eM14] at hw
      refine lv_aload_n hx hb dX3_takesOfTicket_80 rfl (lv_at hl 0 rfl) ?_
      refine g3_0 F hw tw_173 dX3_takesOfTicket_81 ?_
      refine lv_iload_n hx hb dX3_takesOfTicket_84 rfl (lv_at hl 1 rfl) ?_
      obtain ⟨r17, M16, hc15, hf⟩ := bd_some hf
      refine x_aftI hw (x_runV (rest := []) F hw hl.1 vw_RX3_75 (sL isL_8) rfl (c1_isShop 8 isL_8 a1 hc15) rfl rfl (Nat.le_of_ble_eq_true rfl) ⟨Nat.le_of_ble_eq_true rfl, Nat.le_of_ble_eq_true rfl⟩ dX3_takesOfTicket_85) (fun H locs hw => ?_)
      refine lv_if_eq (tgt := 103) hx hb dX3_takesOfTicket_88 (by decide) (fun c18 => ?_) (fun c18 => ?_)
      · have hf := it_t hf c18
        refine lv_iconst (v := 0) hx hb dX3_takesOfTicket_103 (by decide) ?_
        exact x_zret F hw hr hk (by decide) hf dX3_takesOfTicket_104
      · have hf := it_f hf c18
        refine lv_iload_n hx hb dX3_takesOfTicket_91 rfl (lv_at hl 1 rfl) ?_
        refine lv_aload_n hx hb dX3_takesOfTicket_92 rfl (lv_at hl 0 rfl) ?_
        refine g3_3 F hw tw_178 dX3_takesOfTicket_93 ?_
        refine lv_icmp_eq (tgt := 103) hx hb dX3_takesOfTicket_96 (by decide) (fun c19 => ?_) (fun c19 => ?_)
        · have hf := it_t hf c19
          refine lv_iconst (v := 0) hx hb dX3_takesOfTicket_103 (by decide) ?_
          exact x_zret F hw hr hk (by decide) hf dX3_takesOfTicket_104
        · have hf := it_f hf c19
          refine lv_iconst (v := 1) hx hb dX3_takesOfTicket_99 (by decide) ?_
          refine lv_goto (tgt := 104) hx hb dX3_takesOfTicket_100 (by decide) ?_
          exact x_zret F hw hr hk (by decide) hf dX3_takesOfTicket_104
    · have hf := it_f hf c12
      refine lv_lookup (tgt := 105) (off := 101) hx hb dX3_takesOfTicket_4 (by decide) (by show Op.lookupswitch.offset [(3, 28), (4, 66)] _ _ = _; rw [lv_osw (a := 3) c1 rfl, lv_osw (a := 4) c12 rfl] <;> rfl) (by decide) ?_
      refine lv_aload_n hx hb dX3_takesOfTicket_105 rfl (lv_at hl 0 rfl) ?_
      refine g3_0 F hw tw_173 dX3_takesOfTicket_106 ?_
      refine lv_aload_n hx hb dX3_takesOfTicket_109 rfl (lv_at hl 0 rfl) ?_
      refine g3_3 F hw tw_178 dX3_takesOfTicket_110 ?_
      refine lv_aload_n hx hb dX3_takesOfTicket_113 rfl (lv_at hl 0 rfl) ?_
      refine g3_4 F hw tw_186 dX3_takesOfTicket_114 ?_
      refine lv_iload_n hx hb dX3_takesOfTicket_117 rfl (lv_at hl 1 rfl) ?_
      refine lv_iconst (v := 0) hx hb dX3_takesOfTicket_118 (by decide) ?_
      obtain ⟨M21, hc20, hf⟩ := bv_some hf
      refine x_aftV hw (x_runV (rest := []) F hw hl.1 vw_RX3_81 (sL isL_8) rfl (c1_setTicket 8 isL_8 (M.1 7 3) (M.1 7 4) a1 0 hc20) rfl rfl (Nat.le_of_ble_eq_true rfl) ⟨Nat.le_of_ble_eq_true rfl, Nat.le_of_ble_eq_true rfl⟩ dX3_takesOfTicket_119) (fun H locs hw => ?_)
      refine lv_aload_n hx hb dX3_takesOfTicket_122 rfl (lv_at hl 0 rfl) ?_
      refine lv_iconst (v := 0) hx hb dX3_takesOfTicket_123 (by decide) ?_
      refine s3_1 F hw tw_175 dX3_takesOfTicket_124 (fun H locs hw => ?_)
      obtain ⟨M22, eM22, hf⟩ := lt_elim hf
      rw [← eM22] at hw
      refine lv_iload_n hx hb dX3_takesOfTicket_127 rfl (lv_at hl 1 rfl) ?_
      refine lv_iconst (v := 1) hx hb dX3_takesOfTicket_128 (by decide) ?_
      refine lv_icmp_lt (tgt := 136) hx hb dX3_takesOfTicket_129 (by decide) (fun c23 => ?_) (fun c23 => ?_)
      · have hf := it_t hf c23
        refine lv_iconst (v := 0) hx hb dX3_takesOfTicket_136 (by decide) ?_
        exact x_zret F hw hr hk (by decide) hf dX3_takesOfTicket_137
      · have hf := it_f hf c23
        refine lv_iconst (v := 1) hx hb dX3_takesOfTicket_132 (by decide) ?_
        refine lv_goto (tgt := 137) hx hb dX3_takesOfTicket_133 (by decide) ?_
        exact x_zret F hw hr hk (by decide) hf dX3_takesOfTicket_137
theorem dX3_beginsItem_0 : decode cX3_beginsItem 0 = .ok (.iload_n 1, 1) := by decide +kernel
theorem dX3_beginsItem_1 : decode cX3_beginsItem 1 = .ok (.bipush 116, 2) := by decide +kernel
theorem dX3_beginsItem_3 : decode cX3_beginsItem 3 = .ok (.if_icmp .ne 30, 3) := by decide +kernel
theorem dX3_beginsItem_6 : decode cX3_beginsItem 6 = .ok (.aload_n 0, 1) := by decide +kernel
theorem dX3_beginsItem_7 : decode cX3_beginsItem 7 = .ok (.iconst 1, 1) := by decide +kernel
theorem dX3_beginsItem_8 : decode cX3_beginsItem 8 = .ok (.putfield 22, 3) := by decide +kernel
theorem dX3_beginsItem_11 : decode cX3_beginsItem 11 = .ok (.aload_n 0, 1) := by decide +kernel
theorem dX3_beginsItem_12 : decode cX3_beginsItem 12 = .ok (.iconst 3, 1) := by decide +kernel
theorem dX3_beginsItem_13 : decode cX3_beginsItem 13 = .ok (.putfield 18, 3) := by decide +kernel
theorem dX3_beginsItem_16 : decode cX3_beginsItem 16 = .ok (.aload_n 0, 1) := by decide +kernel
theorem dX3_beginsItem_17 : decode cX3_beginsItem 17 = .ok (.getfield 12, 3) := by decide +kernel
theorem dX3_beginsItem_20 : decode cX3_beginsItem 20 = .ok (.getfield 49, 3) := by decide +kernel
theorem dX3_beginsItem_23 : decode cX3_beginsItem 23 = .ok (.iconst 2, 1) := by decide +kernel
theorem dX3_beginsItem_24 : decode cX3_beginsItem 24 = .ok (.if_icmp .lt 7, 3) := by decide +kernel
theorem dX3_beginsItem_27 : decode cX3_beginsItem 27 = .ok (.iconst 1, 1) := by decide +kernel
theorem dX3_beginsItem_28 : decode cX3_beginsItem 28 = .ok (.goto 4, 3) := by decide +kernel
theorem dX3_beginsItem_31 : decode cX3_beginsItem 31 = .ok (.iconst 0, 1) := by decide +kernel
theorem dX3_beginsItem_32 : decode cX3_beginsItem 32 = .ok (.ireturn, 1) := by decide +kernel
theorem dX3_beginsItem_33 : decode cX3_beginsItem 33 = .ok (.iload_n 1, 1) := by decide +kernel
theorem dX3_beginsItem_34 : decode cX3_beginsItem 34 = .ok (.invokestatic 61, 3) := by decide +kernel
theorem dX3_beginsItem_37 : decode cX3_beginsItem 37 = .ok (.istore_n 2, 1) := by decide +kernel
theorem dX3_beginsItem_38 : decode cX3_beginsItem 38 = .ok (.iload_n 2, 1) := by decide +kernel
theorem dX3_beginsItem_39 : decode cX3_beginsItem 39 = .ok (.bipush (-9), 2) := by decide +kernel
theorem dX3_beginsItem_41 : decode cX3_beginsItem 41 = .ok (.if_icmp .eq 22, 3) := by decide +kernel
theorem dX3_beginsItem_44 : decode cX3_beginsItem 44 = .ok (.aload_n 0, 1) := by decide +kernel
theorem dX3_beginsItem_45 : decode cX3_beginsItem 45 = .ok (.getfield 22, 3) := by decide +kernel
theorem dX3_beginsItem_48 : decode cX3_beginsItem 48 = .ok (.ifCond .ne 15, 3) := by decide +kernel
theorem dX3_beginsItem_51 : decode cX3_beginsItem 51 = .ok (.aload_n 0, 1) := by decide +kernel
theorem dX3_beginsItem_52 : decode cX3_beginsItem 52 = .ok (.getfield 12, 3) := by decide +kernel
theorem dX3_beginsItem_55 : decode cX3_beginsItem 55 = .ok (.getfield 49, 3) := by decide +kernel
theorem dX3_beginsItem_58 : decode cX3_beginsItem 58 = .ok (.bipush 6, 2) := by decide +kernel
theorem dX3_beginsItem_60 : decode cX3_beginsItem 60 = .ok (.if_icmp .ne 5, 3) := by decide +kernel
theorem dX3_beginsItem_63 : decode cX3_beginsItem 63 = .ok (.iconst 0, 1) := by decide +kernel
theorem dX3_beginsItem_64 : decode cX3_beginsItem 64 = .ok (.ireturn, 1) := by decide +kernel
theorem dX3_beginsItem_65 : decode cX3_beginsItem 65 = .ok (.aload_n 0, 1) := by decide +kernel
theorem dX3_beginsItem_66 : decode cX3_beginsItem 66 = .ok (.getfield 12, 3) := by decide +kernel
theorem dX3_beginsItem_69 : decode cX3_beginsItem 69 = .ok (.iload_n 2, 1) := by decide +kernel
theorem dX3_beginsItem_70 : decode cX3_beginsItem 70 = .ok (.invokevirtual 64, 3) := by decide +kernel
theorem dX3_beginsItem_73 : decode cX3_beginsItem 73 = .ok (.aload_n 0, 1) := by decide +kernel
theorem dX3_beginsItem_74 : decode cX3_beginsItem 74 = .ok (.iconst 1, 1) := by decide +kernel
theorem dX3_beginsItem_75 : decode cX3_beginsItem 75 = .ok (.putfield 18, 3) := by decide +kernel
theorem dX3_beginsItem_78 : decode cX3_beginsItem 78 = .ok (.iconst 1, 1) := by decide +kernel
theorem dX3_beginsItem_79 : decode cX3_beginsItem 79 = .ok (.ireturn, 1) := by decide +kernel
def p3_beginsItem (a1 : Int32) (M : SX) : Option (Int32 × SX) :=
  if a1 = (116 : Int32) then (lt_ (wI M 7 2 1) (fun M11 => lt_ (wI M11 7 1 3) (fun M12 => if (M12.1 8 0) < (2 : Int32) then (some (0, M12))
  else (some (1, M12)))))
  else (bd (p3_kindOf a1 M) (fun r4 M3 => if r4 = (-9 : Int32) then (some (0, M3))
  else (if (M3.1 7 2) = 0 then (if (M3.1 8 0) = (6 : Int32) then (some (0, M3))
  else (bv (p1_addShop 8 r4 M3) (fun M9 => lt_ (wI M9 7 1 1) (fun M10 => some (1, M10)))))
  else (some (0, M3)))))
set_option maxHeartbeats 4000000 in
set_option maxRecDepth 100000 in
theorem c3_beginsItem {l : Launch} {G : XG} {r : Int32} {M' : SX} {M : SX} (a1 : Int32) (hf : p3_beginsItem a1 M = some (r, M')) : Met l yX3_beginsItem (.code yX3_beginsItem cX3_beginsItem 3 (some .boolean) :: TBL) (rmX 3) (xPc G ZX M [.ref (G.2.1 7), .int a1]) (xQi G ZX r M') 0 0 (inA G ZX) := by
  refine x_met (cc := cX3_beginsItem) (by decide) (Nat.le_of_ble_eq_true rfl) ?_
  intro p e s m below meth c ls F hr hk hl hw
  have F : Fx G ZX p m c cX3_beginsItem 3 s [.ref (G.2.1 7), .int a1].toArray RX3 := F
  have hl : lv_has ls 3 [(0, .ref (G.2.1 7)), (1, .int a1)] := hl
  have hx := F.1.1
  have hb := F.1.2.1
  unfold p3_beginsItem at hf
  refine lv_iload_n hx hb dX3_beginsItem_0 rfl (lv_at hl 1 rfl) ?_
  refine lv_bipush (v := 116) hx hb dX3_beginsItem_1 (by decide) ?_
  refine lv_icmp_ne (tgt := 33) hx hb dX3_beginsItem_3 (by decide) (fun c1 => ?_) (fun c1 => ?_)
  · have hf := it_f hf c1
    refine lv_iload_n hx hb dX3_beginsItem_33 rfl (lv_at hl 1 rfl) ?_
    obtain ⟨r4, M3, hc2, hf⟩ := bd_some hf
    refine x_aftI hw (x_runS (rest := []) F hw hl.1 sw_RX3_61 (c3_kindOf a1 hc2) rfl rfl (Nat.le_of_ble_eq_true rfl) ⟨Nat.le_of_ble_eq_true rfl, Nat.le_of_ble_eq_true rfl⟩ dX3_beginsItem_34) (fun H locs hw => ?_)
    refine lv_istore_n (lv' := [(2, .int r4), (0, .ref (G.2.1 7)), (1, .int a1)]) hx hb dX3_beginsItem_37 rfl hl (by decide) rfl (fun ls hl => ?_)
    refine lv_iload_n hx hb dX3_beginsItem_38 rfl (lv_at hl 0 rfl) ?_
    refine lv_bipush (v := (-9)) hx hb dX3_beginsItem_39 (by decide) ?_
    refine lv_icmp_eq (tgt := 63) hx hb dX3_beginsItem_41 (by decide) (fun c5 => ?_) (fun c5 => ?_)
    · have hf := it_t hf c5
      refine lv_iconst (v := 0) hx hb dX3_beginsItem_63 (by decide) ?_
      exact x_zret F hw hr hk (by decide) hf dX3_beginsItem_64
    · have hf := it_f hf c5
      refine lv_aload_n hx hb dX3_beginsItem_44 rfl (lv_at hl 1 rfl) ?_
      refine g3_2 F hw tw_194 dX3_beginsItem_45 ?_
      refine lv_if_ne (tgt := 63) hx hb dX3_beginsItem_48 (by decide) (fun c6 => ?_) (fun c6 => ?_)
      · have hf := it_f hf c6
        refine lv_iconst (v := 0) hx hb dX3_beginsItem_63 (by decide) ?_
        exact x_zret F hw hr hk (by decide) hf dX3_beginsItem_64
      · have hf := it_t hf c6
        refine lv_aload_n hx hb dX3_beginsItem_51 rfl (lv_at hl 1 rfl) ?_
        refine g3_0 F hw tw_173 dX3_beginsItem_52 ?_
        refine g1_0 isL_8 F hw tw_174 dX3_beginsItem_55 ?_
        refine lv_bipush (v := 6) hx hb dX3_beginsItem_58 (by decide) ?_
        refine lv_icmp_ne (tgt := 65) hx hb dX3_beginsItem_60 (by decide) (fun c7 => ?_) (fun c7 => ?_)
        · have hf := it_f hf c7
          refine lv_aload_n hx hb dX3_beginsItem_65 rfl (lv_at hl 1 rfl) ?_
          refine g3_0 F hw tw_173 dX3_beginsItem_66 ?_
          refine lv_iload_n hx hb dX3_beginsItem_69 rfl (lv_at hl 0 rfl) ?_
          obtain ⟨M9, hc8, hf⟩ := bv_some hf
          refine x_aftV hw (x_runV (rest := []) F hw hl.1 vw_RX3_64 (sL isL_8) rfl (c1_addShop 8 isL_8 r4 hc8) rfl rfl (Nat.le_of_ble_eq_true rfl) ⟨Nat.le_of_ble_eq_true rfl, Nat.le_of_ble_eq_true rfl⟩ dX3_beginsItem_70) (fun H locs hw => ?_)
          refine lv_aload_n hx hb dX3_beginsItem_73 rfl (lv_at hl 1 rfl) ?_
          refine lv_iconst (v := 1) hx hb dX3_beginsItem_74 (by decide) ?_
          refine s3_1 F hw tw_175 dX3_beginsItem_75 (fun H locs hw => ?_)
          obtain ⟨M10, eM10, hf⟩ := lt_elim hf
          rw [← eM10] at hw
          refine lv_iconst (v := 1) hx hb dX3_beginsItem_78 (by decide) ?_
          exact x_zret F hw hr hk (by decide) hf dX3_beginsItem_79
        · have hf := it_t hf c7
          refine lv_iconst (v := 0) hx hb dX3_beginsItem_63 (by decide) ?_
          exact x_zret F hw hr hk (by decide) hf dX3_beginsItem_64
  · have hf := it_t hf c1
    refine lv_aload_n hx hb dX3_beginsItem_6 rfl (lv_at hl 0 rfl) ?_
    refine lv_iconst (v := 1) hx hb dX3_beginsItem_7 (by decide) ?_
    refine s3_2 F hw (by decide) tw_194 dX3_beginsItem_8 (fun H locs hw => ?_)
    obtain ⟨M11, eM11, hf⟩ := lt_elim hf
    rw [← eM11] at hw
    refine lv_aload_n hx hb dX3_beginsItem_11 rfl (lv_at hl 0 rfl) ?_
    refine lv_iconst (v := 3) hx hb dX3_beginsItem_12 (by decide) ?_
    refine s3_1 F hw tw_175 dX3_beginsItem_13 (fun H locs hw => ?_)
    obtain ⟨M12, eM12, hf⟩ := lt_elim hf
    rw [← eM12] at hw
    refine lv_aload_n hx hb dX3_beginsItem_16 rfl (lv_at hl 0 rfl) ?_
    refine g3_0 F hw tw_173 dX3_beginsItem_17 ?_
    refine g1_0 isL_8 F hw tw_174 dX3_beginsItem_20 ?_
    refine lv_iconst (v := 2) hx hb dX3_beginsItem_23 (by decide) ?_
    refine lv_icmp_lt (tgt := 31) hx hb dX3_beginsItem_24 (by decide) (fun c13 => ?_) (fun c13 => ?_)
    · have hf := it_t hf c13
      refine lv_iconst (v := 0) hx hb dX3_beginsItem_31 (by decide) ?_
      exact x_zret F hw hr hk (by decide) hf dX3_beginsItem_32
    · have hf := it_f hf c13
      refine lv_iconst (v := 1) hx hb dX3_beginsItem_27 (by decide) ?_
      refine lv_goto (tgt := 32) hx hb dX3_beginsItem_28 (by decide) ?_
      exact x_zret F hw hr hk (by decide) hf dX3_beginsItem_32
theorem dX3_takes_0 : decode cX3_takes 0 = .ok (.aload_n 0, 1) := by decide +kernel
theorem dX3_takes_1 : decode cX3_takes 1 = .ok (.getfield 18, 3) := by decide +kernel
theorem dX3_takes_4 : decode cX3_takes 4 = .ok (.ifCond .ne 23, 3) := by decide +kernel
theorem dX3_takes_7 : decode cX3_takes 7 = .ok (.iload_n 1, 1) := by decide +kernel
theorem dX3_takes_8 : decode cX3_takes 8 = .ok (.bipush 32, 2) := by decide +kernel
theorem dX3_takes_10 : decode cX3_takes 10 = .ok (.if_icmp .eq 11, 3) := by decide +kernel
theorem dX3_takes_13 : decode cX3_takes 13 = .ok (.aload_n 0, 1) := by decide +kernel
theorem dX3_takes_14 : decode cX3_takes 14 = .ok (.iload_n 1, 1) := by decide +kernel
theorem dX3_takes_15 : decode cX3_takes 15 = .ok (.invokevirtual 52, 3) := by decide +kernel
theorem dX3_takes_18 : decode cX3_takes 18 = .ok (.ifCond .eq 7, 3) := by decide +kernel
theorem dX3_takes_21 : decode cX3_takes 21 = .ok (.iconst 1, 1) := by decide +kernel
theorem dX3_takes_22 : decode cX3_takes 22 = .ok (.goto 4, 3) := by decide +kernel
theorem dX3_takes_25 : decode cX3_takes 25 = .ok (.iconst 0, 1) := by decide +kernel
theorem dX3_takes_26 : decode cX3_takes 26 = .ok (.ireturn, 1) := by decide +kernel
theorem dX3_takes_27 : decode cX3_takes 27 = .ok (.iload_n 1, 1) := by decide +kernel
theorem dX3_takes_28 : decode cX3_takes 28 = .ok (.bipush 48, 2) := by decide +kernel
theorem dX3_takes_30 : decode cX3_takes 30 = .ok (.isub, 1) := by decide +kernel
theorem dX3_takes_31 : decode cX3_takes 31 = .ok (.istore_n 2, 1) := by decide +kernel
theorem dX3_takes_32 : decode cX3_takes 32 = .ok (.iload_n 2, 1) := by decide +kernel
theorem dX3_takes_33 : decode cX3_takes 33 = .ok (.ifCond .lt 9, 3) := by decide +kernel
theorem dX3_takes_36 : decode cX3_takes 36 = .ok (.iload_n 2, 1) := by decide +kernel
theorem dX3_takes_37 : decode cX3_takes 37 = .ok (.bipush 9, 2) := by decide +kernel
theorem dX3_takes_39 : decode cX3_takes 39 = .ok (.if_icmp .le 5, 3) := by decide +kernel
theorem dX3_takes_42 : decode cX3_takes 42 = .ok (.iconst 0, 1) := by decide +kernel
theorem dX3_takes_43 : decode cX3_takes 43 = .ok (.ireturn, 1) := by decide +kernel
theorem dX3_takes_44 : decode cX3_takes 44 = .ok (.aload_n 0, 1) := by decide +kernel
theorem dX3_takes_45 : decode cX3_takes 45 = .ok (.getfield 18, 3) := by decide +kernel
theorem dX3_takes_48 : decode cX3_takes 48 = .ok (.iconst 2, 1) := by decide +kernel
theorem dX3_takes_49 : decode cX3_takes 49 = .ok (.if_icmp .gt 11, 3) := by decide +kernel
theorem dX3_takes_52 : decode cX3_takes 52 = .ok (.aload_n 0, 1) := by decide +kernel
theorem dX3_takes_53 : decode cX3_takes 53 = .ok (.iload_n 2, 1) := by decide +kernel
theorem dX3_takes_54 : decode cX3_takes 54 = .ok (.invokevirtual 55, 3) := by decide +kernel
theorem dX3_takes_57 : decode cX3_takes 57 = .ok (.goto 8, 3) := by decide +kernel
theorem dX3_takes_60 : decode cX3_takes 60 = .ok (.aload_n 0, 1) := by decide +kernel
theorem dX3_takes_61 : decode cX3_takes 61 = .ok (.iload_n 2, 1) := by decide +kernel
theorem dX3_takes_62 : decode cX3_takes 62 = .ok (.invokevirtual 58, 3) := by decide +kernel
theorem dX3_takes_65 : decode cX3_takes 65 = .ok (.ireturn, 1) := by decide +kernel
def p3_takes_21 (M : SX) : Option (Int32 × SX) :=
  some (1, M)
set_option maxHeartbeats 4000000 in
set_option maxRecDepth 100000 in
theorem w3_takes_21 {G : XG} {p : Program} {l : Launch} {e : Env} {s : State} {m : MethodId} {args : Array Value} {below : List Frame} {meth : Method} {c : Code} (F : Fx G ZX p m c cX3_takes 3 s args RX3) (hr : meth.sig.returnType = some .boolean) (hk : meth.locks = false) {r : Int32} {M' : SX} : ∀ (M : SX) (H : Heap) (locs : List Loc) (ls : Array Slot), Wld G ZX M s.heap H locs → lv_has ls 3 [] → p3_takes_21 M = some (r, M') → WXi G ZX p l e 4 s m args below meth c r M' H locs (F0 m 21 ls []) := by
  intro M H locs ls hw hl hf
  have hx := F.1.1
  have hb := F.1.2.1
  unfold p3_takes_21 at hf
  refine lv_iconst (v := 1) hx hb dX3_takes_21 (by decide) ?_
  refine lv_goto (tgt := 26) hx hb dX3_takes_22 (by decide) ?_
  exact x_zret F hw hr hk (by decide) hf dX3_takes_26
def p3_takes (a1 : Int32) (M : SX) : Option (Int32 × SX) :=
  if (M.1 7 1) = 0 then (if a1 = (32 : Int32) then (p3_takes_21 M)
  else (bd (p3_beginsItem a1 M) (fun r17 M16 => if r17 = 0 then (some (0, M16))
  else (p3_takes_21 M16))))
  else (lt_ (a1 - 48) (fun x2 => if x2 < 0 then (some (0, M))
  else (if x2 ≤ (9 : Int32) then (if (2 : Int32) < (M.1 7 1) then (bd (p3_takesOfTicket x2 M) (fun r8 M7 => gd (isB r8) ( some (r8, M7))))
  else (bd (p3_takesOfShop x2 M) (fun r12 M11 => gd (isB r12) ( some (r12, M11)))))
  else (some (0, M)))))
set_option maxHeartbeats 4000000 in
set_option maxRecDepth 100000 in
theorem c3_takes {l : Launch} {G : XG} {r : Int32} {M' : SX} {M : SX} (a1 : Int32) (hf : p3_takes a1 M = some (r, M')) : Met l yX3_takes (.code yX3_takes cX3_takes 3 (some .boolean) :: TBL) (rmX 4) (xPc G ZX M [.ref (G.2.1 7), .int a1]) (xQi G ZX r M') 0 0 (inA G ZX) := by
  refine x_met (cc := cX3_takes) (by decide) (Nat.le_of_ble_eq_true rfl) ?_
  intro p e s m below meth c ls F hr hk hl hw
  have F : Fx G ZX p m c cX3_takes 3 s [.ref (G.2.1 7), .int a1].toArray RX3 := F
  have hl : lv_has ls 3 [(0, .ref (G.2.1 7)), (1, .int a1)] := hl
  have hx := F.1.1
  have hb := F.1.2.1
  unfold p3_takes at hf
  refine lv_aload_n hx hb dX3_takes_0 rfl (lv_at hl 0 rfl) ?_
  refine g3_1 F hw tw_175 dX3_takes_1 ?_
  refine lv_if_ne (tgt := 27) hx hb dX3_takes_4 (by decide) (fun c1 => ?_) (fun c1 => ?_)
  · have hf := it_f hf c1
    refine lv_iload_n hx hb dX3_takes_27 rfl (lv_at hl 1 rfl) ?_
    refine lv_bipush (v := 48) hx hb dX3_takes_28 (by decide) ?_
    refine lv_isub hx hb dX3_takes_30 ?_
    obtain ⟨x2, ex2, hf⟩ := lt_elim hf
    refine x_let ex2 ?_
    refine lv_istore_n (lv' := [(2, .int x2), (0, .ref (G.2.1 7)), (1, .int a1)]) hx hb dX3_takes_31 rfl hl (by decide) rfl (fun ls hl => ?_)
    refine lv_iload_n hx hb dX3_takes_32 rfl (lv_at hl 0 rfl) ?_
    refine lv_if_lt (tgt := 42) hx hb dX3_takes_33 (by decide) (fun c3 => ?_) (fun c3 => ?_)
    · have hf := it_t hf c3
      refine lv_iconst (v := 0) hx hb dX3_takes_42 (by decide) ?_
      exact x_zret F hw hr hk (by decide) hf dX3_takes_43
    · have hf := it_f hf c3
      refine lv_iload_n hx hb dX3_takes_36 rfl (lv_at hl 0 rfl) ?_
      refine lv_bipush (v := 9) hx hb dX3_takes_37 (by decide) ?_
      refine lv_icmp_le (tgt := 44) hx hb dX3_takes_39 (by decide) (fun c4 => ?_) (fun c4 => ?_)
      · have hf := it_t hf c4
        refine lv_aload_n hx hb dX3_takes_44 rfl (lv_at hl 1 rfl) ?_
        refine g3_1 F hw tw_175 dX3_takes_45 ?_
        refine lv_iconst (v := 2) hx hb dX3_takes_48 (by decide) ?_
        refine lv_icmp_gt (tgt := 60) hx hb dX3_takes_49 (by decide) (fun c5 => ?_) (fun c5 => ?_)
        · have hf := it_t hf c5
          refine lv_aload_n hx hb dX3_takes_60 rfl (lv_at hl 1 rfl) ?_
          refine lv_iload_n hx hb dX3_takes_61 rfl (lv_at hl 0 rfl) ?_
          obtain ⟨r8, M7, hc6, hf⟩ := bd_some hf
          refine x_aftI hw (x_runV (rest := []) F hw hl.1 vw_RX3_58 (sR) rfl (c3_takesOfTicket x2 hc6) rfl rfl (Nat.le_of_ble_eq_true rfl) ⟨Nat.le_of_ble_eq_true rfl, Nat.le_of_ble_eq_true rfl⟩ dX3_takes_62) (fun H locs hw => ?_)
          obtain ⟨g9, hf⟩ := gd_some hf
          exact x_zret F hw hr hk (isB_nar g9) hf dX3_takes_65
        · have hf := it_f hf c5
          refine lv_aload_n hx hb dX3_takes_52 rfl (lv_at hl 1 rfl) ?_
          refine lv_iload_n hx hb dX3_takes_53 rfl (lv_at hl 0 rfl) ?_
          obtain ⟨r12, M11, hc10, hf⟩ := bd_some hf
          refine x_aftI hw (x_runV (rest := []) F hw hl.1 vw_RX3_55 (sR) rfl (c3_takesOfShop x2 hc10) rfl rfl (Nat.le_of_ble_eq_true rfl) ⟨Nat.le_of_ble_eq_true rfl, Nat.le_of_ble_eq_true rfl⟩ dX3_takes_54) (fun H locs hw => ?_)
          refine lv_goto (tgt := 65) hx hb dX3_takes_57 (by decide) ?_
          obtain ⟨g13, hf⟩ := gd_some hf
          exact x_zret F hw hr hk (isB_nar g13) hf dX3_takes_65
      · have hf := it_f hf c4
        refine lv_iconst (v := 0) hx hb dX3_takes_42 (by decide) ?_
        exact x_zret F hw hr hk (by decide) hf dX3_takes_43
  · have hf := it_t hf c1
    refine lv_iload_n hx hb dX3_takes_7 rfl (lv_at hl 1 rfl) ?_
    refine lv_bipush (v := 32) hx hb dX3_takes_8 (by decide) ?_
    refine lv_icmp_eq (tgt := 21) hx hb dX3_takes_10 (by decide) (fun c14 => ?_) (fun c14 => ?_)
    · have hf := it_t hf c14
      exact w3_takes_21 F hr hk M _ _ ls hw (lv_sub hl [] rfl) hf
    · have hf := it_f hf c14
      refine lv_aload_n hx hb dX3_takes_13 rfl (lv_at hl 0 rfl) ?_
      refine lv_iload_n hx hb dX3_takes_14 rfl (lv_at hl 1 rfl) ?_
      obtain ⟨r17, M16, hc15, hf⟩ := bd_some hf
      refine x_aftI hw (x_runV (rest := []) F hw hl.1 vw_RX3_52 (sR) rfl (c3_beginsItem a1 hc15) rfl rfl (Nat.le_of_ble_eq_true rfl) ⟨Nat.le_of_ble_eq_true rfl, Nat.le_of_ble_eq_true rfl⟩ dX3_takes_15) (fun H locs hw => ?_)
      refine lv_if_eq (tgt := 25) hx hb dX3_takes_18 (by decide) (fun c18 => ?_) (fun c18 => ?_)
      · have hf := it_t hf c18
        refine lv_iconst (v := 0) hx hb dX3_takes_25 (by decide) ?_
        exact x_zret F hw hr hk (by decide) hf dX3_takes_26
      · have hf := it_f hf c18
        exact w3_takes_21 F hr hk M16 _ _ ls hw (lv_sub hl [] rfl) hf
theorem dX3_faultOf_0 : decode cX3_faultOf 0 = .ok (.aload_n 0, 1) := by decide +kernel
theorem dX3_faultOf_1 : decode cX3_faultOf 1 = .ok (.getfield 12, 3) := by decide +kernel
theorem dX3_faultOf_4 : decode cX3_faultOf 4 = .ok (.invokevirtual 32, 3) := by decide +kernel
theorem dX3_faultOf_7 : decode cX3_faultOf 7 = .ok (.aload_n 0, 1) := by decide +kernel
theorem dX3_faultOf_8 : decode cX3_faultOf 8 = .ok (.iconst 0, 1) := by decide +kernel
theorem dX3_faultOf_9 : decode cX3_faultOf 9 = .ok (.putfield 18, 3) := by decide +kernel
theorem dX3_faultOf_12 : decode cX3_faultOf 12 = .ok (.aload_n 0, 1) := by decide +kernel
theorem dX3_faultOf_13 : decode cX3_faultOf 13 = .ok (.iconst 0, 1) := by decide +kernel
theorem dX3_faultOf_14 : decode cX3_faultOf 14 = .ok (.putfield 22, 3) := by decide +kernel
theorem dX3_faultOf_17 : decode cX3_faultOf 17 = .ok (.aload_n 1, 1) := by decide +kernel
theorem dX3_faultOf_18 : decode cX3_faultOf 18 = .ok (.iload_n 2, 1) := by decide +kernel
theorem dX3_faultOf_19 : decode cX3_faultOf 19 = .ok (.invokevirtual 35, 3) := by decide +kernel
theorem dX3_faultOf_22 : decode cX3_faultOf 22 = .ok (.istore_n 3, 1) := by decide +kernel
theorem dX3_faultOf_23 : decode cX3_faultOf 23 = .ok (.iconst 0, 1) := by decide +kernel
theorem dX3_faultOf_24 : decode cX3_faultOf 24 = .ok (.istore 4, 2) := by decide +kernel
theorem dX3_faultOf_26 : decode cX3_faultOf 26 = .ok (.iload 4, 2) := by decide +kernel
theorem dX3_faultOf_28 : decode cX3_faultOf 28 = .ok (.iload_n 3, 1) := by decide +kernel
theorem dX3_faultOf_29 : decode cX3_faultOf 29 = .ok (.if_icmp .ge 26, 3) := by decide +kernel
theorem dX3_faultOf_32 : decode cX3_faultOf 32 = .ok (.aload_n 0, 1) := by decide +kernel
theorem dX3_faultOf_33 : decode cX3_faultOf 33 = .ok (.aload_n 1, 1) := by decide +kernel
theorem dX3_faultOf_34 : decode cX3_faultOf 34 = .ok (.iload_n 2, 1) := by decide +kernel
theorem dX3_faultOf_35 : decode cX3_faultOf 35 = .ok (.iload 4, 2) := by decide +kernel
theorem dX3_faultOf_37 : decode cX3_faultOf 37 = .ok (.invokevirtual 41, 3) := by decide +kernel
theorem dX3_faultOf_40 : decode cX3_faultOf 40 = .ok (.invokevirtual 45, 3) := by decide +kernel
theorem dX3_faultOf_43 : decode cX3_faultOf 43 = .ok (.ifCond .ne 6, 3) := by decide +kernel
theorem dX3_faultOf_46 : decode cX3_faultOf 46 = .ok (.iload 4, 2) := by decide +kernel
theorem dX3_faultOf_48 : decode cX3_faultOf 48 = .ok (.ireturn, 1) := by decide +kernel
theorem dX3_faultOf_49 : decode cX3_faultOf 49 = .ok (.iinc 4 1, 3) := by decide +kernel
theorem dX3_faultOf_52 : decode cX3_faultOf 52 = .ok (.goto (-26), 3) := by decide +kernel
theorem dX3_faultOf_55 : decode cX3_faultOf 55 = .ok (.aload_n 0, 1) := by decide +kernel
theorem dX3_faultOf_56 : decode cX3_faultOf 56 = .ok (.getfield 18, 3) := by decide +kernel
theorem dX3_faultOf_59 : decode cX3_faultOf 59 = .ok (.ifCond .ne 19, 3) := by decide +kernel
theorem dX3_faultOf_62 : decode cX3_faultOf 62 = .ok (.aload_n 0, 1) := by decide +kernel
theorem dX3_faultOf_63 : decode cX3_faultOf 63 = .ok (.getfield 12, 3) := by decide +kernel
theorem dX3_faultOf_66 : decode cX3_faultOf 66 = .ok (.getfield 49, 3) := by decide +kernel
theorem dX3_faultOf_69 : decode cX3_faultOf 69 = .ok (.iconst 2, 1) := by decide +kernel
theorem dX3_faultOf_70 : decode cX3_faultOf 70 = .ok (.if_icmp .lt 8, 3) := by decide +kernel
theorem dX3_faultOf_73 : decode cX3_faultOf 73 = .ok (.bipush (-9), 2) := by decide +kernel
theorem dX3_faultOf_75 : decode cX3_faultOf 75 = .ok (.goto 4, 3) := by decide +kernel
theorem dX3_faultOf_78 : decode cX3_faultOf 78 = .ok (.iload_n 3, 1) := by decide +kernel
theorem dX3_faultOf_79 : decode cX3_faultOf 79 = .ok (.ireturn, 1) := by decide +kernel
def p3_faultOf_26 (b : Nat) (k26 : Int32 → Int32 → Int32 → SX → Option (Int32 × SX)) (v2 : Int32) (v3 : Int32) (v4 : Int32) (M : SX) : Option (Int32 × SX) :=
  if v3 ≤ v4 then (if (M.1 7 1) = 0 then (if (M.1 8 0) < (2 : Int32) then (some (v3, M))
  else (some ((-9), M)))
  else (some (v3, M)))
  else (bd (p4_valueAt b v2 v4 M) (fun r6 M5 => bd (p3_takes r6 M5) (fun r9 M8 => if r9 = 0 then (some (v4, M8))
  else (lt_ (v4 + 1) (fun x11 => k26 v2 v3 x11 M8)))))
set_option maxHeartbeats 4000000 in
set_option maxRecDepth 100000 in
theorem w3_faultOf_26 {G : XG} {p : Program} {l : Launch} {e : Env} {s : State} {m : MethodId} {args : Array Value} {below : List Frame} {meth : Method} {c : Code} (F : Fx G ZX p m c cX3_faultOf 5 s args RX3) (hr : meth.sig.returnType = some .int) (hk : meth.locks = false) {r : Int32} {M' : SX} (b : Nat) (qb : isS b) (k26 : Int32 → Int32 → Int32 → SX → Option (Int32 × SX)) (hk26 : ∀ (v2 : Int32) (v3 : Int32) (v4 : Int32) (M : SX) (H : Heap) (locs : List Loc) (ls : Array Slot), Wld G ZX M s.heap H locs → lv_has ls 5 [(0, .ref (G.2.1 7)), (1, .ref (G.2.1 b)), (2, .int v2), (3, .int v3), (4, .int v4)] → k26 v2 v3 v4 M = some (r, M') → WXi G ZX p l e 5 s m args below meth c r M' H locs (F0 m 26 ls [])) : ∀ (v2 : Int32) (v3 : Int32) (v4 : Int32) (M : SX) (H : Heap) (locs : List Loc) (ls : Array Slot), Wld G ZX M s.heap H locs → lv_has ls 5 [(0, .ref (G.2.1 7)), (1, .ref (G.2.1 b)), (2, .int v2), (3, .int v3), (4, .int v4)] → p3_faultOf_26 b k26 v2 v3 v4 M = some (r, M') → WXi G ZX p l e 5 s m args below meth c r M' H locs (F0 m 26 ls []) := by
  intro v2 v3 v4 M H locs ls hw hl hf
  have hx := F.1.1
  have hb := F.1.2.1
  unfold p3_faultOf_26 at hf
  refine lv_iload hx hb dX3_faultOf_26 (lv_at hl 4 rfl) ?_
  refine lv_iload_n hx hb dX3_faultOf_28 rfl (lv_at hl 3 rfl) ?_
  refine lv_icmp_ge (tgt := 55) hx hb dX3_faultOf_29 (by decide) (fun c1 => ?_) (fun c1 => ?_)
  · have hf := it_t hf c1
    refine lv_aload_n hx hb dX3_faultOf_55 rfl (lv_at hl 0 rfl) ?_
    refine g3_1 F hw tw_175 dX3_faultOf_56 ?_
    refine lv_if_ne (tgt := 78) hx hb dX3_faultOf_59 (by decide) (fun c2 => ?_) (fun c2 => ?_)
    · have hf := it_f hf c2
      refine lv_iload_n hx hb dX3_faultOf_78 rfl (lv_at hl 3 rfl) ?_
      exact x_iret F hw hr hk hf dX3_faultOf_79
    · have hf := it_t hf c2
      refine lv_aload_n hx hb dX3_faultOf_62 rfl (lv_at hl 0 rfl) ?_
      refine g3_0 F hw tw_173 dX3_faultOf_63 ?_
      refine g1_0 isL_8 F hw tw_174 dX3_faultOf_66 ?_
      refine lv_iconst (v := 2) hx hb dX3_faultOf_69 (by decide) ?_
      refine lv_icmp_lt (tgt := 78) hx hb dX3_faultOf_70 (by decide) (fun c3 => ?_) (fun c3 => ?_)
      · have hf := it_t hf c3
        refine lv_iload_n hx hb dX3_faultOf_78 rfl (lv_at hl 3 rfl) ?_
        exact x_iret F hw hr hk hf dX3_faultOf_79
      · have hf := it_f hf c3
        refine lv_bipush (v := (-9)) hx hb dX3_faultOf_73 (by decide) ?_
        refine lv_goto (tgt := 79) hx hb dX3_faultOf_75 (by decide) ?_
        exact x_iret F hw hr hk hf dX3_faultOf_79
  · have hf := it_f hf c1
    refine lv_aload_n hx hb dX3_faultOf_32 rfl (lv_at hl 0 rfl) ?_
    refine lv_aload_n hx hb dX3_faultOf_33 rfl (lv_at hl 1 rfl) ?_
    refine lv_iload_n hx hb dX3_faultOf_34 rfl (lv_at hl 2 rfl) ?_
    refine lv_iload hx hb dX3_faultOf_35 (lv_at hl 4 rfl) ?_
    obtain ⟨r6, M5, hc4, hf⟩ := bd_some hf
    refine x_aftI hw (x_runV (rest := [.ref (G.2.1 7)]) F hw hl.1 vw_RX3_41 (sS qb) rfl (c4_valueAt b qb v2 v4 hc4) rfl rfl (Nat.le_of_ble_eq_true rfl) ⟨Nat.le_of_ble_eq_true rfl, Nat.le_of_ble_eq_true rfl⟩ dX3_faultOf_37) (fun H locs hw => ?_)
    obtain ⟨r9, M8, hc7, hf⟩ := bd_some hf
    refine x_aftI hw (x_runV (rest := []) F hw hl.1 vw_RX3_45 (sR) rfl (c3_takes r6 hc7) rfl rfl (Nat.le_of_ble_eq_true rfl) ⟨Nat.le_of_ble_eq_true rfl, Nat.le_of_ble_eq_true rfl⟩ dX3_faultOf_40) (fun H locs hw => ?_)
    refine lv_if_ne (tgt := 49) hx hb dX3_faultOf_43 (by decide) (fun c10 => ?_) (fun c10 => ?_)
    · have hf := it_f hf c10
      obtain ⟨x11, ex11, hf⟩ := lt_elim hf
      refine lv_iinc (v := x11) (lv' := [(4, .int x11), (0, .ref (G.2.1 7)), (1, .ref (G.2.1 b)), (2, .int v2), (3, .int v3)]) hx hb dX3_faultOf_49 hl (k := 4) rfl (by rw [ex11]; rfl) (by decide) rfl (fun ls hl => ?_)
      refine lv_goto (tgt := 26) hx hb dX3_faultOf_52 (by decide) ?_
      exact hk26 v2 v3 x11 M8 _ _ ls hw (lv_sub hl [1, 2, 3, 4, 0] rfl) hf
    · have hf := it_t hf c10
      refine lv_iload hx hb dX3_faultOf_46 (lv_at hl 4 rfl) ?_
      exact x_iret F hw hr hk hf dX3_faultOf_48
theorem z3_faultOf_26 {G : XG} {p : Program} {l : Launch} {e : Env} {s : State} {m : MethodId} {args : Array Value} {below : List Frame} {meth : Method} {c : Code} (F : Fx G ZX p m c cX3_faultOf 5 s args RX3) (hr : meth.sig.returnType = some .int) (hk : meth.locks = false) {r : Int32} {M' : SX} (b : Nat) (qb : isS b) : ∀ n : Nat, ∀ (v2 : Int32) (v3 : Int32) (v4 : Int32) (M : SX) (H : Heap) (locs : List Loc) (ls : Array Slot), Wld G ZX M s.heap H locs → lv_has ls 5 [(0, .ref (G.2.1 7)), (1, .ref (G.2.1 b)), (2, .int v2), (3, .int v3), (4, .int v4)] → xlp3 (p3_faultOf_26 b) n v2 v3 v4 M = some (r, M') → WXi G ZX p l e 5 s m args below meth c r M' H locs (F0 m 26 ls []) := by
  intro n
  induction n with
  | zero => intro _ _ _ _ _ _ _ _ _ hf; cases hf
  | succ n ih => exact w3_faultOf_26 F hr hk b qb (xlp3 (p3_faultOf_26 b) n) ih
def p3_faultOf (b : Nat) (a2 : Int32) (M : SX) : Option (Int32 × SX) :=
  bv (p1_clear 8 M) (fun M2 => lt_ (wI M2 7 1 0) (fun M3 => lt_ (wI M3 7 2 0) (fun M4 => bd (p4_sizeOf b a2 M4) (fun r7 M6 => xlp3 (p3_faultOf_26 b) FU a2 r7 0 M6))))
set_option maxHeartbeats 4000000 in
set_option maxRecDepth 100000 in
theorem c3_faultOf {l : Launch} {G : XG} {r : Int32} {M' : SX} {M : SX} (b : Nat) (qb : isS b) (a2 : Int32) (hf : p3_faultOf b a2 M = some (r, M')) : Met l yX3_faultOf (.code yX3_faultOf cX3_faultOf 5 (some .int) :: TBL) (rmX 5) (xPc G ZX M [.ref (G.2.1 7), .ref (G.2.1 b), .int a2]) (xQi G ZX r M') 0 0 (inA G ZX) := by
  refine x_met (cc := cX3_faultOf) (by decide) (Nat.le_of_ble_eq_true rfl) ?_
  intro p e s m below meth c ls F hr hk hl hw
  have F : Fx G ZX p m c cX3_faultOf 5 s [.ref (G.2.1 7), .ref (G.2.1 b), .int a2].toArray RX3 := F
  have hl : lv_has ls 5 [(0, .ref (G.2.1 7)), (1, .ref (G.2.1 b)), (2, .int a2)] := hl
  have hx := F.1.1
  have hb := F.1.2.1
  unfold p3_faultOf at hf
  refine lv_aload_n hx hb dX3_faultOf_0 rfl (lv_at hl 0 rfl) ?_
  refine g3_0 F hw tw_173 dX3_faultOf_1 ?_
  obtain ⟨M2, hc1, hf⟩ := bv_some hf
  refine x_aftV hw (x_runV (rest := []) F hw hl.1 vw_RX3_32 (sL isL_8) rfl (c1_clear 8 isL_8 hc1) rfl rfl (Nat.le_of_ble_eq_true rfl) ⟨Nat.le_of_ble_eq_true rfl, Nat.le_of_ble_eq_true rfl⟩ dX3_faultOf_4) (fun H locs hw => ?_)
  refine lv_aload_n hx hb dX3_faultOf_7 rfl (lv_at hl 0 rfl) ?_
  refine lv_iconst (v := 0) hx hb dX3_faultOf_8 (by decide) ?_
  refine s3_1 F hw tw_175 dX3_faultOf_9 (fun H locs hw => ?_)
  obtain ⟨M3, eM3, hf⟩ := lt_elim hf
  rw [← eM3] at hw
  refine lv_aload_n hx hb dX3_faultOf_12 rfl (lv_at hl 0 rfl) ?_
  refine lv_iconst (v := 0) hx hb dX3_faultOf_13 (by decide) ?_
  refine s3_2 F hw (by decide) tw_194 dX3_faultOf_14 (fun H locs hw => ?_)
  obtain ⟨M4, eM4, hf⟩ := lt_elim hf
  rw [← eM4] at hw
  refine lv_aload_n hx hb dX3_faultOf_17 rfl (lv_at hl 1 rfl) ?_
  refine lv_iload_n hx hb dX3_faultOf_18 rfl (lv_at hl 2 rfl) ?_
  obtain ⟨r7, M6, hc5, hf⟩ := bd_some hf
  refine x_aftI hw (x_runV (rest := []) F hw hl.1 vw_RX3_35 (sS qb) rfl (c4_sizeOf b qb a2 hc5) rfl rfl (Nat.le_of_ble_eq_true rfl) ⟨Nat.le_of_ble_eq_true rfl, Nat.le_of_ble_eq_true rfl⟩ dX3_faultOf_19) (fun H locs hw => ?_)
  refine lv_istore_n (lv' := [(3, .int r7), (0, .ref (G.2.1 7)), (1, .ref (G.2.1 b)), (2, .int a2)]) hx hb dX3_faultOf_22 rfl hl (by decide) rfl (fun ls hl => ?_)
  refine lv_iconst (v := 0) hx hb dX3_faultOf_23 (by decide) ?_
  refine lv_istore (lv' := [(4, .int 0), (3, .int r7), (0, .ref (G.2.1 7)), (1, .ref (G.2.1 b)), (2, .int a2)]) hx hb dX3_faultOf_24 hl (by decide) rfl (fun ls hl => ?_)
  exact z3_faultOf_26 F hr hk b qb FU a2 r7 0 M6 _ _ ls hw (lv_sub hl [2, 3, 4, 1, 0] rfl) hf
