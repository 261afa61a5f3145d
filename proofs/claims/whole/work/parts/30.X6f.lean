theorem dX6_give_0 : decode cX6_give 0 = .ok (.aload_n 0, 1) := by decide +kernel
theorem dX6_give_1 : decode cX6_give 1 = .ok (.iload_n 1, 1) := by decide +kernel
theorem dX6_give_2 : decode cX6_give 2 = .ok (.invokevirtual 152, 3) := by decide +kernel
theorem dX6_give_5 : decode cX6_give 5 = .ok (.ifCond .eq 15, 3) := by decide +kernel
theorem dX6_give_8 : decode cX6_give 8 = .ok (.iload_n 2, 1) := by decide +kernel
theorem dX6_give_9 : decode cX6_give 9 = .ok (.i2l, 1) := by decide +kernel
theorem dX6_give_10 : decode cX6_give 10 = .ok (.lconst 1, 1) := by decide +kernel
theorem dX6_give_11 : decode cX6_give 11 = .ok (.ldc2_w 203, 3) := by decide +kernel
theorem dX6_give_14 : decode cX6_give 14 = .ok (.invokestatic 69, 3) := by decide +kernel
theorem dX6_give_17 : decode cX6_give 17 = .ok (.ifCond .ne 5, 3) := by decide +kernel
theorem dX6_give_20 : decode cX6_give 20 = .ok (.iconst (-1), 1) := by decide +kernel
theorem dX6_give_21 : decode cX6_give 21 = .ok (.ireturn, 1) := by decide +kernel
theorem dX6_give_22 : decode cX6_give 22 = .ok (.aload_n 0, 1) := by decide +kernel
theorem dX6_give_23 : decode cX6_give 23 = .ok (.getfield 7, 3) := by decide +kernel
theorem dX6_give_26 : decode cX6_give 26 = .ok (.iconst 1, 1) := by decide +kernel
theorem dX6_give_27 : decode cX6_give 27 = .ok (.iload_n 1, 1) := by decide +kernel
theorem dX6_give_28 : decode cX6_give 28 = .ok (.iadd, 1) := by decide +kernel
theorem dX6_give_29 : decode cX6_give 29 = .ok (.iaload, 1) := by decide +kernel
theorem dX6_give_30 : decode cX6_give 30 = .ok (.iload_n 2, 1) := by decide +kernel
theorem dX6_give_31 : decode cX6_give 31 = .ok (.iadd, 1) := by decide +kernel
theorem dX6_give_32 : decode cX6_give 32 = .ok (.sipush 9999, 3) := by decide +kernel
theorem dX6_give_35 : decode cX6_give 35 = .ok (.if_icmp .le 6, 3) := by decide +kernel
theorem dX6_give_38 : decode cX6_give 38 = .ok (.bipush (-4), 2) := by decide +kernel
theorem dX6_give_40 : decode cX6_give 40 = .ok (.ireturn, 1) := by decide +kernel
theorem dX6_give_41 : decode cX6_give 41 = .ok (.aload_n 0, 1) := by decide +kernel
theorem dX6_give_42 : decode cX6_give 42 = .ok (.getfield 7, 3) := by decide +kernel
theorem dX6_give_45 : decode cX6_give 45 = .ok (.iconst 0, 1) := by decide +kernel
theorem dX6_give_46 : decode cX6_give 46 = .ok (.iaload, 1) := by decide +kernel
theorem dX6_give_47 : decode cX6_give 47 = .ok (.bipush 40, 2) := by decide +kernel
theorem dX6_give_49 : decode cX6_give 49 = .ok (.if_icmp .ne 8, 3) := by decide +kernel
theorem dX6_give_52 : decode cX6_give 52 = .ok (.bipush (-2), 2) := by decide +kernel
theorem dX6_give_54 : decode cX6_give 54 = .ok (.goto 9, 3) := by decide +kernel
theorem dX6_give_57 : decode cX6_give 57 = .ok (.aload_n 0, 1) := by decide +kernel
theorem dX6_give_58 : decode cX6_give 58 = .ok (.iload_n 1, 1) := by decide +kernel
theorem dX6_give_59 : decode cX6_give 59 = .ok (.iload_n 2, 1) := by decide +kernel
theorem dX6_give_60 : decode cX6_give 60 = .ok (.invokevirtual 205, 3) := by decide +kernel
theorem dX6_give_63 : decode cX6_give 63 = .ok (.ireturn, 1) := by decide +kernel
def p6_give (a1 : Int32) (a2 : Int32) (M : SX) : Option (Int32 × SX) :=
  bd (p6_isShop a1 M) (fun r3 M2 => if r3 = 0 then (some ((-1), M2))
  else (bd (p6_in (Int32.toInt64 a2) 1 99 M2) (fun r7 M6 => if r7 = 0 then (some ((-1), M6))
  else (gd (bIn (1 + a1) 3964) ( if ((M6.1 1 (Int32.toNatClampNeg (1 + a1))) + a2) ≤ (9999 : Int32) then (gd (bIn 0 3964) ( if (M6.1 1 (Int32.toNatClampNeg 0)) = (40 : Int32) then (some ((-2), M6))
  else (bd (p6_doGive a1 a2 M6) (fun r15 M14 => some (r15, M14)))))
  else (some ((-4), M6)))))))
set_option maxHeartbeats 4000000 in
set_option maxRecDepth 100000 in
theorem c6_give {l : Launch} {G : XG} {r : Int32} {M' : SX} {M : SX} (a1 : Int32) (a2 : Int32) (hf : p6_give a1 a2 M = some (r, M')) : Met l yX6_give (.code yX6_give cX6_give 3 (some .int) :: TBL) (rmX 2) (xPc G ZY M [.ref (G.2.1 0), .int a1, .int a2]) (xQi G ZY r M') 0 0 (inA G ZY) := by
  refine x_met (cc := cX6_give) (by decide) (Nat.le_of_ble_eq_true rfl) ?_
  intro p e s m below meth c ls F hr hk hl hw
  have F : Fx G ZY p m c cX6_give 3 s [.ref (G.2.1 0), .int a1, .int a2].toArray RX6 := F
  have hl : lv_has ls 3 [(0, .ref (G.2.1 0)), (1, .int a1), (2, .int a2)] := hl
  have hx := F.1.1
  have hb := F.1.2.1
  unfold p6_give at hf
  refine lv_aload_n hx hb dX6_give_0 rfl (lv_at hl 0 rfl) ?_
  refine lv_iload_n hx hb dX6_give_1 rfl (lv_at hl 1 rfl) ?_
  obtain ⟨r3, M2, hc1, hf⟩ := bd_some hf
  refine x_aftI hw (x_runV (rest := []) F hw hl.1 vw_RX6_152 (sM) rfl (c6_isShop a1 hc1) rfl rfl (Nat.le_of_ble_eq_true rfl) ⟨Nat.le_of_ble_eq_true rfl, Nat.le_of_ble_eq_true rfl⟩ dX6_give_2) (fun H locs hw => ?_)
  refine lv_if_eq (tgt := 20) hx hb dX6_give_5 (by decide) (fun c4 => ?_) (fun c4 => ?_)
  · have hf := it_t hf c4
    refine lv_iconst (v := (-1)) hx hb dX6_give_20 (by decide) ?_
    exact x_iret F hw hr hk hf dX6_give_21
  · have hf := it_f hf c4
    refine lv_iload_n hx hb dX6_give_8 rfl (lv_at hl 2 rfl) ?_
    refine lv_i2l (v := Int32.toInt64 a2) hx hb dX6_give_9 rfl ?_
    refine lv_lconst (v := 1) hx hb dX6_give_10 (by decide) ?_
    refine lv_ldc2 (v := 99) hx hb F.1.2.2.2.1 (F.1.2.2.2.2 _ tw_726) dX6_give_11 ?_
    obtain ⟨r7, M6, hc5, hf⟩ := bd_some hf
    refine x_aftI hw (x_runS (rest := []) F hw hl.1 sw_RX6_69 (c6_in (Int32.toInt64 a2) 1 99 hc5) rfl rfl (Nat.le_of_ble_eq_true rfl) ⟨Nat.le_of_ble_eq_true rfl, Nat.le_of_ble_eq_true rfl⟩ dX6_give_14) (fun H locs hw => ?_)
    refine lv_if_ne (tgt := 22) hx hb dX6_give_17 (by decide) (fun c8 => ?_) (fun c8 => ?_)
    · have hf := it_f hf c8
      refine lv_aload_n hx hb dX6_give_22 rfl (lv_at hl 0 rfl) ?_
      refine g6_0 F hw tw_610 dX6_give_23 ?_
      refine lv_iconst (v := 1) hx hb dX6_give_26 (by decide) ?_
      refine lv_iload_n hx hb dX6_give_27 rfl (lv_at hl 1 rfl) ?_
      refine lv_iadd hx hb dX6_give_28 ?_
      obtain ⟨g9, hf⟩ := gd_some hf
      refine x_iald F hw sM1 g9 dX6_give_29 ?_
      refine lv_iload_n hx hb dX6_give_30 rfl (lv_at hl 2 rfl) ?_
      refine lv_iadd hx hb dX6_give_31 ?_
      refine lv_sipush (v := 9999) hx hb dX6_give_32 (by decide) ?_
      refine lv_icmp_le (tgt := 41) hx hb dX6_give_35 (by decide) (fun c10 => ?_) (fun c10 => ?_)
      · have hf := it_t hf c10
        refine lv_aload_n hx hb dX6_give_41 rfl (lv_at hl 0 rfl) ?_
        refine g6_0 F hw tw_610 dX6_give_42 ?_
        refine lv_iconst (v := 0) hx hb dX6_give_45 (by decide) ?_
        obtain ⟨g11, hf⟩ := gd_some hf
        refine x_iald F hw sM1 g11 dX6_give_46 ?_
        refine lv_bipush (v := 40) hx hb dX6_give_47 (by decide) ?_
        refine lv_icmp_ne (tgt := 57) hx hb dX6_give_49 (by decide) (fun c12 => ?_) (fun c12 => ?_)
        · have hf := it_f hf c12
          refine lv_aload_n hx hb dX6_give_57 rfl (lv_at hl 0 rfl) ?_
          refine lv_iload_n hx hb dX6_give_58 rfl (lv_at hl 1 rfl) ?_
          refine lv_iload_n hx hb dX6_give_59 rfl (lv_at hl 2 rfl) ?_
          obtain ⟨r15, M14, hc13, hf⟩ := bd_some hf
          refine x_aftI hw (x_runV (rest := []) F hw hl.1 vw_RX6_205 (sM) rfl (c6_doGive a1 a2 hc13) rfl rfl (Nat.le_of_ble_eq_true rfl) ⟨Nat.le_of_ble_eq_true rfl, Nat.le_of_ble_eq_true rfl⟩ dX6_give_60) (fun H locs hw => ?_)
          exact x_iret F hw hr hk hf dX6_give_63
        · have hf := it_t hf c12
          refine lv_bipush (v := (-2)) hx hb dX6_give_52 (by decide) ?_
          refine lv_goto (tgt := 63) hx hb dX6_give_54 (by decide) ?_
          exact x_iret F hw hr hk hf dX6_give_63
      · have hf := it_f hf c10
        refine lv_bipush (v := (-4)) hx hb dX6_give_38 (by decide) ?_
        exact x_iret F hw hr hk hf dX6_give_40
    · have hf := it_t hf c8
      refine lv_iconst (v := (-1)) hx hb dX6_give_20 (by decide) ?_
      exact x_iret F hw hr hk hf dX6_give_21
theorem dX6_deep_0 : decode cX6_deep 0 = .ok (.aload_n 0, 1) := by decide +kernel
theorem dX6_deep_1 : decode cX6_deep 1 = .ok (.iload_n 1, 1) := by decide +kernel
theorem dX6_deep_2 : decode cX6_deep 2 = .ok (.invokevirtual 152, 3) := by decide +kernel
theorem dX6_deep_5 : decode cX6_deep 5 = .ok (.ifCond .ne 5, 3) := by decide +kernel
theorem dX6_deep_8 : decode cX6_deep 8 = .ok (.iconst (-1), 1) := by decide +kernel
theorem dX6_deep_9 : decode cX6_deep 9 = .ok (.ireturn, 1) := by decide +kernel
theorem dX6_deep_10 : decode cX6_deep 10 = .ok (.iconst 0, 1) := by decide +kernel
theorem dX6_deep_11 : decode cX6_deep 11 = .ok (.istore_n 2, 1) := by decide +kernel
theorem dX6_deep_12 : decode cX6_deep 12 = .ok (.iload_n 1, 1) := by decide +kernel
theorem dX6_deep_13 : decode cX6_deep 13 = .ok (.istore_n 3, 1) := by decide +kernel
theorem dX6_deep_14 : decode cX6_deep 14 = .ok (.iload_n 2, 1) := by decide +kernel
theorem dX6_deep_15 : decode cX6_deep 15 = .ok (.bipush 7, 2) := by decide +kernel
theorem dX6_deep_17 : decode cX6_deep 17 = .ok (.if_icmp .ge 27, 3) := by decide +kernel
theorem dX6_deep_20 : decode cX6_deep 20 = .ok (.aload_n 0, 1) := by decide +kernel
theorem dX6_deep_21 : decode cX6_deep 21 = .ok (.iload_n 3, 1) := by decide +kernel
theorem dX6_deep_22 : decode cX6_deep 22 = .ok (.invokevirtual 143, 3) := by decide +kernel
theorem dX6_deep_25 : decode cX6_deep 25 = .ok (.ifCond .eq 19, 3) := by decide +kernel
theorem dX6_deep_28 : decode cX6_deep 28 = .ok (.aload_n 0, 1) := by decide +kernel
theorem dX6_deep_29 : decode cX6_deep 29 = .ok (.getfield 7, 3) := by decide +kernel
theorem dX6_deep_32 : decode cX6_deep 32 = .ok (.bipush 7, 2) := by decide +kernel
theorem dX6_deep_34 : decode cX6_deep 34 = .ok (.iload_n 3, 1) := by decide +kernel
theorem dX6_deep_35 : decode cX6_deep 35 = .ok (.iadd, 1) := by decide +kernel
theorem dX6_deep_36 : decode cX6_deep 36 = .ok (.iaload, 1) := by decide +kernel
theorem dX6_deep_37 : decode cX6_deep 37 = .ok (.istore_n 3, 1) := by decide +kernel
theorem dX6_deep_38 : decode cX6_deep 38 = .ok (.iinc 2 1, 3) := by decide +kernel
theorem dX6_deep_41 : decode cX6_deep 41 = .ok (.goto (-27), 3) := by decide +kernel
theorem dX6_deep_44 : decode cX6_deep 44 = .ok (.iload_n 2, 1) := by decide +kernel
theorem dX6_deep_45 : decode cX6_deep 45 = .ok (.bipush 7, 2) := by decide +kernel
theorem dX6_deep_47 : decode cX6_deep 47 = .ok (.if_icmp .ne 6, 3) := by decide +kernel
theorem dX6_deep_50 : decode cX6_deep 50 = .ok (.bipush (-9), 2) := by decide +kernel
theorem dX6_deep_52 : decode cX6_deep 52 = .ok (.ireturn, 1) := by decide +kernel
theorem dX6_deep_53 : decode cX6_deep 53 = .ok (.aload_n 0, 1) := by decide +kernel
theorem dX6_deep_54 : decode cX6_deep 54 = .ok (.iload_n 3, 1) := by decide +kernel
theorem dX6_deep_55 : decode cX6_deep 55 = .ok (.putfield 64, 3) := by decide +kernel
theorem dX6_deep_58 : decode cX6_deep 58 = .ok (.iload_n 2, 1) := by decide +kernel
theorem dX6_deep_59 : decode cX6_deep 59 = .ok (.ireturn, 1) := by decide +kernel
def p6_deep_44 (v2 : Int32) (v3 : Int32) (M : SX) : Option (Int32 × SX) :=
  if v2 = (7 : Int32) then (some ((-9), M))
  else (lt_ (wI M 0 7 v3) (fun M2 => some (v2, M2)))
set_option maxHeartbeats 4000000 in
set_option maxRecDepth 100000 in
theorem w6_deep_44 {G : XG} {p : Program} {l : Launch} {e : Env} {s : State} {m : MethodId} {args : Array Value} {below : List Frame} {meth : Method} {c : Code} (F : Fx G ZY p m c cX6_deep 4 s args RX6) (hr : meth.sig.returnType = some .int) (hk : meth.locks = false) {r : Int32} {M' : SX} : ∀ (v2 : Int32) (v3 : Int32) (M : SX) (H : Heap) (locs : List Loc) (ls : Array Slot), Wld G ZY M s.heap H locs → lv_has ls 4 [(0, .ref (G.2.1 0)), (2, .int v2), (3, .int v3)] → p6_deep_44 v2 v3 M = some (r, M') → WXi G ZY p l e 2 s m args below meth c r M' H locs (F0 m 44 ls []) := by
  intro v2 v3 M H locs ls hw hl hf
  have hx := F.1.1
  have hb := F.1.2.1
  unfold p6_deep_44 at hf
  refine lv_iload_n hx hb dX6_deep_44 rfl (lv_at hl 1 rfl) ?_
  refine lv_bipush (v := 7) hx hb dX6_deep_45 (by decide) ?_
  refine lv_icmp_ne (tgt := 53) hx hb dX6_deep_47 (by decide) (fun c1 => ?_) (fun c1 => ?_)
  · have hf := it_f hf c1
    refine lv_aload_n hx hb dX6_deep_53 rfl (lv_at hl 0 rfl) ?_
    refine lv_iload_n hx hb dX6_deep_54 rfl (lv_at hl 2 rfl) ?_
    refine s6_7 F hw tw_604 dX6_deep_55 (fun H locs hw => ?_)
    obtain ⟨M2, eM2, hf⟩ := lt_elim hf
    rw [← eM2] at hw
    refine lv_iload_n hx hb dX6_deep_58 rfl (lv_at hl 1 rfl) ?_
    exact x_iret F hw hr hk hf dX6_deep_59
  · have hf := it_t hf c1
    refine lv_bipush (v := (-9)) hx hb dX6_deep_50 (by decide) ?_
    exact x_iret F hw hr hk hf dX6_deep_52
def p6_deep_14 (k14 : Int32 → Int32 → SX → Option (Int32 × SX)) (v2 : Int32) (v3 : Int32) (M : SX) : Option (Int32 × SX) :=
  if (7 : Int32) ≤ v2 then (p6_deep_44 v2 v3 M)
  else (bd (p6_isPawned v3 M) (fun r4 M3 => if r4 = 0 then (p6_deep_44 v2 v3 M3)
  else (gd (bIn (7 + v3) 3964) ( lt_ (M3.1 1 (Int32.toNatClampNeg (7 + v3))) (fun x7 => lt_ (v2 + 1) (fun x8 => k14 x8 x7 M3))))))
set_option maxHeartbeats 4000000 in
set_option maxRecDepth 100000 in
theorem w6_deep_14 {G : XG} {p : Program} {l : Launch} {e : Env} {s : State} {m : MethodId} {args : Array Value} {below : List Frame} {meth : Method} {c : Code} (F : Fx G ZY p m c cX6_deep 4 s args RX6) (hr : meth.sig.returnType = some .int) (hk : meth.locks = false) {r : Int32} {M' : SX} (k14 : Int32 → Int32 → SX → Option (Int32 × SX)) (hk14 : ∀ (v2 : Int32) (v3 : Int32) (M : SX) (H : Heap) (locs : List Loc) (ls : Array Slot), Wld G ZY M s.heap H locs → lv_has ls 4 [(0, .ref (G.2.1 0)), (2, .int v2), (3, .int v3)] → k14 v2 v3 M = some (r, M') → WXi G ZY p l e 2 s m args below meth c r M' H locs (F0 m 14 ls [])) : ∀ (v2 : Int32) (v3 : Int32) (M : SX) (H : Heap) (locs : List Loc) (ls : Array Slot), Wld G ZY M s.heap H locs → lv_has ls 4 [(0, .ref (G.2.1 0)), (2, .int v2), (3, .int v3)] → p6_deep_14 k14 v2 v3 M = some (r, M') → WXi G ZY p l e 2 s m args below meth c r M' H locs (F0 m 14 ls []) := by
  intro v2 v3 M H locs ls hw hl hf
  have hx := F.1.1
  have hb := F.1.2.1
  unfold p6_deep_14 at hf
  refine lv_iload_n hx hb dX6_deep_14 rfl (lv_at hl 1 rfl) ?_
  refine lv_bipush (v := 7) hx hb dX6_deep_15 (by decide) ?_
  refine lv_icmp_ge (tgt := 44) hx hb dX6_deep_17 (by decide) (fun c1 => ?_) (fun c1 => ?_)
  · have hf := it_t hf c1
    exact w6_deep_44 F hr hk v2 v3 M _ _ ls hw (lv_sub hl [0, 1, 2] rfl) hf
  · have hf := it_f hf c1
    refine lv_aload_n hx hb dX6_deep_20 rfl (lv_at hl 0 rfl) ?_
    refine lv_iload_n hx hb dX6_deep_21 rfl (lv_at hl 2 rfl) ?_
    obtain ⟨r4, M3, hc2, hf⟩ := bd_some hf
    refine x_aftI hw (x_runV (rest := []) F hw hl.1 vw_RX6_143 (sM) rfl (c6_isPawned v3 hc2) rfl rfl (Nat.le_of_ble_eq_true rfl) ⟨Nat.le_of_ble_eq_true rfl, Nat.le_of_ble_eq_true rfl⟩ dX6_deep_22) (fun H locs hw => ?_)
    refine lv_if_eq (tgt := 44) hx hb dX6_deep_25 (by decide) (fun c5 => ?_) (fun c5 => ?_)
    · have hf := it_t hf c5
      exact w6_deep_44 F hr hk v2 v3 M3 _ _ ls hw (lv_sub hl [0, 1, 2] rfl) hf
    · have hf := it_f hf c5
      refine lv_aload_n hx hb dX6_deep_28 rfl (lv_at hl 0 rfl) ?_
      refine g6_0 F hw tw_610 dX6_deep_29 ?_
      refine lv_bipush (v := 7) hx hb dX6_deep_32 (by decide) ?_
      refine lv_iload_n hx hb dX6_deep_34 rfl (lv_at hl 2 rfl) ?_
      refine lv_iadd hx hb dX6_deep_35 ?_
      obtain ⟨g6, hf⟩ := gd_some hf
      refine x_iald F hw sM1 g6 dX6_deep_36 ?_
      obtain ⟨x7, ex7, hf⟩ := lt_elim hf
      refine x_let ex7 ?_
      refine lv_istore_n (lv' := [(3, .int x7), (0, .ref (G.2.1 0)), (2, .int v2)]) hx hb dX6_deep_37 rfl hl (by decide) rfl (fun ls hl => ?_)
      obtain ⟨x8, ex8, hf⟩ := lt_elim hf
      refine lv_iinc (v := x8) (lv' := [(2, .int x8), (3, .int x7), (0, .ref (G.2.1 0))]) hx hb dX6_deep_38 hl (k := 2) rfl (by rw [ex8]; rfl) (by decide) rfl (fun ls hl => ?_)
      refine lv_goto (tgt := 14) hx hb dX6_deep_41 (by decide) ?_
      exact hk14 x8 x7 M3 _ _ ls hw (lv_sub hl [2, 0, 1] rfl) hf
theorem z6_deep_14 {G : XG} {p : Program} {l : Launch} {e : Env} {s : State} {m : MethodId} {args : Array Value} {below : List Frame} {meth : Method} {c : Code} (F : Fx G ZY p m c cX6_deep 4 s args RX6) (hr : meth.sig.returnType = some .int) (hk : meth.locks = false) {r : Int32} {M' : SX} : ∀ n : Nat, ∀ (v2 : Int32) (v3 : Int32) (M : SX) (H : Heap) (locs : List Loc) (ls : Array Slot), Wld G ZY M s.heap H locs → lv_has ls 4 [(0, .ref (G.2.1 0)), (2, .int v2), (3, .int v3)] → xlp2 p6_deep_14 n v2 v3 M = some (r, M') → WXi G ZY p l e 2 s m args below meth c r M' H locs (F0 m 14 ls []) := by
  intro n
  induction n with
  | zero => intro _ _ _ _ _ _ _ _ hf; cases hf
  | succ n ih => exact w6_deep_14 F hr hk (xlp2 p6_deep_14 n) ih
def p6_deep (a1 : Int32) (M : SX) : Option (Int32 × SX) :=
  bd (p6_isShop a1 M) (fun r3 M2 => if r3 = 0 then (some ((-1), M2))
  else (xlp2 p6_deep_14 FU 0 a1 M2))
set_option maxHeartbeats 4000000 in
set_option maxRecDepth 100000 in
theorem c6_deep {l : Launch} {G : XG} {r : Int32} {M' : SX} {M : SX} (a1 : Int32) (hf : p6_deep a1 M = some (r, M')) : Met l yX6_deep (.code yX6_deep cX6_deep 4 (some .int) :: TBL) (rmX 2) (xPc G ZY M [.ref (G.2.1 0), .int a1]) (xQi G ZY r M') 0 0 (inA G ZY) := by
  refine x_met (cc := cX6_deep) (by decide) (Nat.le_of_ble_eq_true rfl) ?_
  intro p e s m below meth c ls F hr hk hl hw
  have F : Fx G ZY p m c cX6_deep 4 s [.ref (G.2.1 0), .int a1].toArray RX6 := F
  have hl : lv_has ls 4 [(0, .ref (G.2.1 0)), (1, .int a1)] := hl
  have hx := F.1.1
  have hb := F.1.2.1
  unfold p6_deep at hf
  refine lv_aload_n hx hb dX6_deep_0 rfl (lv_at hl 0 rfl) ?_
  refine lv_iload_n hx hb dX6_deep_1 rfl (lv_at hl 1 rfl) ?_
  obtain ⟨r3, M2, hc1, hf⟩ := bd_some hf
  refine x_aftI hw (x_runV (rest := []) F hw hl.1 vw_RX6_152 (sM) rfl (c6_isShop a1 hc1) rfl rfl (Nat.le_of_ble_eq_true rfl) ⟨Nat.le_of_ble_eq_true rfl, Nat.le_of_ble_eq_true rfl⟩ dX6_deep_2) (fun H locs hw => ?_)
  refine lv_if_ne (tgt := 10) hx hb dX6_deep_5 (by decide) (fun c4 => ?_) (fun c4 => ?_)
  · have hf := it_f hf c4
    refine lv_iconst (v := 0) hx hb dX6_deep_10 (by decide) ?_
    refine lv_istore_n (lv' := [(2, .int 0), (0, .ref (G.2.1 0)), (1, .int a1)]) hx hb dX6_deep_11 rfl hl (by decide) rfl (fun ls hl => ?_)
    refine lv_iload_n hx hb dX6_deep_12 rfl (lv_at hl 2 rfl) ?_
    refine lv_istore_n (lv' := [(3, .int a1), (2, .int 0), (0, .ref (G.2.1 0)), (1, .int a1)]) hx hb dX6_deep_13 rfl hl (by decide) rfl (fun ls hl => ?_)
    exact z6_deep_14 F hr hk FU 0 a1 M2 _ _ ls hw (lv_sub hl [2, 1, 0] rfl) hf
  · have hf := it_t hf c4
    refine lv_iconst (v := (-1)) hx hb dX6_deep_8 (by decide) ?_
    exact x_iret F hw hr hk hf dX6_deep_9
theorem dX6_inside_0 : decode cX6_inside 0 = .ok (.aload_n 0, 1) := by decide +kernel
theorem dX6_inside_1 : decode cX6_inside 1 = .ok (.iload_n 1, 1) := by decide +kernel
theorem dX6_inside_2 : decode cX6_inside 2 = .ok (.invokevirtual 152, 3) := by decide +kernel
theorem dX6_inside_5 : decode cX6_inside 5 = .ok (.ifCond .eq 11, 3) := by decide +kernel
theorem dX6_inside_8 : decode cX6_inside 8 = .ok (.aload_n 0, 1) := by decide +kernel
theorem dX6_inside_9 : decode cX6_inside 9 = .ok (.iload_n 1, 1) := by decide +kernel
theorem dX6_inside_10 : decode cX6_inside 10 = .ok (.invokevirtual 213, 3) := by decide +kernel
theorem dX6_inside_13 : decode cX6_inside 13 = .ok (.goto 4, 3) := by decide +kernel
theorem dX6_inside_16 : decode cX6_inside 16 = .ok (.iconst (-1), 1) := by decide +kernel
theorem dX6_inside_17 : decode cX6_inside 17 = .ok (.ireturn, 1) := by decide +kernel
def p6_inside (a1 : Int32) (M : SX) : Option (Int32 × SX) :=
  bd (p6_isShop a1 M) (fun r3 M2 => if r3 = 0 then (some ((-1), M2))
  else (bd (p6_insideOf a1 M2) (fun r7 M6 => some (r7, M6))))
set_option maxHeartbeats 4000000 in
set_option maxRecDepth 100000 in
theorem c6_inside {l : Launch} {G : XG} {r : Int32} {M' : SX} {M : SX} (a1 : Int32) (hf : p6_inside a1 M = some (r, M')) : Met l yX6_inside (.code yX6_inside cX6_inside 2 (some .int) :: TBL) (rmX 2) (xPc G ZY M [.ref (G.2.1 0), .int a1]) (xQi G ZY r M') 0 0 (inA G ZY) := by
  refine x_met (cc := cX6_inside) (by decide) (Nat.le_of_ble_eq_true rfl) ?_
  intro p e s m below meth c ls F hr hk hl hw
  have F : Fx G ZY p m c cX6_inside 2 s [.ref (G.2.1 0), .int a1].toArray RX6 := F
  have hl : lv_has ls 2 [(0, .ref (G.2.1 0)), (1, .int a1)] := hl
  have hx := F.1.1
  have hb := F.1.2.1
  unfold p6_inside at hf
  refine lv_aload_n hx hb dX6_inside_0 rfl (lv_at hl 0 rfl) ?_
  refine lv_iload_n hx hb dX6_inside_1 rfl (lv_at hl 1 rfl) ?_
  obtain ⟨r3, M2, hc1, hf⟩ := bd_some hf
  refine x_aftI hw (x_runV (rest := []) F hw hl.1 vw_RX6_152 (sM) rfl (c6_isShop a1 hc1) rfl rfl (Nat.le_of_ble_eq_true rfl) ⟨Nat.le_of_ble_eq_true rfl, Nat.le_of_ble_eq_true rfl⟩ dX6_inside_2) (fun H locs hw => ?_)
  refine lv_if_eq (tgt := 16) hx hb dX6_inside_5 (by decide) (fun c4 => ?_) (fun c4 => ?_)
  · have hf := it_t hf c4
    refine lv_iconst (v := (-1)) hx hb dX6_inside_16 (by decide) ?_
    exact x_iret F hw hr hk hf dX6_inside_17
  · have hf := it_f hf c4
    refine lv_aload_n hx hb dX6_inside_8 rfl (lv_at hl 0 rfl) ?_
    refine lv_iload_n hx hb dX6_inside_9 rfl (lv_at hl 1 rfl) ?_
    obtain ⟨r7, M6, hc5, hf⟩ := bd_some hf
    refine x_aftI hw (x_runV (rest := []) F hw hl.1 vw_RX6_213 (sM) rfl (c6_insideOf a1 hc5) rfl rfl (Nat.le_of_ble_eq_true rfl) ⟨Nat.le_of_ble_eq_true rfl, Nat.le_of_ble_eq_true rfl⟩ dX6_inside_10) (fun H locs hw => ?_)
    refine lv_goto (tgt := 17) hx hb dX6_inside_13 (by decide) ?_
    exact x_iret F hw hr hk hf dX6_inside_17
theorem dX6_rings_0 : decode cX6_rings 0 = .ok (.iconst 0, 1) := by decide +kernel
theorem dX6_rings_1 : decode cX6_rings 1 = .ok (.istore_n 1, 1) := by decide +kernel
theorem dX6_rings_2 : decode cX6_rings 2 = .ok (.aload_n 0, 1) := by decide +kernel
theorem dX6_rings_3 : decode cX6_rings 3 = .ok (.iconst 0, 1) := by decide +kernel
theorem dX6_rings_4 : decode cX6_rings 4 = .ok (.putfield 64, 3) := by decide +kernel
theorem dX6_rings_7 : decode cX6_rings 7 = .ok (.iconst 0, 1) := by decide +kernel
theorem dX6_rings_8 : decode cX6_rings 8 = .ok (.istore_n 2, 1) := by decide +kernel
theorem dX6_rings_9 : decode cX6_rings 9 = .ok (.iload_n 2, 1) := by decide +kernel
theorem dX6_rings_10 : decode cX6_rings 10 = .ok (.aload_n 0, 1) := by decide +kernel
theorem dX6_rings_11 : decode cX6_rings 11 = .ok (.getfield 140, 3) := by decide +kernel
theorem dX6_rings_14 : decode cX6_rings 14 = .ok (.if_icmp .ge 52, 3) := by decide +kernel
theorem dX6_rings_17 : decode cX6_rings 17 = .ok (.aload_n 0, 1) := by decide +kernel
theorem dX6_rings_18 : decode cX6_rings 18 = .ok (.getfield 64, 3) := by decide +kernel
theorem dX6_rings_21 : decode cX6_rings 21 = .ok (.iload_n 2, 1) := by decide +kernel
theorem dX6_rings_22 : decode cX6_rings 22 = .ok (.invokestatic 181, 3) := by decide +kernel
theorem dX6_rings_25 : decode cX6_rings 25 = .ok (.ifCond .eq 7, 3) := by decide +kernel
theorem dX6_rings_28 : decode cX6_rings 28 = .ok (.iconst 0, 1) := by decide +kernel
theorem dX6_rings_29 : decode cX6_rings 29 = .ok (.goto 8, 3) := by decide +kernel
theorem dX6_rings_32 : decode cX6_rings 32 = .ok (.aload_n 0, 1) := by decide +kernel
theorem dX6_rings_33 : decode cX6_rings 33 = .ok (.iload_n 2, 1) := by decide +kernel
theorem dX6_rings_34 : decode cX6_rings 34 = .ok (.invokevirtual 216, 3) := by decide +kernel
theorem dX6_rings_37 : decode cX6_rings 37 = .ok (.istore_n 3, 1) := by decide +kernel
theorem dX6_rings_38 : decode cX6_rings 38 = .ok (.aload_n 0, 1) := by decide +kernel
theorem dX6_rings_39 : decode cX6_rings 39 = .ok (.dup, 1) := by decide +kernel
theorem dX6_rings_40 : decode cX6_rings 40 = .ok (.getfield 64, 3) := by decide +kernel
theorem dX6_rings_43 : decode cX6_rings 43 = .ok (.iload_n 3, 1) := by decide +kernel
theorem dX6_rings_44 : decode cX6_rings 44 = .ok (.ior, 1) := by decide +kernel
theorem dX6_rings_45 : decode cX6_rings 45 = .ok (.putfield 64, 3) := by decide +kernel
theorem dX6_rings_48 : decode cX6_rings 48 = .ok (.iload_n 1, 1) := by decide +kernel
theorem dX6_rings_49 : decode cX6_rings 49 = .ok (.iload_n 3, 1) := by decide +kernel
theorem dX6_rings_50 : decode cX6_rings 50 = .ok (.ifCond .ne 7, 3) := by decide +kernel
theorem dX6_rings_53 : decode cX6_rings 53 = .ok (.iconst 0, 1) := by decide +kernel
theorem dX6_rings_54 : decode cX6_rings 54 = .ok (.goto 4, 3) := by decide +kernel
theorem dX6_rings_57 : decode cX6_rings 57 = .ok (.iconst 1, 1) := by decide +kernel
theorem dX6_rings_58 : decode cX6_rings 58 = .ok (.iadd, 1) := by decide +kernel
theorem dX6_rings_59 : decode cX6_rings 59 = .ok (.istore_n 1, 1) := by decide +kernel
theorem dX6_rings_60 : decode cX6_rings 60 = .ok (.iinc 2 1, 3) := by decide +kernel
theorem dX6_rings_63 : decode cX6_rings 63 = .ok (.goto (-54), 3) := by decide +kernel
theorem dX6_rings_66 : decode cX6_rings 66 = .ok (.iload_n 1, 1) := by decide +kernel
theorem dX6_rings_67 : decode cX6_rings 67 = .ok (.ireturn, 1) := by decide +kernel
def p6_rings_58 (k9 : Int32 → Int32 → SX → Option (Int32 × SX)) (v2 : Int32) (t0 : Int32) (t1 : Int32) (M : SX) : Option (Int32 × SX) :=
  lt_ (t0 + t1) (fun x1 => lt_ (v2 + 1) (fun x2 => k9 x1 x2 M))
set_option maxHeartbeats 4000000 in
set_option maxRecDepth 100000 in
theorem w6_rings_58 {G : XG} {p : Program} {l : Launch} {e : Env} {s : State} {m : MethodId} {args : Array Value} {below : List Frame} {meth : Method} {c : Code} (F : Fx G ZY p m c cX6_rings 4 s args RX6) (hr : meth.sig.returnType = some .int) (hk : meth.locks = false) {r : Int32} {M' : SX} (k9 : Int32 → Int32 → SX → Option (Int32 × SX)) (hk9 : ∀ (v1 : Int32) (v2 : Int32) (M : SX) (H : Heap) (locs : List Loc) (ls : Array Slot), Wld G ZY M s.heap H locs → lv_has ls 4 [(0, .ref (G.2.1 0)), (1, .int v1), (2, .int v2)] → k9 v1 v2 M = some (r, M') → WXi G ZY p l e 2 s m args below meth c r M' H locs (F0 m 9 ls [])) : ∀ (v2 : Int32) (t0 : Int32) (t1 : Int32) (M : SX) (H : Heap) (locs : List Loc) (ls : Array Slot), Wld G ZY M s.heap H locs → lv_has ls 4 [(0, .ref (G.2.1 0)), (2, .int v2)] → p6_rings_58 k9 v2 t0 t1 M = some (r, M') → WXi G ZY p l e 2 s m args below meth c r M' H locs (F0 m 58 ls [.int t1, .int t0]) := by
  intro v2 t0 t1 M H locs ls hw hl hf
  have hx := F.1.1
  have hb := F.1.2.1
  unfold p6_rings_58 at hf
  refine lv_iadd hx hb dX6_rings_58 ?_
  obtain ⟨x1, ex1, hf⟩ := lt_elim hf
  refine x_let ex1 ?_
  refine lv_istore_n (lv' := [(1, .int x1), (0, .ref (G.2.1 0)), (2, .int v2)]) hx hb dX6_rings_59 rfl hl (by decide) rfl (fun ls hl => ?_)
  obtain ⟨x2, ex2, hf⟩ := lt_elim hf
  refine lv_iinc (v := x2) (lv' := [(2, .int x2), (1, .int x1), (0, .ref (G.2.1 0))]) hx hb dX6_rings_60 hl (k := 2) rfl (by rw [ex2]; rfl) (by decide) rfl (fun ls hl => ?_)
  refine lv_goto (tgt := 9) hx hb dX6_rings_63 (by decide) ?_
  exact hk9 x1 x2 M _ _ ls hw (lv_sub hl [2, 1, 0] rfl) hf
def p6_rings_37 (k9 : Int32 → Int32 → SX → Option (Int32 × SX)) (v1 : Int32) (v2 : Int32) (t0 : Int32) (M : SX) : Option (Int32 × SX) :=
  lt_ (wI M 0 7 ((M.1 0 7) ||| t0)) (fun M1 => if t0 = 0 then (p6_rings_58 k9 v2 v1 0 M1)
  else (p6_rings_58 k9 v2 v1 1 M1))
set_option maxHeartbeats 4000000 in
set_option maxRecDepth 100000 in
theorem w6_rings_37 {G : XG} {p : Program} {l : Launch} {e : Env} {s : State} {m : MethodId} {args : Array Value} {below : List Frame} {meth : Method} {c : Code} (F : Fx G ZY p m c cX6_rings 4 s args RX6) (hr : meth.sig.returnType = some .int) (hk : meth.locks = false) {r : Int32} {M' : SX} (k9 : Int32 → Int32 → SX → Option (Int32 × SX)) (hk9 : ∀ (v1 : Int32) (v2 : Int32) (M : SX) (H : Heap) (locs : List Loc) (ls : Array Slot), Wld G ZY M s.heap H locs → lv_has ls 4 [(0, .ref (G.2.1 0)), (1, .int v1), (2, .int v2)] → k9 v1 v2 M = some (r, M') → WXi G ZY p l e 2 s m args below meth c r M' H locs (F0 m 9 ls [])) : ∀ (v1 : Int32) (v2 : Int32) (t0 : Int32) (M : SX) (H : Heap) (locs : List Loc) (ls : Array Slot), Wld G ZY M s.heap H locs → lv_has ls 4 [(0, .ref (G.2.1 0)), (1, .int v1), (2, .int v2)] → p6_rings_37 k9 v1 v2 t0 M = some (r, M') → WXi G ZY p l e 2 s m args below meth c r M' H locs (F0 m 37 ls [.int t0]) := by
  intro v1 v2 t0 M H locs ls hw hl hf
  have hx := F.1.1
  have hb := F.1.2.1
  unfold p6_rings_37 at hf
  refine lv_istore_n (lv' := [(3, .int t0), (0, .ref (G.2.1 0)), (1, .int v1), (2, .int v2)]) hx hb dX6_rings_37 rfl hl (by decide) rfl (fun ls hl => ?_)
  refine lv_aload_n hx hb dX6_rings_38 rfl (lv_at hl 1 rfl) ?_
  refine lv_dup hx hb dX6_rings_39 rfl ?_
  refine g6_7 F hw tw_604 dX6_rings_40 ?_
  refine lv_iload_n hx hb dX6_rings_43 rfl (lv_at hl 0 rfl) ?_
  refine lv_ior hx hb dX6_rings_44 ?_
  refine s6_7 F hw tw_604 dX6_rings_45 (fun H locs hw => ?_)
  obtain ⟨M1, eM1, hf⟩ := lt_elim hf
  rw [← eM1] at hw
  refine lv_iload_n hx hb dX6_rings_48 rfl (lv_at hl 2 rfl) ?_
  refine lv_iload_n hx hb dX6_rings_49 rfl (lv_at hl 0 rfl) ?_
  refine lv_if_ne (tgt := 57) hx hb dX6_rings_50 (by decide) (fun c2 => ?_) (fun c2 => ?_)
  · have hf := it_f hf c2
    refine lv_iconst (v := 1) hx hb dX6_rings_57 (by decide) ?_
    exact w6_rings_58 F hr hk k9 hk9 v2 v1 1 M1 _ _ ls hw (lv_sub hl [1, 3] rfl) hf
  · have hf := it_t hf c2
    refine lv_iconst (v := 0) hx hb dX6_rings_53 (by decide) ?_
    refine lv_goto (tgt := 58) hx hb dX6_rings_54 (by decide) ?_
    exact w6_rings_58 F hr hk k9 hk9 v2 v1 0 M1 _ _ ls hw (lv_sub hl [1, 3] rfl) hf
def p6_rings_9 (k9 : Int32 → Int32 → SX → Option (Int32 × SX)) (v1 : Int32) (v2 : Int32) (M : SX) : Option (Int32 × SX) :=
  if (M.1 0 1) ≤ v2 then (some (v1, M))
  else (bd (p6_has (M.1 0 7) v2 M) (fun r4 M3 => if r4 = 0 then (bd (p6_ringOf v2 M3) (fun r8 M7 => p6_rings_37 k9 v1 v2 r8 M7))
  else (p6_rings_37 k9 v1 v2 0 M3)))
set_option maxHeartbeats 4000000 in
set_option maxRecDepth 100000 in
theorem w6_rings_9 {G : XG} {p : Program} {l : Launch} {e : Env} {s : State} {m : MethodId} {args : Array Value} {below : List Frame} {meth : Method} {c : Code} (F : Fx G ZY p m c cX6_rings 4 s args RX6) (hr : meth.sig.returnType = some .int) (hk : meth.locks = false) {r : Int32} {M' : SX} (k9 : Int32 → Int32 → SX → Option (Int32 × SX)) (hk9 : ∀ (v1 : Int32) (v2 : Int32) (M : SX) (H : Heap) (locs : List Loc) (ls : Array Slot), Wld G ZY M s.heap H locs → lv_has ls 4 [(0, .ref (G.2.1 0)), (1, .int v1), (2, .int v2)] → k9 v1 v2 M = some (r, M') → WXi G ZY p l e 2 s m args below meth c r M' H locs (F0 m 9 ls [])) : ∀ (v1 : Int32) (v2 : Int32) (M : SX) (H : Heap) (locs : List Loc) (ls : Array Slot), Wld G ZY M s.heap H locs → lv_has ls 4 [(0, .ref (G.2.1 0)), (1, .int v1), (2, .int v2)] → p6_rings_9 k9 v1 v2 M = some (r, M') → WXi G ZY p l e 2 s m args below meth c r M' H locs (F0 m 9 ls []) := by
  intro v1 v2 M H locs ls hw hl hf
  have hx := F.1.1
  have hb := F.1.2.1
  unfold p6_rings_9 at hf
  refine lv_iload_n hx hb dX6_rings_9 rfl (lv_at hl 2 rfl) ?_
  refine lv_aload_n hx hb dX6_rings_10 rfl (lv_at hl 0 rfl) ?_
  refine g6_1 F hw tw_611 dX6_rings_11 ?_
  refine lv_icmp_ge (tgt := 66) hx hb dX6_rings_14 (by decide) (fun c1 => ?_) (fun c1 => ?_)
  · have hf := it_t hf c1
    refine lv_iload_n hx hb dX6_rings_66 rfl (lv_at hl 1 rfl) ?_
    exact x_iret F hw hr hk hf dX6_rings_67
  · have hf := it_f hf c1
    refine lv_aload_n hx hb dX6_rings_17 rfl (lv_at hl 0 rfl) ?_
    refine g6_7 F hw tw_604 dX6_rings_18 ?_
    refine lv_iload_n hx hb dX6_rings_21 rfl (lv_at hl 2 rfl) ?_
    obtain ⟨r4, M3, hc2, hf⟩ := bd_some hf
    refine x_aftI hw (x_runS (rest := []) F hw hl.1 sw_RX6_181 (c6_has (M.1 0 7) v2 hc2) rfl rfl (Nat.le_of_ble_eq_true rfl) ⟨Nat.le_of_ble_eq_true rfl, Nat.le_of_ble_eq_true rfl⟩ dX6_rings_22) (fun H locs hw => ?_)
    refine lv_if_eq (tgt := 32) hx hb dX6_rings_25 (by decide) (fun c5 => ?_) (fun c5 => ?_)
    · have hf := it_t hf c5
      refine lv_aload_n hx hb dX6_rings_32 rfl (lv_at hl 0 rfl) ?_
      refine lv_iload_n hx hb dX6_rings_33 rfl (lv_at hl 2 rfl) ?_
      obtain ⟨r8, M7, hc6, hf⟩ := bd_some hf
      refine x_aftI hw (x_runV (rest := []) F hw hl.1 vw_RX6_216 (sM) rfl (c6_ringOf v2 hc6) rfl rfl (Nat.le_of_ble_eq_true rfl) ⟨Nat.le_of_ble_eq_true rfl, Nat.le_of_ble_eq_true rfl⟩ dX6_rings_34) (fun H locs hw => ?_)
      exact w6_rings_37 F hr hk k9 hk9 v1 v2 r8 M7 _ _ ls hw (lv_sub hl [0, 1, 2] rfl) hf
    · have hf := it_f hf c5
      refine lv_iconst (v := 0) hx hb dX6_rings_28 (by decide) ?_
      refine lv_goto (tgt := 37) hx hb dX6_rings_29 (by decide) ?_
      exact w6_rings_37 F hr hk k9 hk9 v1 v2 0 M3 _ _ ls hw (lv_sub hl [0, 1, 2] rfl) hf
theorem z6_rings_9 {G : XG} {p : Program} {l : Launch} {e : Env} {s : State} {m : MethodId} {args : Array Value} {below : List Frame} {meth : Method} {c : Code} (F : Fx G ZY p m c cX6_rings 4 s args RX6) (hr : meth.sig.returnType = some .int) (hk : meth.locks = false) {r : Int32} {M' : SX} : ∀ n : Nat, ∀ (v1 : Int32) (v2 : Int32) (M : SX) (H : Heap) (locs : List Loc) (ls : Array Slot), Wld G ZY M s.heap H locs → lv_has ls 4 [(0, .ref (G.2.1 0)), (1, .int v1), (2, .int v2)] → xlp2 p6_rings_9 n v1 v2 M = some (r, M') → WXi G ZY p l e 2 s m args below meth c r M' H locs (F0 m 9 ls []) := by
  intro n
  induction n with
  | zero => intro _ _ _ _ _ _ _ _ hf; cases hf
  | succ n ih => exact w6_rings_9 F hr hk (xlp2 p6_rings_9 n) ih
def p6_rings (M : SX) : Option (Int32 × SX) :=
  lt_ (wI M 0 7 0) (fun M1 => xlp2 p6_rings_9 FU 0 0 M1)
set_option maxHeartbeats 4000000 in
set_option maxRecDepth 100000 in
theorem c6_rings {l : Launch} {G : XG} {r : Int32} {M' : SX} {M : SX} (hf : p6_rings M = some (r, M')) : Met l yX6_rings (.code yX6_rings cX6_rings 4 (some .int) :: TBL) (rmX 2) (xPc G ZY M [.ref (G.2.1 0)]) (xQi G ZY r M') 0 0 (inA G ZY) := by
  refine x_met (cc := cX6_rings) (by decide) (Nat.le_of_ble_eq_true rfl) ?_
  intro p e s m below meth c ls F hr hk hl hw
  have F : Fx G ZY p m c cX6_rings 4 s [.ref (G.2.1 0)].toArray RX6 := F
  have hl : lv_has ls 4 [(0, .ref (G.2.1 0))] := hl
  have hx := F.1.1
  have hb := F.1.2.1
  unfold p6_rings at hf
  refine lv_iconst (v := 0) hx hb dX6_rings_0 (by decide) ?_
  refine lv_istore_n (lv' := [(1, .int 0), (0, .ref (G.2.1 0))]) hx hb dX6_rings_1 rfl hl (by decide) rfl (fun ls hl => ?_)
  refine lv_aload_n hx hb dX6_rings_2 rfl (lv_at hl 1 rfl) ?_
  refine lv_iconst (v := 0) hx hb dX6_rings_3 (by decide) ?_
  refine s6_7 F hw tw_604 dX6_rings_4 (fun H locs hw => ?_)
  obtain ⟨M1, eM1, hf⟩ := lt_elim hf
  rw [← eM1] at hw
  refine lv_iconst (v := 0) hx hb dX6_rings_7 (by decide) ?_
  refine lv_istore_n (lv' := [(2, .int 0), (1, .int 0), (0, .ref (G.2.1 0))]) hx hb dX6_rings_8 rfl hl (by decide) rfl (fun ls hl => ?_)
  exact z6_rings_9 F hr hk FU 0 0 M1 _ _ ls hw (lv_sub hl [2, 1, 0] rfl) hf
theorem dX6_goods_0 : decode cX6_goods 0 = .ok (.aload_n 0, 1) := by decide +kernel
theorem dX6_goods_1 : decode cX6_goods 1 = .ok (.iload_n 1, 1) := by decide +kernel
theorem dX6_goods_2 : decode cX6_goods 2 = .ok (.invokevirtual 152, 3) := by decide +kernel
theorem dX6_goods_5 : decode cX6_goods 5 = .ok (.ifCond .ne 5, 3) := by decide +kernel
theorem dX6_goods_8 : decode cX6_goods 8 = .ok (.iconst (-1), 1) := by decide +kernel
theorem dX6_goods_9 : decode cX6_goods 9 = .ok (.ireturn, 1) := by decide +kernel
theorem dX6_goods_10 : decode cX6_goods 10 = .ok (.aload_n 0, 1) := by decide +kernel
theorem dX6_goods_11 : decode cX6_goods 11 = .ok (.iload_n 1, 1) := by decide +kernel
theorem dX6_goods_12 : decode cX6_goods 12 = .ok (.invokevirtual 213, 3) := by decide +kernel
theorem dX6_goods_15 : decode cX6_goods 15 = .ok (.istore_n 2, 1) := by decide +kernel
theorem dX6_goods_16 : decode cX6_goods 16 = .ok (.iconst 0, 1) := by decide +kernel
theorem dX6_goods_17 : decode cX6_goods 17 = .ok (.istore_n 3, 1) := by decide +kernel
theorem dX6_goods_18 : decode cX6_goods 18 = .ok (.iconst 0, 1) := by decide +kernel
theorem dX6_goods_19 : decode cX6_goods 19 = .ok (.istore 4, 2) := by decide +kernel
theorem dX6_goods_21 : decode cX6_goods 21 = .ok (.iload 4, 2) := by decide +kernel
theorem dX6_goods_23 : decode cX6_goods 23 = .ok (.aload_n 0, 1) := by decide +kernel
theorem dX6_goods_24 : decode cX6_goods 24 = .ok (.getfield 140, 3) := by decide +kernel
theorem dX6_goods_27 : decode cX6_goods 27 = .ok (.if_icmp .ge 35, 3) := by decide +kernel
theorem dX6_goods_30 : decode cX6_goods 30 = .ok (.iload_n 3, 1) := by decide +kernel
theorem dX6_goods_31 : decode cX6_goods 31 = .ok (.iload_n 2, 1) := by decide +kernel
theorem dX6_goods_32 : decode cX6_goods 32 = .ok (.iload 4, 2) := by decide +kernel
theorem dX6_goods_34 : decode cX6_goods 34 = .ok (.invokestatic 181, 3) := by decide +kernel
theorem dX6_goods_37 : decode cX6_goods 37 = .ok (.ifCond .eq 16, 3) := by decide +kernel
theorem dX6_goods_40 : decode cX6_goods 40 = .ok (.aload_n 0, 1) := by decide +kernel
theorem dX6_goods_41 : decode cX6_goods 41 = .ok (.getfield 7, 3) := by decide +kernel
theorem dX6_goods_44 : decode cX6_goods 44 = .ok (.bipush 25, 2) := by decide +kernel
theorem dX6_goods_46 : decode cX6_goods 46 = .ok (.iload 4, 2) := by decide +kernel
theorem dX6_goods_48 : decode cX6_goods 48 = .ok (.iadd, 1) := by decide +kernel
theorem dX6_goods_49 : decode cX6_goods 49 = .ok (.iaload, 1) := by decide +kernel
theorem dX6_goods_50 : decode cX6_goods 50 = .ok (.goto 4, 3) := by decide +kernel
theorem dX6_goods_53 : decode cX6_goods 53 = .ok (.iconst 0, 1) := by decide +kernel
theorem dX6_goods_54 : decode cX6_goods 54 = .ok (.iadd, 1) := by decide +kernel
theorem dX6_goods_55 : decode cX6_goods 55 = .ok (.istore_n 3, 1) := by decide +kernel
theorem dX6_goods_56 : decode cX6_goods 56 = .ok (.iinc 4 1, 3) := by decide +kernel
theorem dX6_goods_59 : decode cX6_goods 59 = .ok (.goto (-38), 3) := by decide +kernel
theorem dX6_goods_62 : decode cX6_goods 62 = .ok (.iload_n 3, 1) := by decide +kernel
theorem dX6_goods_63 : decode cX6_goods 63 = .ok (.ireturn, 1) := by decide +kernel
def p6_goods_54 (k21 : Int32 → Int32 → Int32 → SX → Option (Int32 × SX)) (v2 : Int32) (v4 : Int32) (t0 : Int32) (t1 : Int32) (M : SX) : Option (Int32 × SX) :=
  lt_ (t0 + t1) (fun x1 => lt_ (v4 + 1) (fun x2 => k21 v2 x1 x2 M))
set_option maxHeartbeats 4000000 in
set_option maxRecDepth 100000 in
theorem w6_goods_54 {G : XG} {p : Program} {l : Launch} {e : Env} {s : State} {m : MethodId} {args : Array Value} {below : List Frame} {meth : Method} {c : Code} (F : Fx G ZY p m c cX6_goods 5 s args RX6) (hr : meth.sig.returnType = some .int) (hk : meth.locks = false) {r : Int32} {M' : SX} (k21 : Int32 → Int32 → Int32 → SX → Option (Int32 × SX)) (hk21 : ∀ (v2 : Int32) (v3 : Int32) (v4 : Int32) (M : SX) (H : Heap) (locs : List Loc) (ls : Array Slot), Wld G ZY M s.heap H locs → lv_has ls 5 [(0, .ref (G.2.1 0)), (2, .int v2), (3, .int v3), (4, .int v4)] → k21 v2 v3 v4 M = some (r, M') → WXi G ZY p l e 2 s m args below meth c r M' H locs (F0 m 21 ls [])) : ∀ (v2 : Int32) (v4 : Int32) (t0 : Int32) (t1 : Int32) (M : SX) (H : Heap) (locs : List Loc) (ls : Array Slot), Wld G ZY M s.heap H locs → lv_has ls 5 [(0, .ref (G.2.1 0)), (2, .int v2), (4, .int v4)] → p6_goods_54 k21 v2 v4 t0 t1 M = some (r, M') → WXi G ZY p l e 2 s m args below meth c r M' H locs (F0 m 54 ls [.int t1, .int t0]) := by
  intro v2 v4 t0 t1 M H locs ls hw hl hf
  have hx := F.1.1
  have hb := F.1.2.1
  unfold p6_goods_54 at hf
  refine lv_iadd hx hb dX6_goods_54 ?_
  obtain ⟨x1, ex1, hf⟩ := lt_elim hf
  refine x_let ex1 ?_
  refine lv_istore_n (lv' := [(3, .int x1), (0, .ref (G.2.1 0)), (2, .int v2), (4, .int v4)]) hx hb dX6_goods_55 rfl hl (by decide) rfl (fun ls hl => ?_)
  obtain ⟨x2, ex2, hf⟩ := lt_elim hf
  refine lv_iinc (v := x2) (lv' := [(4, .int x2), (3, .int x1), (0, .ref (G.2.1 0)), (2, .int v2)]) hx hb dX6_goods_56 hl (k := 3) rfl (by rw [ex2]; rfl) (by decide) rfl (fun ls hl => ?_)
  refine lv_goto (tgt := 21) hx hb dX6_goods_59 (by decide) ?_
  exact hk21 v2 x1 x2 M _ _ ls hw (lv_sub hl [2, 3, 1, 0] rfl) hf
def p6_goods_21 (k21 : Int32 → Int32 → Int32 → SX → Option (Int32 × SX)) (v2 : Int32) (v3 : Int32) (v4 : Int32) (M : SX) : Option (Int32 × SX) :=
  if (M.1 0 1) ≤ v4 then (some (v3, M))
  else (bd (p6_has v2 v4 M) (fun r4 M3 => if r4 = 0 then (p6_goods_54 k21 v2 v4 v3 0 M3)
  else (gd (bIn (25 + v4) 3964) ( p6_goods_54 k21 v2 v4 v3 (M3.1 1 (Int32.toNatClampNeg (25 + v4))) M3))))
set_option maxHeartbeats 4000000 in
set_option maxRecDepth 100000 in
theorem w6_goods_21 {G : XG} {p : Program} {l : Launch} {e : Env} {s : State} {m : MethodId} {args : Array Value} {below : List Frame} {meth : Method} {c : Code} (F : Fx G ZY p m c cX6_goods 5 s args RX6) (hr : meth.sig.returnType = some .int) (hk : meth.locks = false) {r : Int32} {M' : SX} (k21 : Int32 → Int32 → Int32 → SX → Option (Int32 × SX)) (hk21 : ∀ (v2 : Int32) (v3 : Int32) (v4 : Int32) (M : SX) (H : Heap) (locs : List Loc) (ls : Array Slot), Wld G ZY M s.heap H locs → lv_has ls 5 [(0, .ref (G.2.1 0)), (2, .int v2), (3, .int v3), (4, .int v4)] → k21 v2 v3 v4 M = some (r, M') → WXi G ZY p l e 2 s m args below meth c r M' H locs (F0 m 21 ls [])) : ∀ (v2 : Int32) (v3 : Int32) (v4 : Int32) (M : SX) (H : Heap) (locs : List Loc) (ls : Array Slot), Wld G ZY M s.heap H locs → lv_has ls 5 [(0, .ref (G.2.1 0)), (2, .int v2), (3, .int v3), (4, .int v4)] → p6_goods_21 k21 v2 v3 v4 M = some (r, M') → WXi G ZY p l e 2 s m args below meth c r M' H locs (F0 m 21 ls []) := by
  intro v2 v3 v4 M H locs ls hw hl hf
  have hx := F.1.1
  have hb := F.1.2.1
  unfold p6_goods_21 at hf
  refine lv_iload hx hb dX6_goods_21 (lv_at hl 3 rfl) ?_
  refine lv_aload_n hx hb dX6_goods_23 rfl (lv_at hl 0 rfl) ?_
  refine g6_1 F hw tw_611 dX6_goods_24 ?_
  refine lv_icmp_ge (tgt := 62) hx hb dX6_goods_27 (by decide) (fun c1 => ?_) (fun c1 => ?_)
  · have hf := it_t hf c1
    refine lv_iload_n hx hb dX6_goods_62 rfl (lv_at hl 2 rfl) ?_
    exact x_iret F hw hr hk hf dX6_goods_63
  · have hf := it_f hf c1
    refine lv_iload_n hx hb dX6_goods_30 rfl (lv_at hl 2 rfl) ?_
    refine lv_iload_n hx hb dX6_goods_31 rfl (lv_at hl 1 rfl) ?_
    refine lv_iload hx hb dX6_goods_32 (lv_at hl 3 rfl) ?_
    obtain ⟨r4, M3, hc2, hf⟩ := bd_some hf
    refine x_aftI hw (x_runS (rest := [.int v3]) F hw hl.1 sw_RX6_181 (c6_has v2 v4 hc2) rfl rfl (Nat.le_of_ble_eq_true rfl) ⟨Nat.le_of_ble_eq_true rfl, Nat.le_of_ble_eq_true rfl⟩ dX6_goods_34) (fun H locs hw => ?_)
    refine lv_if_eq (tgt := 53) hx hb dX6_goods_37 (by decide) (fun c5 => ?_) (fun c5 => ?_)
    · have hf := it_t hf c5
      refine lv_iconst (v := 0) hx hb dX6_goods_53 (by decide) ?_
      exact w6_goods_54 F hr hk k21 hk21 v2 v4 v3 0 M3 _ _ ls hw (lv_sub hl [0, 1, 3] rfl) hf
    · have hf := it_f hf c5
      refine lv_aload_n hx hb dX6_goods_40 rfl (lv_at hl 0 rfl) ?_
      refine g6_0 F hw tw_610 dX6_goods_41 ?_
      refine lv_bipush (v := 25) hx hb dX6_goods_44 (by decide) ?_
      refine lv_iload hx hb dX6_goods_46 (lv_at hl 3 rfl) ?_
      refine lv_iadd hx hb dX6_goods_48 ?_
      obtain ⟨g6, hf⟩ := gd_some hf
      refine x_iald F hw sM1 g6 dX6_goods_49 ?_
      refine lv_goto (tgt := 54) hx hb dX6_goods_50 (by decide) ?_
      exact w6_goods_54 F hr hk k21 hk21 v2 v4 v3 (M3.1 1 (Int32.toNatClampNeg (25 + v4))) M3 _ _ ls hw (lv_sub hl [0, 1, 3] rfl) hf
theorem z6_goods_21 {G : XG} {p : Program} {l : Launch} {e : Env} {s : State} {m : MethodId} {args : Array Value} {below : List Frame} {meth : Method} {c : Code} (F : Fx G ZY p m c cX6_goods 5 s args RX6) (hr : meth.sig.returnType = some .int) (hk : meth.locks = false) {r : Int32} {M' : SX} : ∀ n : Nat, ∀ (v2 : Int32) (v3 : Int32) (v4 : Int32) (M : SX) (H : Heap) (locs : List Loc) (ls : Array Slot), Wld G ZY M s.heap H locs → lv_has ls 5 [(0, .ref (G.2.1 0)), (2, .int v2), (3, .int v3), (4, .int v4)] → xlp3 p6_goods_21 n v2 v3 v4 M = some (r, M') → WXi G ZY p l e 2 s m args below meth c r M' H locs (F0 m 21 ls []) := by
  intro n
  induction n with
  | zero => intro _ _ _ _ _ _ _ _ _ hf; cases hf
  | succ n ih => exact w6_goods_21 F hr hk (xlp3 p6_goods_21 n) ih
def p6_goods (a1 : Int32) (M : SX) : Option (Int32 × SX) :=
  bd (p6_isShop a1 M) (fun r3 M2 => if r3 = 0 then (some ((-1), M2))
  else (bd (p6_insideOf a1 M2) (fun r7 M6 => xlp3 p6_goods_21 FU r7 0 0 M6)))
set_option maxHeartbeats 4000000 in
set_option maxRecDepth 100000 in
theorem c6_goods {l : Launch} {G : XG} {r : Int32} {M' : SX} {M : SX} (a1 : Int32) (hf : p6_goods a1 M = some (r, M')) : Met l yX6_goods (.code yX6_goods cX6_goods 5 (some .int) :: TBL) (rmX 2) (xPc G ZY M [.ref (G.2.1 0), .int a1]) (xQi G ZY r M') 0 0 (inA G ZY) := by
  refine x_met (cc := cX6_goods) (by decide) (Nat.le_of_ble_eq_true rfl) ?_
  intro p e s m below meth c ls F hr hk hl hw
  have F : Fx G ZY p m c cX6_goods 5 s [.ref (G.2.1 0), .int a1].toArray RX6 := F
  have hl : lv_has ls 5 [(0, .ref (G.2.1 0)), (1, .int a1)] := hl
  have hx := F.1.1
  have hb := F.1.2.1
  unfold p6_goods at hf
  refine lv_aload_n hx hb dX6_goods_0 rfl (lv_at hl 0 rfl) ?_
  refine lv_iload_n hx hb dX6_goods_1 rfl (lv_at hl 1 rfl) ?_
  obtain ⟨r3, M2, hc1, hf⟩ := bd_some hf
  refine x_aftI hw (x_runV (rest := []) F hw hl.1 vw_RX6_152 (sM) rfl (c6_isShop a1 hc1) rfl rfl (Nat.le_of_ble_eq_true rfl) ⟨Nat.le_of_ble_eq_true rfl, Nat.le_of_ble_eq_true rfl⟩ dX6_goods_2) (fun H locs hw => ?_)
  refine lv_if_ne (tgt := 10) hx hb dX6_goods_5 (by decide) (fun c4 => ?_) (fun c4 => ?_)
  · have hf := it_f hf c4
    refine lv_aload_n hx hb dX6_goods_10 rfl (lv_at hl 0 rfl) ?_
    refine lv_iload_n hx hb dX6_goods_11 rfl (lv_at hl 1 rfl) ?_
    obtain ⟨r7, M6, hc5, hf⟩ := bd_some hf
    refine x_aftI hw (x_runV (rest := []) F hw hl.1 vw_RX6_213 (sM) rfl (c6_insideOf a1 hc5) rfl rfl (Nat.le_of_ble_eq_true rfl) ⟨Nat.le_of_ble_eq_true rfl, Nat.le_of_ble_eq_true rfl⟩ dX6_goods_12) (fun H locs hw => ?_)
    refine lv_istore_n (lv' := [(2, .int r7), (0, .ref (G.2.1 0)), (1, .int a1)]) hx hb dX6_goods_15 rfl hl (by decide) rfl (fun ls hl => ?_)
    refine lv_iconst (v := 0) hx hb dX6_goods_16 (by decide) ?_
    refine lv_istore_n (lv' := [(3, .int 0), (2, .int r7), (0, .ref (G.2.1 0)), (1, .int a1)]) hx hb dX6_goods_17 rfl hl (by decide) rfl (fun ls hl => ?_)
    refine lv_iconst (v := 0) hx hb dX6_goods_18 (by decide) ?_
    refine lv_istore (lv' := [(4, .int 0), (3, .int 0), (2, .int r7), (0, .ref (G.2.1 0)), (1, .int a1)]) hx hb dX6_goods_19 hl (by decide) rfl (fun ls hl => ?_)
    exact z6_goods_21 F hr hk FU r7 0 0 M6 _ _ ls hw (lv_sub hl [3, 2, 1, 0] rfl) hf
  · have hf := it_t hf c4
    refine lv_iconst (v := (-1)) hx hb dX6_goods_8 (by decide) ?_
    exact x_iret F hw hr hk hf dX6_goods_9
theorem dX6_hangs_0 : decode cX6_hangs 0 = .ok (.aload_n 0, 1) := by decide +kernel
theorem dX6_hangs_1 : decode cX6_hangs 1 = .ok (.getfield 140, 3) := by decide +kernel
theorem dX6_hangs_4 : decode cX6_hangs 4 = .ok (.ifCond .ne 6, 3) := by decide +kernel
theorem dX6_hangs_7 : decode cX6_hangs 7 = .ok (.bipush (-4), 2) := by decide +kernel
theorem dX6_hangs_9 : decode cX6_hangs 9 = .ok (.ireturn, 1) := by decide +kernel
theorem dX6_hangs_10 : decode cX6_hangs 10 = .ok (.bipush (-9), 2) := by decide +kernel
theorem dX6_hangs_12 : decode cX6_hangs 12 = .ok (.istore_n 1, 1) := by decide +kernel
theorem dX6_hangs_13 : decode cX6_hangs 13 = .ok (.aload_n 0, 1) := by decide +kernel
theorem dX6_hangs_14 : decode cX6_hangs 14 = .ok (.iconst 0, 1) := by decide +kernel
theorem dX6_hangs_15 : decode cX6_hangs 15 = .ok (.putfield 64, 3) := by decide +kernel
theorem dX6_hangs_18 : decode cX6_hangs 18 = .ok (.iconst 0, 1) := by decide +kernel
theorem dX6_hangs_19 : decode cX6_hangs 19 = .ok (.istore_n 2, 1) := by decide +kernel
theorem dX6_hangs_20 : decode cX6_hangs 20 = .ok (.iload_n 2, 1) := by decide +kernel
theorem dX6_hangs_21 : decode cX6_hangs 21 = .ok (.aload_n 0, 1) := by decide +kernel
theorem dX6_hangs_22 : decode cX6_hangs 22 = .ok (.getfield 140, 3) := by decide +kernel
theorem dX6_hangs_25 : decode cX6_hangs 25 = .ok (.if_icmp .ge 52, 3) := by decide +kernel
theorem dX6_hangs_28 : decode cX6_hangs 28 = .ok (.aload_n 0, 1) := by decide +kernel
theorem dX6_hangs_29 : decode cX6_hangs 29 = .ok (.iload_n 2, 1) := by decide +kernel
theorem dX6_hangs_30 : decode cX6_hangs 30 = .ok (.invokevirtual 213, 3) := by decide +kernel
theorem dX6_hangs_33 : decode cX6_hangs 33 = .ok (.invokestatic 170, 3) := by decide +kernel
theorem dX6_hangs_36 : decode cX6_hangs 36 = .ok (.istore_n 3, 1) := by decide +kernel
theorem dX6_hangs_37 : decode cX6_hangs 37 = .ok (.iload_n 3, 1) := by decide +kernel
theorem dX6_hangs_38 : decode cX6_hangs 38 = .ok (.aload_n 0, 1) := by decide +kernel
theorem dX6_hangs_39 : decode cX6_hangs 39 = .ok (.getfield 64, 3) := by decide +kernel
theorem dX6_hangs_42 : decode cX6_hangs 42 = .ok (.if_icmp .le 7, 3) := by decide +kernel
theorem dX6_hangs_45 : decode cX6_hangs 45 = .ok (.iload_n 2, 1) := by decide +kernel
theorem dX6_hangs_46 : decode cX6_hangs 46 = .ok (.goto 4, 3) := by decide +kernel
theorem dX6_hangs_49 : decode cX6_hangs 49 = .ok (.iload_n 1, 1) := by decide +kernel
theorem dX6_hangs_50 : decode cX6_hangs 50 = .ok (.istore_n 1, 1) := by decide +kernel
theorem dX6_hangs_51 : decode cX6_hangs 51 = .ok (.aload_n 0, 1) := by decide +kernel
theorem dX6_hangs_52 : decode cX6_hangs 52 = .ok (.iload_n 3, 1) := by decide +kernel
theorem dX6_hangs_53 : decode cX6_hangs 53 = .ok (.aload_n 0, 1) := by decide +kernel
theorem dX6_hangs_54 : decode cX6_hangs 54 = .ok (.getfield 64, 3) := by decide +kernel
theorem dX6_hangs_57 : decode cX6_hangs 57 = .ok (.if_icmp .le 7, 3) := by decide +kernel
theorem dX6_hangs_60 : decode cX6_hangs 60 = .ok (.iload_n 3, 1) := by decide +kernel
theorem dX6_hangs_61 : decode cX6_hangs 61 = .ok (.goto 7, 3) := by decide +kernel
theorem dX6_hangs_64 : decode cX6_hangs 64 = .ok (.aload_n 0, 1) := by decide +kernel
theorem dX6_hangs_65 : decode cX6_hangs 65 = .ok (.getfield 64, 3) := by decide +kernel
theorem dX6_hangs_68 : decode cX6_hangs 68 = .ok (.putfield 64, 3) := by decide +kernel
theorem dX6_hangs_71 : decode cX6_hangs 71 = .ok (.iinc 2 1, 3) := by decide +kernel
theorem dX6_hangs_74 : decode cX6_hangs 74 = .ok (.goto (-54), 3) := by decide +kernel
theorem dX6_hangs_77 : decode cX6_hangs 77 = .ok (.iload_n 1, 1) := by decide +kernel
theorem dX6_hangs_78 : decode cX6_hangs 78 = .ok (.ireturn, 1) := by decide +kernel
def p6_hangs_68 (k20 : Int32 → Int32 → SX → Option (Int32 × SX)) (v1 : Int32) (v2 : Int32) (t1 : Int32) (M : SX) : Option (Int32 × SX) :=
  lt_ (wI M 0 7 t1) (fun M1 => lt_ (v2 + 1) (fun x2 => k20 v1 x2 M1))
set_option maxHeartbeats 4000000 in
set_option maxRecDepth 100000 in
theorem w6_hangs_68 {G : XG} {p : Program} {l : Launch} {e : Env} {s : State} {m : MethodId} {args : Array Value} {below : List Frame} {meth : Method} {c : Code} (F : Fx G ZY p m c cX6_hangs 4 s args RX6) (hr : meth.sig.returnType = some .int) (hk : meth.locks = false) {r : Int32} {M' : SX} (k20 : Int32 → Int32 → SX → Option (Int32 × SX)) (hk20 : ∀ (v1 : Int32) (v2 : Int32) (M : SX) (H : Heap) (locs : List Loc) (ls : Array Slot), Wld G ZY M s.heap H locs → lv_has ls 4 [(0, .ref (G.2.1 0)), (1, .int v1), (2, .int v2)] → k20 v1 v2 M = some (r, M') → WXi G ZY p l e 2 s m args below meth c r M' H locs (F0 m 20 ls [])) : ∀ (v1 : Int32) (v2 : Int32) (t1 : Int32) (M : SX) (H : Heap) (locs : List Loc) (ls : Array Slot), Wld G ZY M s.heap H locs → lv_has ls 4 [(0, .ref (G.2.1 0)), (1, .int v1), (2, .int v2)] → p6_hangs_68 k20 v1 v2 t1 M = some (r, M') → WXi G ZY p l e 2 s m args below meth c r M' H locs (F0 m 68 ls [.int t1, .ref (G.2.1 0)]) := by
  intro v1 v2 t1 M H locs ls hw hl hf
  have hx := F.1.1
  have hb := F.1.2.1
  unfold p6_hangs_68 at hf
  refine s6_7 F hw tw_604 dX6_hangs_68 (fun H locs hw => ?_)
  obtain ⟨M1, eM1, hf⟩ := lt_elim hf
  rw [← eM1] at hw
  obtain ⟨x2, ex2, hf⟩ := lt_elim hf
  refine lv_iinc (v := x2) (lv' := [(2, .int x2), (0, .ref (G.2.1 0)), (1, .int v1)]) hx hb dX6_hangs_71 hl (k := 2) rfl (by rw [ex2]; rfl) (by decide) rfl (fun ls hl => ?_)
  refine lv_goto (tgt := 20) hx hb dX6_hangs_74 (by decide) ?_
  exact hk20 v1 x2 M1 _ _ ls hw (lv_sub hl [1, 2, 0] rfl) hf
def p6_hangs_50 (k20 : Int32 → Int32 → SX → Option (Int32 × SX)) (v2 : Int32) (v3 : Int32) (t0 : Int32) (M : SX) : Option (Int32 × SX) :=
  if v3 ≤ (M.1 0 7) then (p6_hangs_68 k20 t0 v2 (M.1 0 7) M)
  else (p6_hangs_68 k20 t0 v2 v3 M)
set_option maxHeartbeats 4000000 in
set_option maxRecDepth 100000 in
theorem w6_hangs_50 {G : XG} {p : Program} {l : Launch} {e : Env} {s : State} {m : MethodId} {args : Array Value} {below : List Frame} {meth : Method} {c : Code} (F : Fx G ZY p m c cX6_hangs 4 s args RX6) (hr : meth.sig.returnType = some .int) (hk : meth.locks = false) {r : Int32} {M' : SX} (k20 : Int32 → Int32 → SX → Option (Int32 × SX)) (hk20 : ∀ (v1 : Int32) (v2 : Int32) (M : SX) (H : Heap) (locs : List Loc) (ls : Array Slot), Wld G ZY M s.heap H locs → lv_has ls 4 [(0, .ref (G.2.1 0)), (1, .int v1), (2, .int v2)] → k20 v1 v2 M = some (r, M') → WXi G ZY p l e 2 s m args below meth c r M' H locs (F0 m 20 ls [])) : ∀ (v2 : Int32) (v3 : Int32) (t0 : Int32) (M : SX) (H : Heap) (locs : List Loc) (ls : Array Slot), Wld G ZY M s.heap H locs → lv_has ls 4 [(0, .ref (G.2.1 0)), (2, .int v2), (3, .int v3)] → p6_hangs_50 k20 v2 v3 t0 M = some (r, M') → WXi G ZY p l e 2 s m args below meth c r M' H locs (F0 m 50 ls [.int t0]) := by
  intro v2 v3 t0 M H locs ls hw hl hf
  have hx := F.1.1
  have hb := F.1.2.1
  unfold p6_hangs_50 at hf
  refine lv_istore_n (lv' := [(1, .int t0), (0, .ref (G.2.1 0)), (2, .int v2), (3, .int v3)]) hx hb dX6_hangs_50 rfl hl (by decide) rfl (fun ls hl => ?_)
  refine lv_aload_n hx hb dX6_hangs_51 rfl (lv_at hl 1 rfl) ?_
  refine lv_iload_n hx hb dX6_hangs_52 rfl (lv_at hl 3 rfl) ?_
  refine lv_aload_n hx hb dX6_hangs_53 rfl (lv_at hl 1 rfl) ?_
  refine g6_7 F hw tw_604 dX6_hangs_54 ?_
  refine lv_icmp_le (tgt := 64) hx hb dX6_hangs_57 (by decide) (fun c1 => ?_) (fun c1 => ?_)
  · have hf := it_t hf c1
    refine lv_aload_n hx hb dX6_hangs_64 rfl (lv_at hl 1 rfl) ?_
    refine g6_7 F hw tw_604 dX6_hangs_65 ?_
    exact w6_hangs_68 F hr hk k20 hk20 t0 v2 (M.1 0 7) M _ _ ls hw (lv_sub hl [1, 0, 2] rfl) hf
  · have hf := it_f hf c1
    refine lv_iload_n hx hb dX6_hangs_60 rfl (lv_at hl 3 rfl) ?_
    refine lv_goto (tgt := 68) hx hb dX6_hangs_61 (by decide) ?_
    exact w6_hangs_68 F hr hk k20 hk20 t0 v2 v3 M _ _ ls hw (lv_sub hl [1, 0, 2] rfl) hf
def p6_hangs_20 (k20 : Int32 → Int32 → SX → Option (Int32 × SX)) (v1 : Int32) (v2 : Int32) (M : SX) : Option (Int32 × SX) :=
  if (M.1 0 1) ≤ v2 then (some (v1, M))
  else (bd (p6_insideOf v2 M) (fun r4 M3 => bd (p6_bits r4 M3) (fun r7 M6 => if r7 ≤ (M6.1 0 7) then (p6_hangs_50 k20 v2 r7 v1 M6)
  else (p6_hangs_50 k20 v2 r7 v2 M6))))
set_option maxHeartbeats 4000000 in
set_option maxRecDepth 100000 in
theorem w6_hangs_20 {G : XG} {p : Program} {l : Launch} {e : Env} {s : State} {m : MethodId} {args : Array Value} {below : List Frame} {meth : Method} {c : Code} (F : Fx G ZY p m c cX6_hangs 4 s args RX6) (hr : meth.sig.returnType = some .int) (hk : meth.locks = false) {r : Int32} {M' : SX} (k20 : Int32 → Int32 → SX → Option (Int32 × SX)) (hk20 : ∀ (v1 : Int32) (v2 : Int32) (M : SX) (H : Heap) (locs : List Loc) (ls : Array Slot), Wld G ZY M s.heap H locs → lv_has ls 4 [(0, .ref (G.2.1 0)), (1, .int v1), (2, .int v2)] → k20 v1 v2 M = some (r, M') → WXi G ZY p l e 2 s m args below meth c r M' H locs (F0 m 20 ls [])) : ∀ (v1 : Int32) (v2 : Int32) (M : SX) (H : Heap) (locs : List Loc) (ls : Array Slot), Wld G ZY M s.heap H locs → lv_has ls 4 [(0, .ref (G.2.1 0)), (1, .int v1), (2, .int v2)] → p6_hangs_20 k20 v1 v2 M = some (r, M') → WXi G ZY p l e 2 s m args below meth c r M' H locs (F0 m 20 ls []) := by
  intro v1 v2 M H locs ls hw hl hf
  have hx := F.1.1
  have hb := F.1.2.1
  unfold p6_hangs_20 at hf
  refine lv_iload_n hx hb dX6_hangs_20 rfl (lv_at hl 2 rfl) ?_
  refine lv_aload_n hx hb dX6_hangs_21 rfl (lv_at hl 0 rfl) ?_
  refine g6_1 F hw tw_611 dX6_hangs_22 ?_
  refine lv_icmp_ge (tgt := 77) hx hb dX6_hangs_25 (by decide) (fun c1 => ?_) (fun c1 => ?_)
  · have hf := it_t hf c1
    refine lv_iload_n hx hb dX6_hangs_77 rfl (lv_at hl 1 rfl) ?_
    exact x_iret F hw hr hk hf dX6_hangs_78
  · have hf := it_f hf c1
    refine lv_aload_n hx hb dX6_hangs_28 rfl (lv_at hl 0 rfl) ?_
    refine lv_iload_n hx hb dX6_hangs_29 rfl (lv_at hl 2 rfl) ?_
    obtain ⟨r4, M3, hc2, hf⟩ := bd_some hf
    refine x_aftI hw (x_runV (rest := []) F hw hl.1 vw_RX6_213 (sM) rfl (c6_insideOf v2 hc2) rfl rfl (Nat.le_of_ble_eq_true rfl) ⟨Nat.le_of_ble_eq_true rfl, Nat.le_of_ble_eq_true rfl⟩ dX6_hangs_30) (fun H locs hw => ?_)
    obtain ⟨r7, M6, hc5, hf⟩ := bd_some hf
    refine x_aftI hw (x_runS (rest := []) F hw hl.1 sw_RX6_170 (c6_bits r4 hc5) rfl rfl (Nat.le_of_ble_eq_true rfl) ⟨Nat.le_of_ble_eq_true rfl, Nat.le_of_ble_eq_true rfl⟩ dX6_hangs_33) (fun H locs hw => ?_)
    refine lv_istore_n (lv' := [(3, .int r7), (0, .ref (G.2.1 0)), (1, .int v1), (2, .int v2)]) hx hb dX6_hangs_36 rfl hl (by decide) rfl (fun ls hl => ?_)
    refine lv_iload_n hx hb dX6_hangs_37 rfl (lv_at hl 0 rfl) ?_
    refine lv_aload_n hx hb dX6_hangs_38 rfl (lv_at hl 1 rfl) ?_
    refine g6_7 F hw tw_604 dX6_hangs_39 ?_
    refine lv_icmp_le (tgt := 49) hx hb dX6_hangs_42 (by decide) (fun c8 => ?_) (fun c8 => ?_)
    · have hf := it_t hf c8
      refine lv_iload_n hx hb dX6_hangs_49 rfl (lv_at hl 2 rfl) ?_
      exact w6_hangs_50 F hr hk k20 hk20 v2 r7 v1 M6 _ _ ls hw (lv_sub hl [1, 3, 0] rfl) hf
    · have hf := it_f hf c8
      refine lv_iload_n hx hb dX6_hangs_45 rfl (lv_at hl 3 rfl) ?_
      refine lv_goto (tgt := 50) hx hb dX6_hangs_46 (by decide) ?_
      exact w6_hangs_50 F hr hk k20 hk20 v2 r7 v2 M6 _ _ ls hw (lv_sub hl [1, 3, 0] rfl) hf
theorem z6_hangs_20 {G : XG} {p : Program} {l : Launch} {e : Env} {s : State} {m : MethodId} {args : Array Value} {below : List Frame} {meth : Method} {c : Code} (F : Fx G ZY p m c cX6_hangs 4 s args RX6) (hr : meth.sig.returnType = some .int) (hk : meth.locks = false) {r : Int32} {M' : SX} : ∀ n : Nat, ∀ (v1 : Int32) (v2 : Int32) (M : SX) (H : Heap) (locs : List Loc) (ls : Array Slot), Wld G ZY M s.heap H locs → lv_has ls 4 [(0, .ref (G.2.1 0)), (1, .int v1), (2, .int v2)] → xlp2 p6_hangs_20 n v1 v2 M = some (r, M') → WXi G ZY p l e 2 s m args below meth c r M' H locs (F0 m 20 ls []) := by
  intro n
  induction n with
  | zero => intro _ _ _ _ _ _ _ _ hf; cases hf
  | succ n ih => exact w6_hangs_20 F hr hk (xlp2 p6_hangs_20 n) ih
def p6_hangs (M : SX) : Option (Int32 × SX) :=
  if (M.1 0 1) = 0 then (some ((-4), M))
  else (lt_ (wI M 0 7 0) (fun M2 => xlp2 p6_hangs_20 FU (-9) 0 M2))
set_option maxHeartbeats 4000000 in
set_option maxRecDepth 100000 in
theorem c6_hangs {l : Launch} {G : XG} {r : Int32} {M' : SX} {M : SX} (hf : p6_hangs M = some (r, M')) : Met l yX6_hangs (.code yX6_hangs cX6_hangs 4 (some .int) :: TBL) (rmX 2) (xPc G ZY M [.ref (G.2.1 0)]) (xQi G ZY r M') 0 0 (inA G ZY) := by
  refine x_met (cc := cX6_hangs) (by decide) (Nat.le_of_ble_eq_true rfl) ?_
  intro p e s m below meth c ls F hr hk hl hw
  have F : Fx G ZY p m c cX6_hangs 4 s [.ref (G.2.1 0)].toArray RX6 := F
  have hl : lv_has ls 4 [(0, .ref (G.2.1 0))] := hl
  have hx := F.1.1
  have hb := F.1.2.1
  unfold p6_hangs at hf
  refine lv_aload_n hx hb dX6_hangs_0 rfl (lv_at hl 0 rfl) ?_
  refine g6_1 F hw tw_611 dX6_hangs_1 ?_
  refine lv_if_ne (tgt := 10) hx hb dX6_hangs_4 (by decide) (fun c1 => ?_) (fun c1 => ?_)
  · have hf := it_f hf c1
    refine lv_bipush (v := (-9)) hx hb dX6_hangs_10 (by decide) ?_
    refine lv_istore_n (lv' := [(1, .int (-9)), (0, .ref (G.2.1 0))]) hx hb dX6_hangs_12 rfl hl (by decide) rfl (fun ls hl => ?_)
    refine lv_aload_n hx hb dX6_hangs_13 rfl (lv_at hl 1 rfl) ?_
    refine lv_iconst (v := 0) hx hb dX6_hangs_14 (by decide) ?_
    refine s6_7 F hw tw_604 dX6_hangs_15 (fun H locs hw => ?_)
    obtain ⟨M2, eM2, hf⟩ := lt_elim hf
    rw [← eM2] at hw
    refine lv_iconst (v := 0) hx hb dX6_hangs_18 (by decide) ?_
    refine lv_istore_n (lv' := [(2, .int 0), (1, .int (-9)), (0, .ref (G.2.1 0))]) hx hb dX6_hangs_19 rfl hl (by decide) rfl (fun ls hl => ?_)
    exact z6_hangs_20 F hr hk FU (-9) 0 M2 _ _ ls hw (lv_sub hl [2, 1, 0] rfl) hf
  · have hf := it_t hf c1
    refine lv_bipush (v := (-4)) hx hb dX6_hangs_7 (by decide) ?_
    exact x_iret F hw hr hk hf dX6_hangs_9
theorem dX6_chalk_0 : decode cX6_chalk 0 = .ok (.aload_n 0, 1) := by decide +kernel
theorem dX6_chalk_1 : decode cX6_chalk 1 = .ok (.iload_n 1, 1) := by decide +kernel
theorem dX6_chalk_2 : decode cX6_chalk 2 = .ok (.invokevirtual 152, 3) := by decide +kernel
theorem dX6_chalk_5 : decode cX6_chalk 5 = .ok (.ifCond .eq 15, 3) := by decide +kernel
theorem dX6_chalk_8 : decode cX6_chalk 8 = .ok (.iload_n 2, 1) := by decide +kernel
theorem dX6_chalk_9 : decode cX6_chalk 9 = .ok (.i2l, 1) := by decide +kernel
theorem dX6_chalk_10 : decode cX6_chalk 10 = .ok (.lconst 0, 1) := by decide +kernel
theorem dX6_chalk_11 : decode cX6_chalk 11 = .ok (.ldc2_w 155, 3) := by decide +kernel
theorem dX6_chalk_14 : decode cX6_chalk 14 = .ok (.invokestatic 69, 3) := by decide +kernel
theorem dX6_chalk_17 : decode cX6_chalk 17 = .ok (.ifCond .ne 5, 3) := by decide +kernel
theorem dX6_chalk_20 : decode cX6_chalk 20 = .ok (.iconst (-1), 1) := by decide +kernel
theorem dX6_chalk_21 : decode cX6_chalk 21 = .ok (.ireturn, 1) := by decide +kernel
theorem dX6_chalk_22 : decode cX6_chalk 22 = .ok (.iconst 0, 1) := by decide +kernel
theorem dX6_chalk_23 : decode cX6_chalk 23 = .ok (.istore_n 3, 1) := by decide +kernel
theorem dX6_chalk_24 : decode cX6_chalk 24 = .ok (.iload_n 3, 1) := by decide +kernel
theorem dX6_chalk_25 : decode cX6_chalk 25 = .ok (.aload_n 0, 1) := by decide +kernel
theorem dX6_chalk_26 : decode cX6_chalk 26 = .ok (.getfield 140, 3) := by decide +kernel
theorem dX6_chalk_29 : decode cX6_chalk 29 = .ok (.if_icmp .ge 24, 3) := by decide +kernel
theorem dX6_chalk_32 : decode cX6_chalk 32 = .ok (.aload_n 0, 1) := by decide +kernel
theorem dX6_chalk_33 : decode cX6_chalk 33 = .ok (.getfield 38, 3) := by decide +kernel
theorem dX6_chalk_36 : decode cX6_chalk 36 = .ok (.iload_n 3, 1) := by decide +kernel
theorem dX6_chalk_37 : decode cX6_chalk 37 = .ok (.aload_n 0, 1) := by decide +kernel
theorem dX6_chalk_38 : decode cX6_chalk 38 = .ok (.getfield 7, 3) := by decide +kernel
theorem dX6_chalk_41 : decode cX6_chalk 41 = .ok (.bipush 25, 2) := by decide +kernel
theorem dX6_chalk_43 : decode cX6_chalk 43 = .ok (.iload_n 3, 1) := by decide +kernel
theorem dX6_chalk_44 : decode cX6_chalk 44 = .ok (.iadd, 1) := by decide +kernel
theorem dX6_chalk_45 : decode cX6_chalk 45 = .ok (.iaload, 1) := by decide +kernel
theorem dX6_chalk_46 : decode cX6_chalk 46 = .ok (.iastore, 1) := by decide +kernel
theorem dX6_chalk_47 : decode cX6_chalk 47 = .ok (.iinc 3 1, 3) := by decide +kernel
theorem dX6_chalk_50 : decode cX6_chalk 50 = .ok (.goto (-26), 3) := by decide +kernel
theorem dX6_chalk_53 : decode cX6_chalk 53 = .ok (.iconst 0, 1) := by decide +kernel
theorem dX6_chalk_54 : decode cX6_chalk 54 = .ok (.istore_n 3, 1) := by decide +kernel
theorem dX6_chalk_55 : decode cX6_chalk 55 = .ok (.iload_n 3, 1) := by decide +kernel
theorem dX6_chalk_56 : decode cX6_chalk 56 = .ok (.iload_n 2, 1) := by decide +kernel
theorem dX6_chalk_57 : decode cX6_chalk 57 = .ok (.if_icmp .ge 130, 3) := by decide +kernel
theorem dX6_chalk_60 : decode cX6_chalk 60 = .ok (.iconst 0, 1) := by decide +kernel
theorem dX6_chalk_61 : decode cX6_chalk 61 = .ok (.istore 4, 2) := by decide +kernel
theorem dX6_chalk_63 : decode cX6_chalk 63 = .ok (.iload 4, 2) := by decide +kernel
theorem dX6_chalk_65 : decode cX6_chalk 65 = .ok (.aload_n 0, 1) := by decide +kernel
theorem dX6_chalk_66 : decode cX6_chalk 66 = .ok (.getfield 140, 3) := by decide +kernel
theorem dX6_chalk_69 : decode cX6_chalk 69 = .ok (.if_icmp .ge 26, 3) := by decide +kernel
theorem dX6_chalk_72 : decode cX6_chalk 72 = .ok (.aload_n 0, 1) := by decide +kernel
theorem dX6_chalk_73 : decode cX6_chalk 73 = .ok (.getfield 41, 3) := by decide +kernel
theorem dX6_chalk_76 : decode cX6_chalk 76 = .ok (.iload 4, 2) := by decide +kernel
theorem dX6_chalk_78 : decode cX6_chalk 78 = .ok (.aload_n 0, 1) := by decide +kernel
theorem dX6_chalk_79 : decode cX6_chalk 79 = .ok (.getfield 7, 3) := by decide +kernel
theorem dX6_chalk_82 : decode cX6_chalk 82 = .ok (.bipush 25, 2) := by decide +kernel
theorem dX6_chalk_84 : decode cX6_chalk 84 = .ok (.iload 4, 2) := by decide +kernel
theorem dX6_chalk_86 : decode cX6_chalk 86 = .ok (.iadd, 1) := by decide +kernel
theorem dX6_chalk_87 : decode cX6_chalk 87 = .ok (.iaload, 1) := by decide +kernel
theorem dX6_chalk_88 : decode cX6_chalk 88 = .ok (.iastore, 1) := by decide +kernel
theorem dX6_chalk_89 : decode cX6_chalk 89 = .ok (.iinc 4 1, 3) := by decide +kernel
theorem dX6_chalk_92 : decode cX6_chalk 92 = .ok (.goto (-29), 3) := by decide +kernel
theorem dX6_chalk_95 : decode cX6_chalk 95 = .ok (.iconst 0, 1) := by decide +kernel
theorem dX6_chalk_96 : decode cX6_chalk 96 = .ok (.istore 4, 2) := by decide +kernel
theorem dX6_chalk_98 : decode cX6_chalk 98 = .ok (.iload 4, 2) := by decide +kernel
theorem dX6_chalk_100 : decode cX6_chalk 100 = .ok (.aload_n 0, 1) := by decide +kernel
theorem dX6_chalk_101 : decode cX6_chalk 101 = .ok (.getfield 140, 3) := by decide +kernel
theorem dX6_chalk_104 : decode cX6_chalk 104 = .ok (.if_icmp .ge 45, 3) := by decide +kernel
theorem dX6_chalk_107 : decode cX6_chalk 107 = .ok (.aload_n 0, 1) := by decide +kernel
theorem dX6_chalk_108 : decode cX6_chalk 108 = .ok (.iload 4, 2) := by decide +kernel
theorem dX6_chalk_110 : decode cX6_chalk 110 = .ok (.invokevirtual 143, 3) := by decide +kernel
theorem dX6_chalk_113 : decode cX6_chalk 113 = .ok (.ifCond .eq 30, 3) := by decide +kernel
theorem dX6_chalk_116 : decode cX6_chalk 116 = .ok (.aload_n 0, 1) := by decide +kernel
theorem dX6_chalk_117 : decode cX6_chalk 117 = .ok (.getfield 41, 3) := by decide +kernel
theorem dX6_chalk_120 : decode cX6_chalk 120 = .ok (.aload_n 0, 1) := by decide +kernel
theorem dX6_chalk_121 : decode cX6_chalk 121 = .ok (.getfield 7, 3) := by decide +kernel
theorem dX6_chalk_124 : decode cX6_chalk 124 = .ok (.bipush 7, 2) := by decide +kernel
theorem dX6_chalk_126 : decode cX6_chalk 126 = .ok (.iload 4, 2) := by decide +kernel
theorem dX6_chalk_128 : decode cX6_chalk 128 = .ok (.iadd, 1) := by decide +kernel
theorem dX6_chalk_129 : decode cX6_chalk 129 = .ok (.iaload, 1) := by decide +kernel
theorem dX6_chalk_130 : decode cX6_chalk 130 = .ok (.dup2, 1) := by decide +kernel
theorem dX6_chalk_131 : decode cX6_chalk 131 = .ok (.iaload, 1) := by decide +kernel
theorem dX6_chalk_132 : decode cX6_chalk 132 = .ok (.aload_n 0, 1) := by decide +kernel
theorem dX6_chalk_133 : decode cX6_chalk 133 = .ok (.getfield 38, 3) := by decide +kernel
theorem dX6_chalk_136 : decode cX6_chalk 136 = .ok (.iload 4, 2) := by decide +kernel
theorem dX6_chalk_138 : decode cX6_chalk 138 = .ok (.iaload, 1) := by decide +kernel
theorem dX6_chalk_139 : decode cX6_chalk 139 = .ok (.iconst 2, 1) := by decide +kernel
theorem dX6_chalk_140 : decode cX6_chalk 140 = .ok (.idiv, 1) := by decide +kernel
theorem dX6_chalk_141 : decode cX6_chalk 141 = .ok (.iadd, 1) := by decide +kernel
theorem dX6_chalk_142 : decode cX6_chalk 142 = .ok (.iastore, 1) := by decide +kernel
theorem dX6_chalk_143 : decode cX6_chalk 143 = .ok (.iinc 4 1, 3) := by decide +kernel
theorem dX6_chalk_146 : decode cX6_chalk 146 = .ok (.goto (-48), 3) := by decide +kernel
theorem dX6_chalk_149 : decode cX6_chalk 149 = .ok (.iconst 0, 1) := by decide +kernel
theorem dX6_chalk_150 : decode cX6_chalk 150 = .ok (.istore 4, 2) := by decide +kernel
theorem dX6_chalk_152 : decode cX6_chalk 152 = .ok (.iload 4, 2) := by decide +kernel
theorem dX6_chalk_154 : decode cX6_chalk 154 = .ok (.aload_n 0, 1) := by decide +kernel
theorem dX6_chalk_155 : decode cX6_chalk 155 = .ok (.getfield 140, 3) := by decide +kernel
theorem dX6_chalk_158 : decode cX6_chalk 158 = .ok (.if_icmp .ge 23, 3) := by decide +kernel
theorem dX6_chalk_161 : decode cX6_chalk 161 = .ok (.aload_n 0, 1) := by decide +kernel
theorem dX6_chalk_162 : decode cX6_chalk 162 = .ok (.getfield 38, 3) := by decide +kernel
theorem dX6_chalk_165 : decode cX6_chalk 165 = .ok (.iload 4, 2) := by decide +kernel
theorem dX6_chalk_167 : decode cX6_chalk 167 = .ok (.aload_n 0, 1) := by decide +kernel
theorem dX6_chalk_168 : decode cX6_chalk 168 = .ok (.getfield 41, 3) := by decide +kernel
theorem dX6_chalk_171 : decode cX6_chalk 171 = .ok (.iload 4, 2) := by decide +kernel
theorem dX6_chalk_173 : decode cX6_chalk 173 = .ok (.iaload, 1) := by decide +kernel
theorem dX6_chalk_174 : decode cX6_chalk 174 = .ok (.iastore, 1) := by decide +kernel
theorem dX6_chalk_175 : decode cX6_chalk 175 = .ok (.iinc 4 1, 3) := by decide +kernel
theorem dX6_chalk_178 : decode cX6_chalk 178 = .ok (.goto (-26), 3) := by decide +kernel
theorem dX6_chalk_181 : decode cX6_chalk 181 = .ok (.iinc 3 1, 3) := by decide +kernel
theorem dX6_chalk_184 : decode cX6_chalk 184 = .ok (.goto (-129), 3) := by decide +kernel
theorem dX6_chalk_187 : decode cX6_chalk 187 = .ok (.aload_n 0, 1) := by decide +kernel
theorem dX6_chalk_188 : decode cX6_chalk 188 = .ok (.getfield 38, 3) := by decide +kernel
theorem dX6_chalk_191 : decode cX6_chalk 191 = .ok (.iload_n 1, 1) := by decide +kernel
theorem dX6_chalk_192 : decode cX6_chalk 192 = .ok (.iaload, 1) := by decide +kernel
theorem dX6_chalk_193 : decode cX6_chalk 193 = .ok (.ireturn, 1) := by decide +kernel
def p6_chalk_152 (k55 : Int32 → Int32 → Int32 → SX → Option (Int32 × SX)) (k152 : Int32 → Int32 → Int32 → Int32 → SX → Option (Int32 × SX)) (v1 : Int32) (v2 : Int32) (v3 : Int32) (v4 : Int32) (M : SX) : Option (Int32 × SX) :=
  if (M.1 0 1) ≤ v4 then (lt_ (v3 + 1) (fun x2 => k55 v1 v2 x2 M))
  else (gd (bIn v4 6) ( lt_ (wI M 9 (Int32.toNatClampNeg v4) (M.1 10 (Int32.toNatClampNeg v4))) (fun M4 => lt_ (v4 + 1) (fun x5 => k152 v1 v2 v3 x5 M4))))
set_option maxHeartbeats 4000000 in
set_option maxRecDepth 100000 in
theorem w6_chalk_152 {G : XG} {p : Program} {l : Launch} {e : Env} {s : State} {m : MethodId} {args : Array Value} {below : List Frame} {meth : Method} {c : Code} (F : Fx G ZY p m c cX6_chalk 5 s args RX6) (hr : meth.sig.returnType = some .int) (hk : meth.locks = false) {r : Int32} {M' : SX} (k55 : Int32 → Int32 → Int32 → SX → Option (Int32 × SX)) (hk55 : ∀ (v1 : Int32) (v2 : Int32) (v3 : Int32) (M : SX) (H : Heap) (locs : List Loc) (ls : Array Slot), Wld G ZY M s.heap H locs → lv_has ls 5 [(0, .ref (G.2.1 0)), (1, .int v1), (2, .int v2), (3, .int v3)] → k55 v1 v2 v3 M = some (r, M') → WXi G ZY p l e 2 s m args below meth c r M' H locs (F0 m 55 ls [])) (k152 : Int32 → Int32 → Int32 → Int32 → SX → Option (Int32 × SX)) (hk152 : ∀ (v1 : Int32) (v2 : Int32) (v3 : Int32) (v4 : Int32) (M : SX) (H : Heap) (locs : List Loc) (ls : Array Slot), Wld G ZY M s.heap H locs → lv_has ls 5 [(0, .ref (G.2.1 0)), (1, .int v1), (2, .int v2), (3, .int v3), (4, .int v4)] → k152 v1 v2 v3 v4 M = some (r, M') → WXi G ZY p l e 2 s m args below meth c r M' H locs (F0 m 152 ls [])) : ∀ (v1 : Int32) (v2 : Int32) (v3 : Int32) (v4 : Int32) (M : SX) (H : Heap) (locs : List Loc) (ls : Array Slot), Wld G ZY M s.heap H locs → lv_has ls 5 [(0, .ref (G.2.1 0)), (1, .int v1), (2, .int v2), (3, .int v3), (4, .int v4)] → p6_chalk_152 k55 k152 v1 v2 v3 v4 M = some (r, M') → WXi G ZY p l e 2 s m args below meth c r M' H locs (F0 m 152 ls []) := by
  intro v1 v2 v3 v4 M H locs ls hw hl hf
  have hx := F.1.1
  have hb := F.1.2.1
  unfold p6_chalk_152 at hf
  refine lv_iload hx hb dX6_chalk_152 (lv_at hl 4 rfl) ?_
  refine lv_aload_n hx hb dX6_chalk_154 rfl (lv_at hl 0 rfl) ?_
  refine g6_1 F hw tw_611 dX6_chalk_155 ?_
  refine lv_icmp_ge (tgt := 181) hx hb dX6_chalk_158 (by decide) (fun c1 => ?_) (fun c1 => ?_)
  · have hf := it_t hf c1
    obtain ⟨x2, ex2, hf⟩ := lt_elim hf
    refine lv_iinc (v := x2) (lv' := [(3, .int x2), (0, .ref (G.2.1 0)), (1, .int v1), (2, .int v2), (4, .int v4)]) hx hb dX6_chalk_181 hl (k := 3) rfl (by rw [ex2]; rfl) (by decide) rfl (fun ls hl => ?_)
    refine lv_goto (tgt := 55) hx hb dX6_chalk_184 (by decide) ?_
    exact hk55 v1 v2 x2 M _ _ ls hw (lv_sub hl [1, 2, 3, 0] rfl) hf
  · have hf := it_f hf c1
    refine lv_aload_n hx hb dX6_chalk_161 rfl (lv_at hl 0 rfl) ?_
    refine g6_18 F hw tw_742 dX6_chalk_162 ?_
    refine lv_iload hx hb dX6_chalk_165 (lv_at hl 4 rfl) ?_
    refine lv_aload_n hx hb dX6_chalk_167 rfl (lv_at hl 0 rfl) ?_
    refine g6_19 F hw tw_743 dX6_chalk_168 ?_
    refine lv_iload hx hb dX6_chalk_171 (lv_at hl 4 rfl) ?_
    obtain ⟨g3, hf⟩ := gd_some hf
    refine x_iald F hw sM10 g3 dX6_chalk_173 ?_
    refine x_iast F hw sM9 g3 dX6_chalk_174 (fun H locs hw => ?_)
    obtain ⟨M4, eM4, hf⟩ := lt_elim hf
    rw [← eM4] at hw
    obtain ⟨x5, ex5, hf⟩ := lt_elim hf
    refine lv_iinc (v := x5) (lv' := [(4, .int x5), (0, .ref (G.2.1 0)), (1, .int v1), (2, .int v2), (3, .int v3)]) hx hb dX6_chalk_175 hl (k := 4) rfl (by rw [ex5]; rfl) (by decide) rfl (fun ls hl => ?_)
    refine lv_goto (tgt := 152) hx hb dX6_chalk_178 (by decide) ?_
    exact hk152 v1 v2 v3 x5 M4 _ _ ls hw (lv_sub hl [1, 2, 3, 4, 0] rfl) hf
theorem z6_chalk_152 {G : XG} {p : Program} {l : Launch} {e : Env} {s : State} {m : MethodId} {args : Array Value} {below : List Frame} {meth : Method} {c : Code} (F : Fx G ZY p m c cX6_chalk 5 s args RX6) (hr : meth.sig.returnType = some .int) (hk : meth.locks = false) {r : Int32} {M' : SX} (k55 : Int32 → Int32 → Int32 → SX → Option (Int32 × SX)) (hk55 : ∀ (v1 : Int32) (v2 : Int32) (v3 : Int32) (M : SX) (H : Heap) (locs : List Loc) (ls : Array Slot), Wld G ZY M s.heap H locs → lv_has ls 5 [(0, .ref (G.2.1 0)), (1, .int v1), (2, .int v2), (3, .int v3)] → k55 v1 v2 v3 M = some (r, M') → WXi G ZY p l e 2 s m args below meth c r M' H locs (F0 m 55 ls [])) : ∀ n : Nat, ∀ (v1 : Int32) (v2 : Int32) (v3 : Int32) (v4 : Int32) (M : SX) (H : Heap) (locs : List Loc) (ls : Array Slot), Wld G ZY M s.heap H locs → lv_has ls 5 [(0, .ref (G.2.1 0)), (1, .int v1), (2, .int v2), (3, .int v3), (4, .int v4)] → xlp4 (p6_chalk_152 k55) n v1 v2 v3 v4 M = some (r, M') → WXi G ZY p l e 2 s m args below meth c r M' H locs (F0 m 152 ls []) := by
  intro n
  induction n with
  | zero => intro _ _ _ _ _ _ _ _ _ _ hf; cases hf
  | succ n ih => exact w6_chalk_152 F hr hk k55 hk55 (xlp4 (p6_chalk_152 k55) n) ih
def p6_chalk_143 (k55 : Int32 → Int32 → Int32 → SX → Option (Int32 × SX)) (k98 : Int32 → Int32 → Int32 → Int32 → SX → Option (Int32 × SX)) (v1 : Int32) (v2 : Int32) (v3 : Int32) (v4 : Int32) (M : SX) : Option (Int32 × SX) :=
  lt_ (v4 + 1) (fun x1 => k98 v1 v2 v3 x1 M)
set_option maxHeartbeats 4000000 in
set_option maxRecDepth 100000 in
theorem w6_chalk_143 {G : XG} {p : Program} {l : Launch} {e : Env} {s : State} {m : MethodId} {args : Array Value} {below : List Frame} {meth : Method} {c : Code} (F : Fx G ZY p m c cX6_chalk 5 s args RX6) (hr : meth.sig.returnType = some .int) (hk : meth.locks = false) {r : Int32} {M' : SX} (k55 : Int32 → Int32 → Int32 → SX → Option (Int32 × SX)) (hk55 : ∀ (v1 : Int32) (v2 : Int32) (v3 : Int32) (M : SX) (H : Heap) (locs : List Loc) (ls : Array Slot), Wld G ZY M s.heap H locs → lv_has ls 5 [(0, .ref (G.2.1 0)), (1, .int v1), (2, .int v2), (3, .int v3)] → k55 v1 v2 v3 M = some (r, M') → WXi G ZY p l e 2 s m args below meth c r M' H locs (F0 m 55 ls [])) (k98 : Int32 → Int32 → Int32 → Int32 → SX → Option (Int32 × SX)) (hk98 : ∀ (v1 : Int32) (v2 : Int32) (v3 : Int32) (v4 : Int32) (M : SX) (H : Heap) (locs : List Loc) (ls : Array Slot), Wld G ZY M s.heap H locs → lv_has ls 5 [(0, .ref (G.2.1 0)), (1, .int v1), (2, .int v2), (3, .int v3), (4, .int v4)] → k98 v1 v2 v3 v4 M = some (r, M') → WXi G ZY p l e 2 s m args below meth c r M' H locs (F0 m 98 ls [])) : ∀ (v1 : Int32) (v2 : Int32) (v3 : Int32) (v4 : Int32) (M : SX) (H : Heap) (locs : List Loc) (ls : Array Slot), Wld G ZY M s.heap H locs → lv_has ls 5 [(0, .ref (G.2.1 0)), (1, .int v1), (2, .int v2), (3, .int v3), (4, .int v4)] → p6_chalk_143 k55 k98 v1 v2 v3 v4 M = some (r, M') → WXi G ZY p l e 2 s m args below meth c r M' H locs (F0 m 143 ls []) := by
  intro v1 v2 v3 v4 M H locs ls hw hl hf
  have hx := F.1.1
  have hb := F.1.2.1
  unfold p6_chalk_143 at hf
  obtain ⟨x1, ex1, hf⟩ := lt_elim hf
  refine lv_iinc (v := x1) (lv' := [(4, .int x1), (0, .ref (G.2.1 0)), (1, .int v1), (2, .int v2), (3, .int v3)]) hx hb dX6_chalk_143 hl (k := 4) rfl (by rw [ex1]; rfl) (by decide) rfl (fun ls hl => ?_)
  refine lv_goto (tgt := 98) hx hb dX6_chalk_146 (by decide) ?_
  exact hk98 v1 v2 v3 x1 M _ _ ls hw (lv_sub hl [1, 2, 3, 4, 0] rfl) hf
def p6_chalk_98 (k55 : Int32 → Int32 → Int32 → SX → Option (Int32 × SX)) (k98 : Int32 → Int32 → Int32 → Int32 → SX → Option (Int32 × SX)) (v1 : Int32) (v2 : Int32) (v3 : Int32) (v4 : Int32) (M : SX) : Option (Int32 × SX) :=
  if (M.1 0 1) ≤ v4 then (xlp4 (p6_chalk_152 k55) FU v1 v2 v3 0 M)
  else (bd (p6_isPawned v4 M) (fun r4 M3 => if r4 = 0 then (p6_chalk_143 k55 k98 v1 v2 v3 v4 M3)
  else (gd (bIn (7 + v4) 3964) ( gd (bIn (M3.1 1 (Int32.toNatClampNeg (7 + v4))) 6) ( gd (bIn v4 6) ( lt_ (wI M3 10 (Int32.toNatClampNeg (M3.1 1 (Int32.toNatClampNeg (7 + v4)))) ((M3.1 10 (Int32.toNatClampNeg (M3.1 1 (Int32.toNatClampNeg (7 + v4))))) + ((M3.1 9 (Int32.toNatClampNeg v4)) / 2))) (fun M9 => p6_chalk_143 k55 k98 v1 v2 v3 v4 M9)))))))
set_option maxHeartbeats 4000000 in
set_option maxRecDepth 100000 in
theorem w6_chalk_98 {G : XG} {p : Program} {l : Launch} {e : Env} {s : State} {m : MethodId} {args : Array Value} {below : List Frame} {meth : Method} {c : Code} (F : Fx G ZY p m c cX6_chalk 5 s args RX6) (hr : meth.sig.returnType = some .int) (hk : meth.locks = false) {r : Int32} {M' : SX} (k55 : Int32 → Int32 → Int32 → SX → Option (Int32 × SX)) (hk55 : ∀ (v1 : Int32) (v2 : Int32) (v3 : Int32) (M : SX) (H : Heap) (locs : List Loc) (ls : Array Slot), Wld G ZY M s.heap H locs → lv_has ls 5 [(0, .ref (G.2.1 0)), (1, .int v1), (2, .int v2), (3, .int v3)] → k55 v1 v2 v3 M = some (r, M') → WXi G ZY p l e 2 s m args below meth c r M' H locs (F0 m 55 ls [])) (k98 : Int32 → Int32 → Int32 → Int32 → SX → Option (Int32 × SX)) (hk98 : ∀ (v1 : Int32) (v2 : Int32) (v3 : Int32) (v4 : Int32) (M : SX) (H : Heap) (locs : List Loc) (ls : Array Slot), Wld G ZY M s.heap H locs → lv_has ls 5 [(0, .ref (G.2.1 0)), (1, .int v1), (2, .int v2), (3, .int v3), (4, .int v4)] → k98 v1 v2 v3 v4 M = some (r, M') → WXi G ZY p l e 2 s m args below meth c r M' H locs (F0 m 98 ls [])) : ∀ (v1 : Int32) (v2 : Int32) (v3 : Int32) (v4 : Int32) (M : SX) (H : Heap) (locs : List Loc) (ls : Array Slot), Wld G ZY M s.heap H locs → lv_has ls 5 [(0, .ref (G.2.1 0)), (1, .int v1), (2, .int v2), (3, .int v3), (4, .int v4)] → p6_chalk_98 k55 k98 v1 v2 v3 v4 M = some (r, M') → WXi G ZY p l e 2 s m args below meth c r M' H locs (F0 m 98 ls []) := by
  intro v1 v2 v3 v4 M H locs ls hw hl hf
  have hx := F.1.1
  have hb := F.1.2.1
  unfold p6_chalk_98 at hf
  refine lv_iload hx hb dX6_chalk_98 (lv_at hl 4 rfl) ?_
  refine lv_aload_n hx hb dX6_chalk_100 rfl (lv_at hl 0 rfl) ?_
  refine g6_1 F hw tw_611 dX6_chalk_101 ?_
  refine lv_icmp_ge (tgt := 149) hx hb dX6_chalk_104 (by decide) (fun c1 => ?_) (fun c1 => ?_)
  · have hf := it_t hf c1
    refine lv_iconst (v := 0) hx hb dX6_chalk_149 (by decide) ?_
    refine lv_istore (lv' := [(4, .int 0), (0, .ref (G.2.1 0)), (1, .int v1), (2, .int v2), (3, .int v3)]) hx hb dX6_chalk_150 hl (by decide) rfl (fun ls hl => ?_)
    exact z6_chalk_152 F hr hk k55 hk55 FU v1 v2 v3 0 M _ _ ls hw (lv_sub hl [1, 2, 3, 4, 0] rfl) hf
  · have hf := it_f hf c1
    refine lv_aload_n hx hb dX6_chalk_107 rfl (lv_at hl 0 rfl) ?_
    refine lv_iload hx hb dX6_chalk_108 (lv_at hl 4 rfl) ?_
    obtain ⟨r4, M3, hc2, hf⟩ := bd_some hf
    refine x_aftI hw (x_runV (rest := []) F hw hl.1 vw_RX6_143 (sM) rfl (c6_isPawned v4 hc2) rfl rfl (Nat.le_of_ble_eq_true rfl) ⟨Nat.le_of_ble_eq_true rfl, Nat.le_of_ble_eq_true rfl⟩ dX6_chalk_110) (fun H locs hw => ?_)
    refine lv_if_eq (tgt := 143) hx hb dX6_chalk_113 (by decide) (fun c5 => ?_) (fun c5 => ?_)
    · have hf := it_t hf c5
      exact w6_chalk_143 F hr hk k55 hk55 k98 hk98 v1 v2 v3 v4 M3 _ _ ls hw (lv_sub hl [0, 1, 2, 3, 4] rfl) hf
    · have hf := it_f hf c5
      refine lv_aload_n hx hb dX6_chalk_116 rfl (lv_at hl 0 rfl) ?_
      refine g6_19 F hw tw_743 dX6_chalk_117 ?_
      refine lv_aload_n hx hb dX6_chalk_120 rfl (lv_at hl 0 rfl) ?_
      refine g6_0 F hw tw_610 dX6_chalk_121 ?_
      refine lv_bipush (v := 7) hx hb dX6_chalk_124 (by decide) ?_
      refine lv_iload hx hb dX6_chalk_126 (lv_at hl 4 rfl) ?_
      refine lv_iadd hx hb dX6_chalk_128 ?_
      obtain ⟨g6, hf⟩ := gd_some hf
      refine x_iald F hw sM1 g6 dX6_chalk_129 ?_
      refine lv_dup2_11 hx hb dX6_chalk_130 rfl rfl ?_
      obtain ⟨g7, hf⟩ := gd_some hf
      refine x_iald F hw sM10 g7 dX6_chalk_131 ?_
      refine lv_aload_n hx hb dX6_chalk_132 rfl (lv_at hl 0 rfl) ?_
      refine g6_18 F hw tw_742 dX6_chalk_133 ?_
      refine lv_iload hx hb dX6_chalk_136 (lv_at hl 4 rfl) ?_
      obtain ⟨g8, hf⟩ := gd_some hf
      refine x_iald F hw sM9 g8 dX6_chalk_138 ?_
      refine lv_iconst (v := 2) hx hb dX6_chalk_139 (by decide) ?_
      refine lv_idiv hx hb dX6_chalk_140 (by decide) ?_
      refine lv_iadd hx hb dX6_chalk_141 ?_
      refine x_iast F hw sM10 g7 dX6_chalk_142 (fun H locs hw => ?_)
      obtain ⟨M9, eM9, hf⟩ := lt_elim hf
      rw [← eM9] at hw
      exact w6_chalk_143 F hr hk k55 hk55 k98 hk98 v1 v2 v3 v4 M9 _ _ ls hw (lv_sub hl [0, 1, 2, 3, 4] rfl) hf
theorem z6_chalk_98 {G : XG} {p : Program} {l : Launch} {e : Env} {s : State} {m : MethodId} {args : Array Value} {below : List Frame} {meth : Method} {c : Code} (F : Fx G ZY p m c cX6_chalk 5 s args RX6) (hr : meth.sig.returnType = some .int) (hk : meth.locks = false) {r : Int32} {M' : SX} (k55 : Int32 → Int32 → Int32 → SX → Option (Int32 × SX)) (hk55 : ∀ (v1 : Int32) (v2 : Int32) (v3 : Int32) (M : SX) (H : Heap) (locs : List Loc) (ls : Array Slot), Wld G ZY M s.heap H locs → lv_has ls 5 [(0, .ref (G.2.1 0)), (1, .int v1), (2, .int v2), (3, .int v3)] → k55 v1 v2 v3 M = some (r, M') → WXi G ZY p l e 2 s m args below meth c r M' H locs (F0 m 55 ls [])) : ∀ n : Nat, ∀ (v1 : Int32) (v2 : Int32) (v3 : Int32) (v4 : Int32) (M : SX) (H : Heap) (locs : List Loc) (ls : Array Slot), Wld G ZY M s.heap H locs → lv_has ls 5 [(0, .ref (G.2.1 0)), (1, .int v1), (2, .int v2), (3, .int v3), (4, .int v4)] → xlp4 (p6_chalk_98 k55) n v1 v2 v3 v4 M = some (r, M') → WXi G ZY p l e 2 s m args below meth c r M' H locs (F0 m 98 ls []) := by
  intro n
  induction n with
  | zero => intro _ _ _ _ _ _ _ _ _ _ hf; cases hf
  | succ n ih => exact w6_chalk_98 F hr hk k55 hk55 (xlp4 (p6_chalk_98 k55) n) ih
def p6_chalk_63 (k55 : Int32 → Int32 → Int32 → SX → Option (Int32 × SX)) (k63 : Int32 → Int32 → Int32 → Int32 → SX → Option (Int32 × SX)) (v1 : Int32) (v2 : Int32) (v3 : Int32) (v4 : Int32) (M : SX) : Option (Int32 × SX) :=
  if (M.1 0 1) ≤ v4 then (xlp4 (p6_chalk_98 k55) FU v1 v2 v3 0 M)
  else (gd (bIn (25 + v4) 3964) ( gd (bIn v4 6) ( lt_ (wI M 10 (Int32.toNatClampNeg v4) (M.1 1 (Int32.toNatClampNeg (25 + v4)))) (fun M4 => lt_ (v4 + 1) (fun x5 => k63 v1 v2 v3 x5 M4)))))
set_option maxHeartbeats 4000000 in
set_option maxRecDepth 100000 in
theorem w6_chalk_63 {G : XG} {p : Program} {l : Launch} {e : Env} {s : State} {m : MethodId} {args : Array Value} {below : List Frame} {meth : Method} {c : Code} (F : Fx G ZY p m c cX6_chalk 5 s args RX6) (hr : meth.sig.returnType = some .int) (hk : meth.locks = false) {r : Int32} {M' : SX} (k55 : Int32 → Int32 → Int32 → SX → Option (Int32 × SX)) (hk55 : ∀ (v1 : Int32) (v2 : Int32) (v3 : Int32) (M : SX) (H : Heap) (locs : List Loc) (ls : Array Slot), Wld G ZY M s.heap H locs → lv_has ls 5 [(0, .ref (G.2.1 0)), (1, .int v1), (2, .int v2), (3, .int v3)] → k55 v1 v2 v3 M = some (r, M') → WXi G ZY p l e 2 s m args below meth c r M' H locs (F0 m 55 ls [])) (k63 : Int32 → Int32 → Int32 → Int32 → SX → Option (Int32 × SX)) (hk63 : ∀ (v1 : Int32) (v2 : Int32) (v3 : Int32) (v4 : Int32) (M : SX) (H : Heap) (locs : List Loc) (ls : Array Slot), Wld G ZY M s.heap H locs → lv_has ls 5 [(0, .ref (G.2.1 0)), (1, .int v1), (2, .int v2), (3, .int v3), (4, .int v4)] → k63 v1 v2 v3 v4 M = some (r, M') → WXi G ZY p l e 2 s m args below meth c r M' H locs (F0 m 63 ls [])) : ∀ (v1 : Int32) (v2 : Int32) (v3 : Int32) (v4 : Int32) (M : SX) (H : Heap) (locs : List Loc) (ls : Array Slot), Wld G ZY M s.heap H locs → lv_has ls 5 [(0, .ref (G.2.1 0)), (1, .int v1), (2, .int v2), (3, .int v3), (4, .int v4)] → p6_chalk_63 k55 k63 v1 v2 v3 v4 M = some (r, M') → WXi G ZY p l e 2 s m args below meth c r M' H locs (F0 m 63 ls []) := by
  intro v1 v2 v3 v4 M H locs ls hw hl hf
  have hx := F.1.1
  have hb := F.1.2.1
  unfold p6_chalk_63 at hf
  refine lv_iload hx hb dX6_chalk_63 (lv_at hl 4 rfl) ?_
  refine lv_aload_n hx hb dX6_chalk_65 rfl (lv_at hl 0 rfl) ?_
  refine g6_1 F hw tw_611 dX6_chalk_66 ?_
  refine lv_icmp_ge (tgt := 95) hx hb dX6_chalk_69 (by decide) (fun c1 => ?_) (fun c1 => ?_)
  · have hf := it_t hf c1
    refine lv_iconst (v := 0) hx hb dX6_chalk_95 (by decide) ?_
    refine lv_istore (lv' := [(4, .int 0), (0, .ref (G.2.1 0)), (1, .int v1), (2, .int v2), (3, .int v3)]) hx hb dX6_chalk_96 hl (by decide) rfl (fun ls hl => ?_)
    exact z6_chalk_98 F hr hk k55 hk55 FU v1 v2 v3 0 M _ _ ls hw (lv_sub hl [1, 2, 3, 4, 0] rfl) hf
  · have hf := it_f hf c1
    refine lv_aload_n hx hb dX6_chalk_72 rfl (lv_at hl 0 rfl) ?_
    refine g6_19 F hw tw_743 dX6_chalk_73 ?_
    refine lv_iload hx hb dX6_chalk_76 (lv_at hl 4 rfl) ?_
    refine lv_aload_n hx hb dX6_chalk_78 rfl (lv_at hl 0 rfl) ?_
    refine g6_0 F hw tw_610 dX6_chalk_79 ?_
    refine lv_bipush (v := 25) hx hb dX6_chalk_82 (by decide) ?_
    refine lv_iload hx hb dX6_chalk_84 (lv_at hl 4 rfl) ?_
    refine lv_iadd hx hb dX6_chalk_86 ?_
    obtain ⟨g2, hf⟩ := gd_some hf
    refine x_iald F hw sM1 g2 dX6_chalk_87 ?_
    obtain ⟨g3, hf⟩ := gd_some hf
    refine x_iast F hw sM10 g3 dX6_chalk_88 (fun H locs hw => ?_)
    obtain ⟨M4, eM4, hf⟩ := lt_elim hf
    rw [← eM4] at hw
    obtain ⟨x5, ex5, hf⟩ := lt_elim hf
    refine lv_iinc (v := x5) (lv' := [(4, .int x5), (0, .ref (G.2.1 0)), (1, .int v1), (2, .int v2), (3, .int v3)]) hx hb dX6_chalk_89 hl (k := 4) rfl (by rw [ex5]; rfl) (by decide) rfl (fun ls hl => ?_)
    refine lv_goto (tgt := 63) hx hb dX6_chalk_92 (by decide) ?_
    exact hk63 v1 v2 v3 x5 M4 _ _ ls hw (lv_sub hl [1, 2, 3, 4, 0] rfl) hf
theorem z6_chalk_63 {G : XG} {p : Program} {l : Launch} {e : Env} {s : State} {m : MethodId} {args : Array Value} {below : List Frame} {meth : Method} {c : Code} (F : Fx G ZY p m c cX6_chalk 5 s args RX6) (hr : meth.sig.returnType = some .int) (hk : meth.locks = false) {r : Int32} {M' : SX} (k55 : Int32 → Int32 → Int32 → SX → Option (Int32 × SX)) (hk55 : ∀ (v1 : Int32) (v2 : Int32) (v3 : Int32) (M : SX) (H : Heap) (locs : List Loc) (ls : Array Slot), Wld G ZY M s.heap H locs → lv_has ls 5 [(0, .ref (G.2.1 0)), (1, .int v1), (2, .int v2), (3, .int v3)] → k55 v1 v2 v3 M = some (r, M') → WXi G ZY p l e 2 s m args below meth c r M' H locs (F0 m 55 ls [])) : ∀ n : Nat, ∀ (v1 : Int32) (v2 : Int32) (v3 : Int32) (v4 : Int32) (M : SX) (H : Heap) (locs : List Loc) (ls : Array Slot), Wld G ZY M s.heap H locs → lv_has ls 5 [(0, .ref (G.2.1 0)), (1, .int v1), (2, .int v2), (3, .int v3), (4, .int v4)] → xlp4 (p6_chalk_63 k55) n v1 v2 v3 v4 M = some (r, M') → WXi G ZY p l e 2 s m args below meth c r M' H locs (F0 m 63 ls []) := by
  intro n
  induction n with
  | zero => intro _ _ _ _ _ _ _ _ _ _ hf; cases hf
  | succ n ih => exact w6_chalk_63 F hr hk k55 hk55 (xlp4 (p6_chalk_63 k55) n) ih
def p6_chalk_55 (k55 : Int32 → Int32 → Int32 → SX → Option (Int32 × SX)) (v1 : Int32) (v2 : Int32) (v3 : Int32) (M : SX) : Option (Int32 × SX) :=
  if v2 ≤ v3 then (gd (bIn v1 6) ( some (M.1 9 (Int32.toNatClampNeg v1), M)))
  else (xlp4 (p6_chalk_63 k55) FU v1 v2 v3 0 M)
set_option maxHeartbeats 4000000 in
set_option maxRecDepth 100000 in
theorem w6_chalk_55 {G : XG} {p : Program} {l : Launch} {e : Env} {s : State} {m : MethodId} {args : Array Value} {below : List Frame} {meth : Method} {c : Code} (F : Fx G ZY p m c cX6_chalk 5 s args RX6) (hr : meth.sig.returnType = some .int) (hk : meth.locks = false) {r : Int32} {M' : SX} (k55 : Int32 → Int32 → Int32 → SX → Option (Int32 × SX)) (hk55 : ∀ (v1 : Int32) (v2 : Int32) (v3 : Int32) (M : SX) (H : Heap) (locs : List Loc) (ls : Array Slot), Wld G ZY M s.heap H locs → lv_has ls 5 [(0, .ref (G.2.1 0)), (1, .int v1), (2, .int v2), (3, .int v3)] → k55 v1 v2 v3 M = some (r, M') → WXi G ZY p l e 2 s m args below meth c r M' H locs (F0 m 55 ls [])) : ∀ (v1 : Int32) (v2 : Int32) (v3 : Int32) (M : SX) (H : Heap) (locs : List Loc) (ls : Array Slot), Wld G ZY M s.heap H locs → lv_has ls 5 [(0, .ref (G.2.1 0)), (1, .int v1), (2, .int v2), (3, .int v3)] → p6_chalk_55 k55 v1 v2 v3 M = some (r, M') → WXi G ZY p l e 2 s m args below meth c r M' H locs (F0 m 55 ls []) := by
  intro v1 v2 v3 M H locs ls hw hl hf
  have hx := F.1.1
  have hb := F.1.2.1
  unfold p6_chalk_55 at hf
  refine lv_iload_n hx hb dX6_chalk_55 rfl (lv_at hl 3 rfl) ?_
  refine lv_iload_n hx hb dX6_chalk_56 rfl (lv_at hl 2 rfl) ?_
  refine lv_icmp_ge (tgt := 187) hx hb dX6_chalk_57 (by decide) (fun c1 => ?_) (fun c1 => ?_)
  · have hf := it_t hf c1
    refine lv_aload_n hx hb dX6_chalk_187 rfl (lv_at hl 0 rfl) ?_
    refine g6_18 F hw tw_742 dX6_chalk_188 ?_
    refine lv_iload_n hx hb dX6_chalk_191 rfl (lv_at hl 1 rfl) ?_
    obtain ⟨g2, hf⟩ := gd_some hf
    refine x_iald F hw sM9 g2 dX6_chalk_192 ?_
    exact x_iret F hw hr hk hf dX6_chalk_193
  · have hf := it_f hf c1
    refine lv_iconst (v := 0) hx hb dX6_chalk_60 (by decide) ?_
    refine lv_istore (lv' := [(4, .int 0), (0, .ref (G.2.1 0)), (1, .int v1), (2, .int v2), (3, .int v3)]) hx hb dX6_chalk_61 hl (by decide) rfl (fun ls hl => ?_)
    exact z6_chalk_63 F hr hk k55 hk55 FU v1 v2 v3 0 M _ _ ls hw (lv_sub hl [1, 2, 3, 4, 0] rfl) hf
theorem z6_chalk_55 {G : XG} {p : Program} {l : Launch} {e : Env} {s : State} {m : MethodId} {args : Array Value} {below : List Frame} {meth : Method} {c : Code} (F : Fx G ZY p m c cX6_chalk 5 s args RX6) (hr : meth.sig.returnType = some .int) (hk : meth.locks = false) {r : Int32} {M' : SX} : ∀ n : Nat, ∀ (v1 : Int32) (v2 : Int32) (v3 : Int32) (M : SX) (H : Heap) (locs : List Loc) (ls : Array Slot), Wld G ZY M s.heap H locs → lv_has ls 5 [(0, .ref (G.2.1 0)), (1, .int v1), (2, .int v2), (3, .int v3)] → xlp3 p6_chalk_55 n v1 v2 v3 M = some (r, M') → WXi G ZY p l e 2 s m args below meth c r M' H locs (F0 m 55 ls []) := by
  intro n
  induction n with
  | zero => intro _ _ _ _ _ _ _ _ _ hf; cases hf
  | succ n ih => exact w6_chalk_55 F hr hk (xlp3 p6_chalk_55 n) ih
def p6_chalk_24 (k24 : Int32 → Int32 → Int32 → SX → Option (Int32 × SX)) (v1 : Int32) (v2 : Int32) (v3 : Int32) (M : SX) : Option (Int32 × SX) :=
  if (M.1 0 1) ≤ v3 then (xlp3 p6_chalk_55 FU v1 v2 0 M)
  else (gd (bIn (25 + v3) 3964) ( gd (bIn v3 6) ( lt_ (wI M 9 (Int32.toNatClampNeg v3) (M.1 1 (Int32.toNatClampNeg (25 + v3)))) (fun M4 => lt_ (v3 + 1) (fun x5 => k24 v1 v2 x5 M4)))))
set_option maxHeartbeats 4000000 in
set_option maxRecDepth 100000 in
theorem w6_chalk_24 {G : XG} {p : Program} {l : Launch} {e : Env} {s : State} {m : MethodId} {args : Array Value} {below : List Frame} {meth : Method} {c : Code} (F : Fx G ZY p m c cX6_chalk 5 s args RX6) (hr : meth.sig.returnType = some .int) (hk : meth.locks = false) {r : Int32} {M' : SX} (k24 : Int32 → Int32 → Int32 → SX → Option (Int32 × SX)) (hk24 : ∀ (v1 : Int32) (v2 : Int32) (v3 : Int32) (M : SX) (H : Heap) (locs : List Loc) (ls : Array Slot), Wld G ZY M s.heap H locs → lv_has ls 5 [(0, .ref (G.2.1 0)), (1, .int v1), (2, .int v2), (3, .int v3)] → k24 v1 v2 v3 M = some (r, M') → WXi G ZY p l e 2 s m args below meth c r M' H locs (F0 m 24 ls [])) : ∀ (v1 : Int32) (v2 : Int32) (v3 : Int32) (M : SX) (H : Heap) (locs : List Loc) (ls : Array Slot), Wld G ZY M s.heap H locs → lv_has ls 5 [(0, .ref (G.2.1 0)), (1, .int v1), (2, .int v2), (3, .int v3)] → p6_chalk_24 k24 v1 v2 v3 M = some (r, M') → WXi G ZY p l e 2 s m args below meth c r M' H locs (F0 m 24 ls []) := by
  intro v1 v2 v3 M H locs ls hw hl hf
  have hx := F.1.1
  have hb := F.1.2.1
  unfold p6_chalk_24 at hf
  refine lv_iload_n hx hb dX6_chalk_24 rfl (lv_at hl 3 rfl) ?_
  refine lv_aload_n hx hb dX6_chalk_25 rfl (lv_at hl 0 rfl) ?_
  refine g6_1 F hw tw_611 dX6_chalk_26 ?_
  refine lv_icmp_ge (tgt := 53) hx hb dX6_chalk_29 (by decide) (fun c1 => ?_) (fun c1 => ?_)
  · have hf := it_t hf c1
    refine lv_iconst (v := 0) hx hb dX6_chalk_53 (by decide) ?_
    refine lv_istore_n (lv' := [(3, .int 0), (0, .ref (G.2.1 0)), (1, .int v1), (2, .int v2)]) hx hb dX6_chalk_54 rfl hl (by decide) rfl (fun ls hl => ?_)
    exact z6_chalk_55 F hr hk FU v1 v2 0 M _ _ ls hw (lv_sub hl [1, 2, 3, 0] rfl) hf
  · have hf := it_f hf c1
    refine lv_aload_n hx hb dX6_chalk_32 rfl (lv_at hl 0 rfl) ?_
    refine g6_18 F hw tw_742 dX6_chalk_33 ?_
    refine lv_iload_n hx hb dX6_chalk_36 rfl (lv_at hl 3 rfl) ?_
    refine lv_aload_n hx hb dX6_chalk_37 rfl (lv_at hl 0 rfl) ?_
    refine g6_0 F hw tw_610 dX6_chalk_38 ?_
    refine lv_bipush (v := 25) hx hb dX6_chalk_41 (by decide) ?_
    refine lv_iload_n hx hb dX6_chalk_43 rfl (lv_at hl 3 rfl) ?_
    refine lv_iadd hx hb dX6_chalk_44 ?_
    obtain ⟨g2, hf⟩ := gd_some hf
    refine x_iald F hw sM1 g2 dX6_chalk_45 ?_
    obtain ⟨g3, hf⟩ := gd_some hf
    refine x_iast F hw sM9 g3 dX6_chalk_46 (fun H locs hw => ?_)
    obtain ⟨M4, eM4, hf⟩ := lt_elim hf
    rw [← eM4] at hw
    obtain ⟨x5, ex5, hf⟩ := lt_elim hf
    refine lv_iinc (v := x5) (lv' := [(3, .int x5), (0, .ref (G.2.1 0)), (1, .int v1), (2, .int v2)]) hx hb dX6_chalk_47 hl (k := 3) rfl (by rw [ex5]; rfl) (by decide) rfl (fun ls hl => ?_)
    refine lv_goto (tgt := 24) hx hb dX6_chalk_50 (by decide) ?_
    exact hk24 v1 v2 x5 M4 _ _ ls hw (lv_sub hl [1, 2, 3, 0] rfl) hf
theorem z6_chalk_24 {G : XG} {p : Program} {l : Launch} {e : Env} {s : State} {m : MethodId} {args : Array Value} {below : List Frame} {meth : Method} {c : Code} (F : Fx G ZY p m c cX6_chalk 5 s args RX6) (hr : meth.sig.returnType = some .int) (hk : meth.locks = false) {r : Int32} {M' : SX} : ∀ n : Nat, ∀ (v1 : Int32) (v2 : Int32) (v3 : Int32) (M : SX) (H : Heap) (locs : List Loc) (ls : Array Slot), Wld G ZY M s.heap H locs → lv_has ls 5 [(0, .ref (G.2.1 0)), (1, .int v1), (2, .int v2), (3, .int v3)] → xlp3 p6_chalk_24 n v1 v2 v3 M = some (r, M') → WXi G ZY p l e 2 s m args below meth c r M' H locs (F0 m 24 ls []) := by
  intro n
  induction n with
  | zero => intro _ _ _ _ _ _ _ _ _ hf; cases hf
  | succ n ih => exact w6_chalk_24 F hr hk (xlp3 p6_chalk_24 n) ih
def p6_chalk (a1 : Int32) (a2 : Int32) (M : SX) : Option (Int32 × SX) :=
  bd (p6_isShop a1 M) (fun r3 M2 => if r3 = 0 then (some ((-1), M2))
  else (bd (p6_in (Int32.toInt64 a2) 0 6 M2) (fun r7 M6 => if r7 = 0 then (some ((-1), M6))
  else (xlp3 p6_chalk_24 FU a1 a2 0 M6))))
set_option maxHeartbeats 4000000 in
set_option maxRecDepth 100000 in
theorem c6_chalk {l : Launch} {G : XG} {r : Int32} {M' : SX} {M : SX} (a1 : Int32) (a2 : Int32) (hf : p6_chalk a1 a2 M = some (r, M')) : Met l yX6_chalk (.code yX6_chalk cX6_chalk 5 (some .int) :: TBL) (rmX 2) (xPc G ZY M [.ref (G.2.1 0), .int a1, .int a2]) (xQi G ZY r M') 0 0 (inA G ZY) := by
  refine x_met (cc := cX6_chalk) (by decide) (Nat.le_of_ble_eq_true rfl) ?_
  intro p e s m below meth c ls F hr hk hl hw
  have F : Fx G ZY p m c cX6_chalk 5 s [.ref (G.2.1 0), .int a1, .int a2].toArray RX6 := F
  have hl : lv_has ls 5 [(0, .ref (G.2.1 0)), (1, .int a1), (2, .int a2)] := hl
  have hx := F.1.1
  have hb := F.1.2.1
  unfold p6_chalk at hf
  refine lv_aload_n hx hb dX6_chalk_0 rfl (lv_at hl 0 rfl) ?_
  refine lv_iload_n hx hb dX6_chalk_1 rfl (lv_at hl 1 rfl) ?_
  obtain ⟨r3, M2, hc1, hf⟩ := bd_some hf
  refine x_aftI hw (x_runV (rest := []) F hw hl.1 vw_RX6_152 (sM) rfl (c6_isShop a1 hc1) rfl rfl (Nat.le_of_ble_eq_true rfl) ⟨Nat.le_of_ble_eq_true rfl, Nat.le_of_ble_eq_true rfl⟩ dX6_chalk_2) (fun H locs hw => ?_)
  refine lv_if_eq (tgt := 20) hx hb dX6_chalk_5 (by decide) (fun c4 => ?_) (fun c4 => ?_)
  · have hf := it_t hf c4
    refine lv_iconst (v := (-1)) hx hb dX6_chalk_20 (by decide) ?_
    exact x_iret F hw hr hk hf dX6_chalk_21
  · have hf := it_f hf c4
    refine lv_iload_n hx hb dX6_chalk_8 rfl (lv_at hl 2 rfl) ?_
    refine lv_i2l (v := Int32.toInt64 a2) hx hb dX6_chalk_9 rfl ?_
    refine lv_lconst (v := 0) hx hb dX6_chalk_10 (by decide) ?_
    refine lv_ldc2 (v := 6) hx hb F.1.2.2.2.1 (F.1.2.2.2.2 _ tw_744) dX6_chalk_11 ?_
    obtain ⟨r7, M6, hc5, hf⟩ := bd_some hf
    refine x_aftI hw (x_runS (rest := []) F hw hl.1 sw_RX6_69 (c6_in (Int32.toInt64 a2) 0 6 hc5) rfl rfl (Nat.le_of_ble_eq_true rfl) ⟨Nat.le_of_ble_eq_true rfl, Nat.le_of_ble_eq_true rfl⟩ dX6_chalk_14) (fun H locs hw => ?_)
    refine lv_if_ne (tgt := 22) hx hb dX6_chalk_17 (by decide) (fun c8 => ?_) (fun c8 => ?_)
    · have hf := it_f hf c8
      refine lv_iconst (v := 0) hx hb dX6_chalk_22 (by decide) ?_
      refine lv_istore_n (lv' := [(3, .int 0), (0, .ref (G.2.1 0)), (1, .int a1), (2, .int a2)]) hx hb dX6_chalk_23 rfl hl (by decide) rfl (fun ls hl => ?_)
      exact z6_chalk_24 F hr hk FU a1 a2 0 M6 _ _ ls hw (lv_sub hl [1, 2, 3, 0] rfl) hf
    · have hf := it_t hf c8
      refine lv_iconst (v := (-1)) hx hb dX6_chalk_20 (by decide) ?_
      exact x_iret F hw hr hk hf dX6_chalk_21
theorem dX6_layTried_0 : decode cX6_layTried 0 = .ok (.aload_n 0, 1) := by decide +kernel
theorem dX6_layTried_1 : decode cX6_layTried 1 = .ok (.aload_n 0, 1) := by decide +kernel
theorem dX6_layTried_2 : decode cX6_layTried 2 = .ok (.invokevirtual 191, 3) := by decide +kernel
theorem dX6_layTried_5 : decode cX6_layTried 5 = .ok (.iload_n 2, 1) := by decide +kernel
theorem dX6_layTried_6 : decode cX6_layTried 6 = .ok (.iconst (-1), 1) := by decide +kernel
theorem dX6_layTried_7 : decode cX6_layTried 7 = .ok (.ixor, 1) := by decide +kernel
theorem dX6_layTried_8 : decode cX6_layTried 8 = .ok (.iand, 1) := by decide +kernel
theorem dX6_layTried_9 : decode cX6_layTried 9 = .ok (.putfield 219, 3) := by decide +kernel
theorem dX6_layTried_12 : decode cX6_layTried 12 = .ok (.iconst 0, 1) := by decide +kernel
theorem dX6_layTried_13 : decode cX6_layTried 13 = .ok (.istore_n 3, 1) := by decide +kernel
theorem dX6_layTried_14 : decode cX6_layTried 14 = .ok (.iload_n 3, 1) := by decide +kernel
theorem dX6_layTried_15 : decode cX6_layTried 15 = .ok (.aload_n 0, 1) := by decide +kernel
theorem dX6_layTried_16 : decode cX6_layTried 16 = .ok (.getfield 140, 3) := by decide +kernel
theorem dX6_layTried_19 : decode cX6_layTried 19 = .ok (.if_icmp .ge 50, 3) := by decide +kernel
theorem dX6_layTried_22 : decode cX6_layTried 22 = .ok (.aload_n 0, 1) := by decide +kernel
theorem dX6_layTried_23 : decode cX6_layTried 23 = .ok (.getfield 44, 3) := by decide +kernel
theorem dX6_layTried_26 : decode cX6_layTried 26 = .ok (.iload_n 3, 1) := by decide +kernel
theorem dX6_layTried_27 : decode cX6_layTried 27 = .ok (.aload_n 0, 1) := by decide +kernel
theorem dX6_layTried_28 : decode cX6_layTried 28 = .ok (.getfield 219, 3) := by decide +kernel
theorem dX6_layTried_31 : decode cX6_layTried 31 = .ok (.iload_n 3, 1) := by decide +kernel
theorem dX6_layTried_32 : decode cX6_layTried 32 = .ok (.invokestatic 181, 3) := by decide +kernel
theorem dX6_layTried_35 : decode cX6_layTried 35 = .ok (.ifCond .eq 12, 3) := by decide +kernel
theorem dX6_layTried_38 : decode cX6_layTried 38 = .ok (.aload_n 0, 1) := by decide +kernel
theorem dX6_layTried_39 : decode cX6_layTried 39 = .ok (.iload_n 3, 1) := by decide +kernel
theorem dX6_layTried_40 : decode cX6_layTried 40 = .ok (.iload_n 1, 1) := by decide +kernel
theorem dX6_layTried_41 : decode cX6_layTried 41 = .ok (.invokevirtual 146, 3) := by decide +kernel
theorem dX6_layTried_44 : decode cX6_layTried 44 = .ok (.goto 4, 3) := by decide +kernel
theorem dX6_layTried_47 : decode cX6_layTried 47 = .ok (.iconst 0, 1) := by decide +kernel
theorem dX6_layTried_48 : decode cX6_layTried 48 = .ok (.iastore, 1) := by decide +kernel
theorem dX6_layTried_49 : decode cX6_layTried 49 = .ok (.aload_n 0, 1) := by decide +kernel
theorem dX6_layTried_50 : decode cX6_layTried 50 = .ok (.getfield 47, 3) := by decide +kernel
theorem dX6_layTried_53 : decode cX6_layTried 53 = .ok (.iload_n 3, 1) := by decide +kernel
theorem dX6_layTried_54 : decode cX6_layTried 54 = .ok (.aload_n 0, 1) := by decide +kernel
theorem dX6_layTried_55 : decode cX6_layTried 55 = .ok (.getfield 7, 3) := by decide +kernel
theorem dX6_layTried_58 : decode cX6_layTried 58 = .ok (.iconst 1, 1) := by decide +kernel
theorem dX6_layTried_59 : decode cX6_layTried 59 = .ok (.iload_n 3, 1) := by decide +kernel
theorem dX6_layTried_60 : decode cX6_layTried 60 = .ok (.iadd, 1) := by decide +kernel
theorem dX6_layTried_61 : decode cX6_layTried 61 = .ok (.iaload, 1) := by decide +kernel
theorem dX6_layTried_62 : decode cX6_layTried 62 = .ok (.iastore, 1) := by decide +kernel
theorem dX6_layTried_63 : decode cX6_layTried 63 = .ok (.iinc 3 1, 3) := by decide +kernel
theorem dX6_layTried_66 : decode cX6_layTried 66 = .ok (.goto (-52), 3) := by decide +kernel
theorem dX6_layTried_69 : decode cX6_layTried 69 = .ok (.return_, 1) := by decide +kernel
def p6_layTried_48 (k14 : Int32 → Int32 → SX → Option SX) (v1 : Int32) (v3 : Int32) (t1 : Int32) (t2 : Int32) (M : SX) : Option SX :=
  gd (bIn t1 6) ( lt_ (wI M 11 (Int32.toNatClampNeg t1) t2) (fun M2 => gd (bIn (1 + v3) 3964) ( gd (bIn v3 6) ( lt_ (wI M2 12 (Int32.toNatClampNeg v3) (M2.1 1 (Int32.toNatClampNeg (1 + v3)))) (fun M5 => lt_ (v3 + 1) (fun x6 => k14 v1 x6 M5))))))
set_option maxHeartbeats 4000000 in
set_option maxRecDepth 100000 in
theorem w6_layTried_48 {G : XG} {p : Program} {l : Launch} {e : Env} {s : State} {m : MethodId} {args : Array Value} {below : List Frame} {meth : Method} {c : Code} (F : Fx G ZY p m c cX6_layTried 4 s args RX6) (hr : meth.sig.returnType = none) (hk : meth.locks = false) {M' : SX} (k14 : Int32 → Int32 → SX → Option SX) (hk14 : ∀ (v1 : Int32) (v3 : Int32) (M : SX) (H : Heap) (locs : List Loc) (ls : Array Slot), Wld G ZY M s.heap H locs → lv_has ls 4 [(0, .ref (G.2.1 0)), (1, .int v1), (3, .int v3)] → k14 v1 v3 M = some M' → WXv G ZY p l e 2 s m args below meth c M' H locs (F0 m 14 ls [])) : ∀ (v1 : Int32) (v3 : Int32) (t1 : Int32) (t2 : Int32) (M : SX) (H : Heap) (locs : List Loc) (ls : Array Slot), Wld G ZY M s.heap H locs → lv_has ls 4 [(0, .ref (G.2.1 0)), (1, .int v1), (3, .int v3)] → p6_layTried_48 k14 v1 v3 t1 t2 M = some M' → WXv G ZY p l e 2 s m args below meth c M' H locs (F0 m 48 ls [.int t2, .int t1, .ref (G.2.1 11)]) := by
  intro v1 v3 t1 t2 M H locs ls hw hl hf
  have hx := F.1.1
  have hb := F.1.2.1
  unfold p6_layTried_48 at hf
  obtain ⟨g1, hf⟩ := gd_some hf
  refine x_iast F hw sM11 g1 dX6_layTried_48 (fun H locs hw => ?_)
  obtain ⟨M2, eM2, hf⟩ := lt_elim hf
  rw [← eM2] at hw
  refine lv_aload_n hx hb dX6_layTried_49 rfl (lv_at hl 0 rfl) ?_
  refine g6_21 F hw tw_655 dX6_layTried_50 ?_
  refine lv_iload_n hx hb dX6_layTried_53 rfl (lv_at hl 2 rfl) ?_
  refine lv_aload_n hx hb dX6_layTried_54 rfl (lv_at hl 0 rfl) ?_
  refine g6_0 F hw tw_610 dX6_layTried_55 ?_
  refine lv_iconst (v := 1) hx hb dX6_layTried_58 (by decide) ?_
  refine lv_iload_n hx hb dX6_layTried_59 rfl (lv_at hl 2 rfl) ?_
  refine lv_iadd hx hb dX6_layTried_60 ?_
  obtain ⟨g3, hf⟩ := gd_some hf
  refine x_iald F hw sM1 g3 dX6_layTried_61 ?_
  obtain ⟨g4, hf⟩ := gd_some hf
  refine x_iast F hw sM12 g4 dX6_layTried_62 (fun H locs hw => ?_)
  obtain ⟨M5, eM5, hf⟩ := lt_elim hf
  rw [← eM5] at hw
  obtain ⟨x6, ex6, hf⟩ := lt_elim hf
  refine lv_iinc (v := x6) (lv' := [(3, .int x6), (0, .ref (G.2.1 0)), (1, .int v1)]) hx hb dX6_layTried_63 hl (k := 2) rfl (by rw [ex6]; rfl) (by decide) rfl (fun ls hl => ?_)
  refine lv_goto (tgt := 14) hx hb dX6_layTried_66 (by decide) ?_
  exact hk14 v1 x6 M5 _ _ ls hw (lv_sub hl [1, 2, 0] rfl) hf
def p6_layTried_14 (k14 : Int32 → Int32 → SX → Option SX) (v1 : Int32) (v3 : Int32) (M : SX) : Option SX :=
  if (M.1 0 1) ≤ v3 then (some M)
  else (bd (p6_has (M.1 0 22) v3 M) (fun r4 M3 => if r4 = 0 then (p6_layTried_48 k14 v1 v3 v3 0 M3)
  else (bd (p6_dueIn v3 v1 M3) (fun r8 M7 => p6_layTried_48 k14 v1 v3 v3 r8 M7))))
set_option maxHeartbeats 4000000 in
set_option maxRecDepth 100000 in
theorem w6_layTried_14 {G : XG} {p : Program} {l : Launch} {e : Env} {s : State} {m : MethodId} {args : Array Value} {below : List Frame} {meth : Method} {c : Code} (F : Fx G ZY p m c cX6_layTried 4 s args RX6) (hr : meth.sig.returnType = none) (hk : meth.locks = false) {M' : SX} (k14 : Int32 → Int32 → SX → Option SX) (hk14 : ∀ (v1 : Int32) (v3 : Int32) (M : SX) (H : Heap) (locs : List Loc) (ls : Array Slot), Wld G ZY M s.heap H locs → lv_has ls 4 [(0, .ref (G.2.1 0)), (1, .int v1), (3, .int v3)] → k14 v1 v3 M = some M' → WXv G ZY p l e 2 s m args below meth c M' H locs (F0 m 14 ls [])) : ∀ (v1 : Int32) (v3 : Int32) (M : SX) (H : Heap) (locs : List Loc) (ls : Array Slot), Wld G ZY M s.heap H locs → lv_has ls 4 [(0, .ref (G.2.1 0)), (1, .int v1), (3, .int v3)] → p6_layTried_14 k14 v1 v3 M = some M' → WXv G ZY p l e 2 s m args below meth c M' H locs (F0 m 14 ls []) := by
  intro v1 v3 M H locs ls hw hl hf
  have hx := F.1.1
  have hb := F.1.2.1
  unfold p6_layTried_14 at hf
  refine lv_iload_n hx hb dX6_layTried_14 rfl (lv_at hl 2 rfl) ?_
  refine lv_aload_n hx hb dX6_layTried_15 rfl (lv_at hl 0 rfl) ?_
  refine g6_1 F hw tw_611 dX6_layTried_16 ?_
  refine lv_icmp_ge (tgt := 69) hx hb dX6_layTried_19 (by decide) (fun c1 => ?_) (fun c1 => ?_)
  · have hf := it_t hf c1
    exact x_vret F hw hr hk hf dX6_layTried_69
  · have hf := it_f hf c1
    refine lv_aload_n hx hb dX6_layTried_22 rfl (lv_at hl 0 rfl) ?_
    refine g6_20 F hw tw_654 dX6_layTried_23 ?_
    refine lv_iload_n hx hb dX6_layTried_26 rfl (lv_at hl 2 rfl) ?_
    refine lv_aload_n hx hb dX6_layTried_27 rfl (lv_at hl 0 rfl) ?_
    refine g6_22 F hw tw_745 dX6_layTried_28 ?_
    refine lv_iload_n hx hb dX6_layTried_31 rfl (lv_at hl 2 rfl) ?_
    obtain ⟨r4, M3, hc2, hf⟩ := bd_some hf
    refine x_aftI hw (x_runS (rest := [.int v3, .ref (G.2.1 11)]) F hw hl.1 sw_RX6_181 (c6_has (M.1 0 22) v3 hc2) rfl rfl (Nat.le_of_ble_eq_true rfl) ⟨Nat.le_of_ble_eq_true rfl, Nat.le_of_ble_eq_true rfl⟩ dX6_layTried_32) (fun H locs hw => ?_)
    refine lv_if_eq (tgt := 47) hx hb dX6_layTried_35 (by decide) (fun c5 => ?_) (fun c5 => ?_)
    · have hf := it_t hf c5
      refine lv_iconst (v := 0) hx hb dX6_layTried_47 (by decide) ?_
      exact w6_layTried_48 F hr hk k14 hk14 v1 v3 v3 0 M3 _ _ ls hw (lv_sub hl [0, 1, 2] rfl) hf
    · have hf := it_f hf c5
      refine lv_aload_n hx hb dX6_layTried_38 rfl (lv_at hl 0 rfl) ?_
      refine lv_iload_n hx hb dX6_layTried_39 rfl (lv_at hl 2 rfl) ?_
      refine lv_iload_n hx hb dX6_layTried_40 rfl (lv_at hl 1 rfl) ?_
      obtain ⟨r8, M7, hc6, hf⟩ := bd_some hf
      refine x_aftI hw (x_runV (rest := [.int v3, .ref (G.2.1 11)]) F hw hl.1 vw_RX6_146 (sM) rfl (c6_dueIn v3 v1 hc6) rfl rfl (Nat.le_of_ble_eq_true rfl) ⟨Nat.le_of_ble_eq_true rfl, Nat.le_of_ble_eq_true rfl⟩ dX6_layTried_41) (fun H locs hw => ?_)
      refine lv_goto (tgt := 48) hx hb dX6_layTried_44 (by decide) ?_
      exact w6_layTried_48 F hr hk k14 hk14 v1 v3 v3 r8 M7 _ _ ls hw (lv_sub hl [0, 1, 2] rfl) hf
theorem z6_layTried_14 {G : XG} {p : Program} {l : Launch} {e : Env} {s : State} {m : MethodId} {args : Array Value} {below : List Frame} {meth : Method} {c : Code} (F : Fx G ZY p m c cX6_layTried 4 s args RX6) (hr : meth.sig.returnType = none) (hk : meth.locks = false) {M' : SX} : ∀ n : Nat, ∀ (v1 : Int32) (v3 : Int32) (M : SX) (H : Heap) (locs : List Loc) (ls : Array Slot), Wld G ZY M s.heap H locs → lv_has ls 4 [(0, .ref (G.2.1 0)), (1, .int v1), (3, .int v3)] → xlp2 p6_layTried_14 n v1 v3 M = some M' → WXv G ZY p l e 2 s m args below meth c M' H locs (F0 m 14 ls []) := by
  intro n
  induction n with
  | zero => intro _ _ _ _ _ _ _ _ hf; cases hf
  | succ n ih => exact w6_layTried_14 F hr hk (xlp2 p6_layTried_14 n) ih
def p6_layTried (a1 : Int32) (a2 : Int32) (M : SX) : Option SX :=
  bd (p6_pawned M) (fun r3 M2 => lt_ (wI M2 0 22 (r3 &&& (a2 ^^^ (-1)))) (fun M4 => xlp2 p6_layTried_14 FU a1 0 M4))
set_option maxHeartbeats 4000000 in
set_option maxRecDepth 100000 in
theorem c6_layTried {l : Launch} {G : XG} {M' : SX} {M : SX} (a1 : Int32) (a2 : Int32) (hf : p6_layTried a1 a2 M = some M') : Met l yX6_layTried (.code yX6_layTried cX6_layTried 4 none :: TBL) (rmX 2) (xPc G ZY M [.ref (G.2.1 0), .int a1, .int a2]) (xQv G ZY M') 0 0 (inA G ZY) := by
  refine x_met (cc := cX6_layTried) (by decide) (Nat.le_of_ble_eq_true rfl) ?_
  intro p e s m below meth c ls F hr hk hl hw
  have F : Fx G ZY p m c cX6_layTried 4 s [.ref (G.2.1 0), .int a1, .int a2].toArray RX6 := F
  have hl : lv_has ls 4 [(0, .ref (G.2.1 0)), (1, .int a1), (2, .int a2)] := hl
  have hx := F.1.1
  have hb := F.1.2.1
  unfold p6_layTried at hf
  refine lv_aload_n hx hb dX6_layTried_0 rfl (lv_at hl 0 rfl) ?_
  refine lv_aload_n hx hb dX6_layTried_1 rfl (lv_at hl 0 rfl) ?_
  obtain ⟨r3, M2, hc1, hf⟩ := bd_some hf
  refine x_aftI hw (x_runV (rest := [.ref (G.2.1 0)]) F hw hl.1 vw_RX6_191 (sM) rfl (c6_pawned hc1) rfl rfl (Nat.le_of_ble_eq_true rfl) ⟨Nat.le_of_ble_eq_true rfl, Nat.le_of_ble_eq_true rfl⟩ dX6_layTried_2) (fun H locs hw => ?_)
  refine lv_iload_n hx hb dX6_layTried_5 rfl (lv_at hl 2 rfl) ?_
  refine lv_iconst (v := (-1)) hx hb dX6_layTried_6 (by decide) ?_
  refine lv_ixor hx hb dX6_layTried_7 ?_
  refine lv_iand hx hb dX6_layTried_8 ?_
  refine s6_22 F hw tw_745 dX6_layTried_9 (fun H locs hw => ?_)
  obtain ⟨M4, eM4, hf⟩ := lt_elim hf
  rw [← eM4] at hw
  refine lv_iconst (v := 0) hx hb dX6_layTried_12 (by decide) ?_
  refine lv_istore_n (lv' := [(3, .int 0), (0, .ref (G.2.1 0)), (1, .int a1), (2, .int a2)]) hx hb dX6_layTried_13 rfl hl (by decide) rfl (fun ls hl => ?_)
  exact z6_layTried_14 F hr hk FU a1 0 M4 _ _ ls hw (lv_sub hl [1, 2, 0] rfl) hf
