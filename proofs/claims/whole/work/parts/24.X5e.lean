theorem dX5_count_0 : decode cX5_count 0 = .ok (.iload_n 1, 1) := by decide +kernel
theorem dX5_count_1 : decode cX5_count 1 = .ok (.ifCond .lt 17, 3) := by decide +kernel
theorem dX5_count_4 : decode cX5_count 4 = .ok (.iload_n 1, 1) := by decide +kernel
theorem dX5_count_5 : decode cX5_count 5 = .ok (.bipush 9, 2) := by decide +kernel
theorem dX5_count_7 : decode cX5_count 7 = .ok (.if_icmp .ge 11, 3) := by decide +kernel
theorem dX5_count_10 : decode cX5_count 10 = .ok (.aload_n 0, 1) := by decide +kernel
theorem dX5_count_11 : decode cX5_count 11 = .ok (.iload_n 1, 1) := by decide +kernel
theorem dX5_count_12 : decode cX5_count 12 = .ok (.invokevirtual 285, 3) := by decide +kernel
theorem dX5_count_15 : decode cX5_count 15 = .ok (.goto 4, 3) := by decide +kernel
theorem dX5_count_18 : decode cX5_count 18 = .ok (.iconst (-1), 1) := by decide +kernel
theorem dX5_count_19 : decode cX5_count 19 = .ok (.ireturn, 1) := by decide +kernel
def p5_count (a1 : Int32) (M : SX) : Option (Int32 × SX) :=
  if a1 < 0 then (some ((-1), M))
  else (if (9 : Int32) ≤ a1 then (some ((-1), M))
  else (bd (p5_counted a1 M) (fun r5 M4 => some (r5, M4))))
set_option maxHeartbeats 4000000 in
set_option maxRecDepth 100000 in
theorem c5_count {l : Launch} {G : XG} {r : Int32} {M' : SX} {M : SX} (a1 : Int32) (hf : p5_count a1 M = some (r, M')) : Met l yX5_count (.code yX5_count cX5_count 2 (some .int) :: TBL) (rmX 5) (xPc G ZX M [.ref (G.2.1 0), .int a1]) (xQi G ZX r M') 0 0 (inA G ZX) := by
  refine x_met (cc := cX5_count) (by decide) (Nat.le_of_ble_eq_true rfl) ?_
  intro p e s m below meth c ls F hr hk hl hw
  have F : Fx G ZX p m c cX5_count 2 s [.ref (G.2.1 0), .int a1].toArray RX5 := F
  have hl : lv_has ls 2 [(0, .ref (G.2.1 0)), (1, .int a1)] := hl
  have hx := F.1.1
  have hb := F.1.2.1
  unfold p5_count at hf
  refine lv_iload_n hx hb dX5_count_0 rfl (lv_at hl 1 rfl) ?_
  refine lv_if_lt (tgt := 18) hx hb dX5_count_1 (by decide) (fun c1 => ?_) (fun c1 => ?_)
  · have hf := it_t hf c1
    refine lv_iconst (v := (-1)) hx hb dX5_count_18 (by decide) ?_
    exact x_iret F hw hr hk hf dX5_count_19
  · have hf := it_f hf c1
    refine lv_iload_n hx hb dX5_count_4 rfl (lv_at hl 1 rfl) ?_
    refine lv_bipush (v := 9) hx hb dX5_count_5 (by decide) ?_
    refine lv_icmp_ge (tgt := 18) hx hb dX5_count_7 (by decide) (fun c2 => ?_) (fun c2 => ?_)
    · have hf := it_t hf c2
      refine lv_iconst (v := (-1)) hx hb dX5_count_18 (by decide) ?_
      exact x_iret F hw hr hk hf dX5_count_19
    · have hf := it_f hf c2
      refine lv_aload_n hx hb dX5_count_10 rfl (lv_at hl 0 rfl) ?_
      refine lv_iload_n hx hb dX5_count_11 rfl (lv_at hl 1 rfl) ?_
      obtain ⟨r5, M4, hc3, hf⟩ := bd_some hf
      refine x_aftI hw (x_runV (rest := []) F hw hl.1 vw_RX5_285 (sP) rfl (c5_counted a1 hc3) rfl rfl (Nat.le_of_ble_eq_true rfl) ⟨Nat.le_of_ble_eq_true rfl, Nat.le_of_ble_eq_true rfl⟩ dX5_count_12) (fun H locs hw => ?_)
      refine lv_goto (tgt := 19) hx hb dX5_count_15 (by decide) ?_
      exact x_iret F hw hr hk hf dX5_count_19
theorem dX5_digest_0 : decode cX5_digest 0 = .ok (.ldc2_w 288, 3) := by decide +kernel
theorem dX5_digest_3 : decode cX5_digest 3 = .ok (.lstore_n 1, 1) := by decide +kernel
theorem dX5_digest_4 : decode cX5_digest 4 = .ok (.iconst 0, 1) := by decide +kernel
theorem dX5_digest_5 : decode cX5_digest 5 = .ok (.istore_n 3, 1) := by decide +kernel
theorem dX5_digest_6 : decode cX5_digest 6 = .ok (.iload_n 3, 1) := by decide +kernel
theorem dX5_digest_7 : decode cX5_digest 7 = .ok (.bipush 9, 2) := by decide +kernel
theorem dX5_digest_9 : decode cX5_digest 9 = .ok (.if_icmp .ge 22, 3) := by decide +kernel
theorem dX5_digest_12 : decode cX5_digest 12 = .ok (.ldc2_w 290, 3) := by decide +kernel
theorem dX5_digest_15 : decode cX5_digest 15 = .ok (.lload_n 1, 1) := by decide +kernel
theorem dX5_digest_16 : decode cX5_digest 16 = .ok (.lmul, 1) := by decide +kernel
theorem dX5_digest_17 : decode cX5_digest 17 = .ok (.aload_n 0, 1) := by decide +kernel
theorem dX5_digest_18 : decode cX5_digest 18 = .ok (.iload_n 3, 1) := by decide +kernel
theorem dX5_digest_19 : decode cX5_digest 19 = .ok (.invokevirtual 285, 3) := by decide +kernel
theorem dX5_digest_22 : decode cX5_digest 22 = .ok (.i2l, 1) := by decide +kernel
theorem dX5_digest_23 : decode cX5_digest 23 = .ok (.ladd, 1) := by decide +kernel
theorem dX5_digest_24 : decode cX5_digest 24 = .ok (.lstore_n 1, 1) := by decide +kernel
theorem dX5_digest_25 : decode cX5_digest 25 = .ok (.iinc 3 1, 3) := by decide +kernel
theorem dX5_digest_28 : decode cX5_digest 28 = .ok (.goto (-22), 3) := by decide +kernel
theorem dX5_digest_31 : decode cX5_digest 31 = .ok (.iconst 0, 1) := by decide +kernel
theorem dX5_digest_32 : decode cX5_digest 32 = .ok (.istore_n 3, 1) := by decide +kernel
theorem dX5_digest_33 : decode cX5_digest 33 = .ok (.iload_n 3, 1) := by decide +kernel
theorem dX5_digest_34 : decode cX5_digest 34 = .ok (.aload_n 0, 1) := by decide +kernel
theorem dX5_digest_35 : decode cX5_digest 35 = .ok (.getfield 31, 3) := by decide +kernel
theorem dX5_digest_38 : decode cX5_digest 38 = .ok (.getfield 126, 3) := by decide +kernel
theorem dX5_digest_41 : decode cX5_digest 41 = .ok (.if_icmp .ge 40, 3) := by decide +kernel
theorem dX5_digest_44 : decode cX5_digest 44 = .ok (.iconst 0, 1) := by decide +kernel
theorem dX5_digest_45 : decode cX5_digest 45 = .ok (.istore 4, 2) := by decide +kernel
theorem dX5_digest_47 : decode cX5_digest 47 = .ok (.iload 4, 2) := by decide +kernel
theorem dX5_digest_49 : decode cX5_digest 49 = .ok (.bipush 7, 2) := by decide +kernel
theorem dX5_digest_51 : decode cX5_digest 51 = .ok (.if_icmp .ge 24, 3) := by decide +kernel
theorem dX5_digest_54 : decode cX5_digest 54 = .ok (.ldc2_w 290, 3) := by decide +kernel
theorem dX5_digest_57 : decode cX5_digest 57 = .ok (.lload_n 1, 1) := by decide +kernel
theorem dX5_digest_58 : decode cX5_digest 58 = .ok (.lmul, 1) := by decide +kernel
theorem dX5_digest_59 : decode cX5_digest 59 = .ok (.aload_n 0, 1) := by decide +kernel
theorem dX5_digest_60 : decode cX5_digest 60 = .ok (.iload_n 3, 1) := by decide +kernel
theorem dX5_digest_61 : decode cX5_digest 61 = .ok (.iload 4, 2) := by decide +kernel
theorem dX5_digest_63 : decode cX5_digest 63 = .ok (.invokevirtual 132, 3) := by decide +kernel
theorem dX5_digest_66 : decode cX5_digest 66 = .ok (.i2l, 1) := by decide +kernel
theorem dX5_digest_67 : decode cX5_digest 67 = .ok (.ladd, 1) := by decide +kernel
theorem dX5_digest_68 : decode cX5_digest 68 = .ok (.lstore_n 1, 1) := by decide +kernel
theorem dX5_digest_69 : decode cX5_digest 69 = .ok (.iinc 4 1, 3) := by decide +kernel
theorem dX5_digest_72 : decode cX5_digest 72 = .ok (.goto (-25), 3) := by decide +kernel
theorem dX5_digest_75 : decode cX5_digest 75 = .ok (.iinc 3 1, 3) := by decide +kernel
theorem dX5_digest_78 : decode cX5_digest 78 = .ok (.goto (-45), 3) := by decide +kernel
theorem dX5_digest_81 : decode cX5_digest 81 = .ok (.iconst 0, 1) := by decide +kernel
theorem dX5_digest_82 : decode cX5_digest 82 = .ok (.istore_n 3, 1) := by decide +kernel
theorem dX5_digest_83 : decode cX5_digest 83 = .ok (.iload_n 3, 1) := by decide +kernel
theorem dX5_digest_84 : decode cX5_digest 84 = .ok (.iconst 3, 1) := by decide +kernel
theorem dX5_digest_85 : decode cX5_digest 85 = .ok (.if_icmp .ge 45, 3) := by decide +kernel
theorem dX5_digest_88 : decode cX5_digest 88 = .ok (.ldc2_w 290, 3) := by decide +kernel
theorem dX5_digest_91 : decode cX5_digest 91 = .ok (.lload_n 1, 1) := by decide +kernel
theorem dX5_digest_92 : decode cX5_digest 92 = .ok (.lmul, 1) := by decide +kernel
theorem dX5_digest_93 : decode cX5_digest 93 = .ok (.aload_n 0, 1) := by decide +kernel
theorem dX5_digest_94 : decode cX5_digest 94 = .ok (.getfield 35, 3) := by decide +kernel
theorem dX5_digest_97 : decode cX5_digest 97 = .ok (.iload_n 3, 1) := by decide +kernel
theorem dX5_digest_98 : decode cX5_digest 98 = .ok (.aaload, 1) := by decide +kernel
theorem dX5_digest_99 : decode cX5_digest 99 = .ok (.getfield 126, 3) := by decide +kernel
theorem dX5_digest_102 : decode cX5_digest 102 = .ok (.ifCond .ne 7, 3) := by decide +kernel
theorem dX5_digest_105 : decode cX5_digest 105 = .ok (.iconst (-1), 1) := by decide +kernel
theorem dX5_digest_106 : decode cX5_digest 106 = .ok (.goto 15, 3) := by decide +kernel
theorem dX5_digest_109 : decode cX5_digest 109 = .ok (.aload_n 0, 1) := by decide +kernel
theorem dX5_digest_110 : decode cX5_digest 110 = .ok (.getfield 35, 3) := by decide +kernel
theorem dX5_digest_113 : decode cX5_digest 113 = .ok (.iload_n 3, 1) := by decide +kernel
theorem dX5_digest_114 : decode cX5_digest 114 = .ok (.aaload, 1) := by decide +kernel
theorem dX5_digest_115 : decode cX5_digest 115 = .ok (.getfield 163, 3) := by decide +kernel
theorem dX5_digest_118 : decode cX5_digest 118 = .ok (.getfield 167, 3) := by decide +kernel
theorem dX5_digest_121 : decode cX5_digest 121 = .ok (.i2l, 1) := by decide +kernel
theorem dX5_digest_122 : decode cX5_digest 122 = .ok (.ladd, 1) := by decide +kernel
theorem dX5_digest_123 : decode cX5_digest 123 = .ok (.lstore_n 1, 1) := by decide +kernel
theorem dX5_digest_124 : decode cX5_digest 124 = .ok (.iinc 3 1, 3) := by decide +kernel
theorem dX5_digest_127 : decode cX5_digest 127 = .ok (.goto (-44), 3) := by decide +kernel
theorem dX5_digest_130 : decode cX5_digest 130 = .ok (.aload_n 0, 1) := by decide +kernel
theorem dX5_digest_131 : decode cX5_digest 131 = .ok (.getfield 18, 3) := by decide +kernel
theorem dX5_digest_134 : decode cX5_digest 134 = .ok (.aload_n 0, 1) := by decide +kernel
theorem dX5_digest_135 : decode cX5_digest 135 = .ok (.getfield 14, 3) := by decide +kernel
theorem dX5_digest_138 : decode cX5_digest 138 = .ok (.lload_n 1, 1) := by decide +kernel
theorem dX5_digest_139 : decode cX5_digest 139 = .ok (.invokevirtual 292, 3) := by decide +kernel
theorem dX5_digest_142 : decode cX5_digest 142 = .ok (.invokevirtual 292, 3) := by decide +kernel
theorem dX5_digest_145 : decode cX5_digest 145 = .ok (.lreturn, 1) := by decide +kernel
def p5_digest_121 (k83 : Int64 → Int32 → SX → Option (Int64 × SX)) (v3 : Int32) (t0 : Int64) (t1 : Int32) (M : SX) : Option (Int64 × SX) :=
  lt_ (t0 + (Int32.toInt64 t1)) (fun x1 => lt_ (v3 + 1) (fun x2 => k83 x1 x2 M))
set_option maxHeartbeats 4000000 in
set_option maxRecDepth 100000 in
theorem w5_digest_121 {G : XG} {p : Program} {l : Launch} {e : Env} {s : State} {m : MethodId} {args : Array Value} {below : List Frame} {meth : Method} {c : Code} (F : Fx G ZX p m c cX5_digest 5 s args RX5) (hr : meth.sig.returnType = some .long) (hk : meth.locks = false) {r : Int64} {M' : SX} (k83 : Int64 → Int32 → SX → Option (Int64 × SX)) (hk83 : ∀ (v1 : Int64) (v3 : Int32) (M : SX) (H : Heap) (locs : List Loc) (ls : Array Slot), Wld G ZX M s.heap H locs → lv_has ls 5 [(0, .ref (G.2.1 0)), (1, .long v1), (3, .int v3)] → k83 v1 v3 M = some (r, M') → WXl G ZX p l e 5 s m args below meth c r M' H locs (F0 m 83 ls [])) : ∀ (v3 : Int32) (t0 : Int64) (t1 : Int32) (M : SX) (H : Heap) (locs : List Loc) (ls : Array Slot), Wld G ZX M s.heap H locs → lv_has ls 5 [(0, .ref (G.2.1 0)), (3, .int v3)] → p5_digest_121 k83 v3 t0 t1 M = some (r, M') → WXl G ZX p l e 5 s m args below meth c r M' H locs (F0 m 121 ls [.int t1, .long t0]) := by
  intro v3 t0 t1 M H locs ls hw hl hf
  have hx := F.1.1
  have hb := F.1.2.1
  unfold p5_digest_121 at hf
  refine lv_i2l (v := Int32.toInt64 t1) hx hb dX5_digest_121 rfl ?_
  refine lv_ladd hx hb dX5_digest_122 ?_
  obtain ⟨x1, ex1, hf⟩ := lt_elim hf
  refine x_letL ex1 ?_
  refine lv_lstore_n (lv' := [(1, .long x1), (0, .ref (G.2.1 0)), (3, .int v3)]) hx hb dX5_digest_123 rfl hl (by decide) rfl (fun ls hl => ?_)
  obtain ⟨x2, ex2, hf⟩ := lt_elim hf
  refine lv_iinc (v := x2) (lv' := [(3, .int x2), (1, .long x1), (0, .ref (G.2.1 0))]) hx hb dX5_digest_124 hl (k := 2) rfl (by rw [ex2]; rfl) (by decide) rfl (fun ls hl => ?_)
  refine lv_goto (tgt := 83) hx hb dX5_digest_127 (by decide) ?_
  exact hk83 x1 x2 M _ _ ls hw (lv_sub hl [2, 1, 0] rfl) hf
def p5_digest_83 (k83 : Int64 → Int32 → SX → Option (Int64 × SX)) (v1 : Int64) (v3 : Int32) (M : SX) : Option (Int64 × SX) :=
  if (3 : Int32) ≤ v3 then (bd (p4_digestOnto 1 v1 M) (fun r4 M3 => bd (p4_digestOnto 4 r4 M3) (fun r7 M6 => some (r7, M6))))
  else (gd (bIn v3 3) ( if (M.1 (27 + 9 * Int32.toNatClampNeg v3) 0) = 0 then (p5_digest_121 k83 v3 (31 * v1) (-1) M)
  else (p5_digest_121 k83 v3 (31 * v1) (M.1 (27 + 9 * Int32.toNatClampNeg v3 + 7) 1) M)))
set_option maxHeartbeats 4000000 in
set_option maxRecDepth 100000 in
theorem w5_digest_83 {G : XG} {p : Program} {l : Launch} {e : Env} {s : State} {m : MethodId} {args : Array Value} {below : List Frame} {meth : Method} {c : Code} (F : Fx G ZX p m c cX5_digest 5 s args RX5) (hr : meth.sig.returnType = some .long) (hk : meth.locks = false) {r : Int64} {M' : SX} (k83 : Int64 → Int32 → SX → Option (Int64 × SX)) (hk83 : ∀ (v1 : Int64) (v3 : Int32) (M : SX) (H : Heap) (locs : List Loc) (ls : Array Slot), Wld G ZX M s.heap H locs → lv_has ls 5 [(0, .ref (G.2.1 0)), (1, .long v1), (3, .int v3)] → k83 v1 v3 M = some (r, M') → WXl G ZX p l e 5 s m args below meth c r M' H locs (F0 m 83 ls [])) : ∀ (v1 : Int64) (v3 : Int32) (M : SX) (H : Heap) (locs : List Loc) (ls : Array Slot), Wld G ZX M s.heap H locs → lv_has ls 5 [(0, .ref (G.2.1 0)), (1, .long v1), (3, .int v3)] → p5_digest_83 k83 v1 v3 M = some (r, M') → WXl G ZX p l e 5 s m args below meth c r M' H locs (F0 m 83 ls []) := by
  intro v1 v3 M H locs ls hw hl hf
  have hx := F.1.1
  have hb := F.1.2.1
  unfold p5_digest_83 at hf
  refine lv_iload_n hx hb dX5_digest_83 rfl (lv_at hl 2 rfl) ?_
  refine lv_iconst (v := 3) hx hb dX5_digest_84 (by decide) ?_
  refine lv_icmp_ge (tgt := 130) hx hb dX5_digest_85 (by decide) (fun c1 => ?_) (fun c1 => ?_)
  · have hf := it_t hf c1
    refine lv_aload_n hx hb dX5_digest_130 rfl (lv_at hl 0 rfl) ?_
    refine g5_1 F hw tw_367 dX5_digest_131 ?_
    refine lv_aload_n hx hb dX5_digest_134 rfl (lv_at hl 0 rfl) ?_
    refine g5_0 F hw tw_334 dX5_digest_135 ?_
    refine lv_lload_n hx hb dX5_digest_138 rfl (lv_at hl 1 rfl) ?_
    obtain ⟨r4, M3, hc2, hf⟩ := bd_some hf
    refine x_aftL hw (x_runV (rest := [.ref (G.2.1 4)]) F hw hl.1 vw_RX5_292 (sS isS_1) rfl (c4_digestOnto 1 isS_1 v1 hc2) rfl rfl (Nat.le_of_ble_eq_true rfl) ⟨Nat.le_of_ble_eq_true rfl, Nat.le_of_ble_eq_true rfl⟩ dX5_digest_139) (fun H locs hw => ?_)
    obtain ⟨r7, M6, hc5, hf⟩ := bd_some hf
    refine x_aftL hw (x_runV (rest := []) F hw hl.1 vw_RX5_292 (sS isS_4) rfl (c4_digestOnto 4 isS_4 r4 hc5) rfl rfl (Nat.le_of_ble_eq_true rfl) ⟨Nat.le_of_ble_eq_true rfl, Nat.le_of_ble_eq_true rfl⟩ dX5_digest_142) (fun H locs hw => ?_)
    exact x_lret F hw hr hk hf dX5_digest_145
  · have hf := it_f hf c1
    refine lv_ldc2 (v := 31) hx hb F.1.2.2.2.1 (F.1.2.2.2.2 _ tw_567) dX5_digest_88 ?_
    refine lv_lload_n hx hb dX5_digest_91 rfl (lv_at hl 1 rfl) ?_
    refine lv_lmul hx hb dX5_digest_92 ?_
    refine lv_aload_n hx hb dX5_digest_93 rfl (lv_at hl 0 rfl) ?_
    refine g5_4 F hw tw_304 dX5_digest_94 ?_
    refine lv_iload_n hx hb dX5_digest_97 rfl (lv_at hl 2 rfl) ?_
    obtain ⟨g8, hf⟩ := gd_some hf
    refine x_aald F hw sP26 g8 dX5_digest_98 ?_
    refine g1_0 (isL_k g8) F hw tw_305 dX5_digest_99 ?_
    refine lv_if_ne (tgt := 109) hx hb dX5_digest_102 (by decide) (fun c9 => ?_) (fun c9 => ?_)
    · have hf := it_f hf c9
      refine lv_aload_n hx hb dX5_digest_109 rfl (lv_at hl 0 rfl) ?_
      refine g5_4 F hw tw_304 dX5_digest_110 ?_
      refine lv_iload_n hx hb dX5_digest_113 rfl (lv_at hl 2 rfl) ?_
      refine x_aald F hw sP26 g8 dX5_digest_114 ?_
      refine g1_7 (isL_k g8) F hw tw_309 dX5_digest_115 ?_
      refine g0_1 (isD_of (isL_k g8)) F hw tw_310 dX5_digest_118 ?_
      exact w5_digest_121 F hr hk k83 hk83 v3 (31 * v1) (M.1 (27 + 9 * Int32.toNatClampNeg v3 + 7) 1) M _ _ ls hw (lv_sub hl [0, 2] rfl) hf
    · have hf := it_t hf c9
      refine lv_iconst (v := (-1)) hx hb dX5_digest_105 (by decide) ?_
      refine lv_goto (tgt := 121) hx hb dX5_digest_106 (by decide) ?_
      exact w5_digest_121 F hr hk k83 hk83 v3 (31 * v1) (-1) M _ _ ls hw (lv_sub hl [0, 2] rfl) hf
theorem z5_digest_83 {G : XG} {p : Program} {l : Launch} {e : Env} {s : State} {m : MethodId} {args : Array Value} {below : List Frame} {meth : Method} {c : Code} (F : Fx G ZX p m c cX5_digest 5 s args RX5) (hr : meth.sig.returnType = some .long) (hk : meth.locks = false) {r : Int64} {M' : SX} : ∀ n : Nat, ∀ (v1 : Int64) (v3 : Int32) (M : SX) (H : Heap) (locs : List Loc) (ls : Array Slot), Wld G ZX M s.heap H locs → lv_has ls 5 [(0, .ref (G.2.1 0)), (1, .long v1), (3, .int v3)] → xlp2 p5_digest_83 n v1 v3 M = some (r, M') → WXl G ZX p l e 5 s m args below meth c r M' H locs (F0 m 83 ls []) := by
  intro n
  induction n with
  | zero => intro _ _ _ _ _ _ _ _ hf; cases hf
  | succ n ih => exact w5_digest_83 F hr hk (xlp2 p5_digest_83 n) ih
def p5_digest_47 (k33 : Int64 → Int32 → SX → Option (Int64 × SX)) (k47 : Int64 → Int32 → Int32 → SX → Option (Int64 × SX)) (v1 : Int64) (v3 : Int32) (v4 : Int32) (M : SX) : Option (Int64 × SX) :=
  if (7 : Int32) ≤ v4 then (lt_ (v3 + 1) (fun x2 => k33 v1 x2 M))
  else (bd (p5_toldOfShop v3 v4 M) (fun r5 M4 => lt_ ((31 * v1) + (Int32.toInt64 r5)) (fun x6 => lt_ (v4 + 1) (fun x7 => k47 x6 v3 x7 M4))))
set_option maxHeartbeats 4000000 in
set_option maxRecDepth 100000 in
theorem w5_digest_47 {G : XG} {p : Program} {l : Launch} {e : Env} {s : State} {m : MethodId} {args : Array Value} {below : List Frame} {meth : Method} {c : Code} (F : Fx G ZX p m c cX5_digest 5 s args RX5) (hr : meth.sig.returnType = some .long) (hk : meth.locks = false) {r : Int64} {M' : SX} (k33 : Int64 → Int32 → SX → Option (Int64 × SX)) (hk33 : ∀ (v1 : Int64) (v3 : Int32) (M : SX) (H : Heap) (locs : List Loc) (ls : Array Slot), Wld G ZX M s.heap H locs → lv_has ls 5 [(0, .ref (G.2.1 0)), (1, .long v1), (3, .int v3)] → k33 v1 v3 M = some (r, M') → WXl G ZX p l e 5 s m args below meth c r M' H locs (F0 m 33 ls [])) (k47 : Int64 → Int32 → Int32 → SX → Option (Int64 × SX)) (hk47 : ∀ (v1 : Int64) (v3 : Int32) (v4 : Int32) (M : SX) (H : Heap) (locs : List Loc) (ls : Array Slot), Wld G ZX M s.heap H locs → lv_has ls 5 [(0, .ref (G.2.1 0)), (1, .long v1), (3, .int v3), (4, .int v4)] → k47 v1 v3 v4 M = some (r, M') → WXl G ZX p l e 5 s m args below meth c r M' H locs (F0 m 47 ls [])) : ∀ (v1 : Int64) (v3 : Int32) (v4 : Int32) (M : SX) (H : Heap) (locs : List Loc) (ls : Array Slot), Wld G ZX M s.heap H locs → lv_has ls 5 [(0, .ref (G.2.1 0)), (1, .long v1), (3, .int v3), (4, .int v4)] → p5_digest_47 k33 k47 v1 v3 v4 M = some (r, M') → WXl G ZX p l e 5 s m args below meth c r M' H locs (F0 m 47 ls []) := by
  intro v1 v3 v4 M H locs ls hw hl hf
  have hx := F.1.1
  have hb := F.1.2.1
  unfold p5_digest_47 at hf
  refine lv_iload hx hb dX5_digest_47 (lv_at hl 3 rfl) ?_
  refine lv_bipush (v := 7) hx hb dX5_digest_49 (by decide) ?_
  refine lv_icmp_ge (tgt := 75) hx hb dX5_digest_51 (by decide) (fun c1 => ?_) (fun c1 => ?_)
  · have hf := it_t hf c1
    obtain ⟨x2, ex2, hf⟩ := lt_elim hf
    refine lv_iinc (v := x2) (lv' := [(3, .int x2), (0, .ref (G.2.1 0)), (1, .long v1), (4, .int v4)]) hx hb dX5_digest_75 hl (k := 2) rfl (by rw [ex2]; rfl) (by decide) rfl (fun ls hl => ?_)
    refine lv_goto (tgt := 33) hx hb dX5_digest_78 (by decide) ?_
    exact hk33 v1 x2 M _ _ ls hw (lv_sub hl [1, 2, 0] rfl) hf
  · have hf := it_f hf c1
    refine lv_ldc2 (v := 31) hx hb F.1.2.2.2.1 (F.1.2.2.2.2 _ tw_567) dX5_digest_54 ?_
    refine lv_lload_n hx hb dX5_digest_57 rfl (lv_at hl 1 rfl) ?_
    refine lv_lmul hx hb dX5_digest_58 ?_
    refine lv_aload_n hx hb dX5_digest_59 rfl (lv_at hl 0 rfl) ?_
    refine lv_iload_n hx hb dX5_digest_60 rfl (lv_at hl 2 rfl) ?_
    refine lv_iload hx hb dX5_digest_61 (lv_at hl 3 rfl) ?_
    obtain ⟨r5, M4, hc3, hf⟩ := bd_some hf
    refine x_aftI hw (x_runV (rest := [.long (31 * v1)]) F hw hl.1 vw_RX5_132 (sP) rfl (c5_toldOfShop v3 v4 hc3) rfl rfl (Nat.le_of_ble_eq_true rfl) ⟨Nat.le_of_ble_eq_true rfl, Nat.le_of_ble_eq_true rfl⟩ dX5_digest_63) (fun H locs hw => ?_)
    refine lv_i2l (v := Int32.toInt64 r5) hx hb dX5_digest_66 rfl ?_
    refine lv_ladd hx hb dX5_digest_67 ?_
    obtain ⟨x6, ex6, hf⟩ := lt_elim hf
    refine x_letL ex6 ?_
    refine lv_lstore_n (lv' := [(1, .long x6), (0, .ref (G.2.1 0)), (3, .int v3), (4, .int v4)]) hx hb dX5_digest_68 rfl hl (by decide) rfl (fun ls hl => ?_)
    obtain ⟨x7, ex7, hf⟩ := lt_elim hf
    refine lv_iinc (v := x7) (lv' := [(4, .int x7), (1, .long x6), (0, .ref (G.2.1 0)), (3, .int v3)]) hx hb dX5_digest_69 hl (k := 3) rfl (by rw [ex7]; rfl) (by decide) rfl (fun ls hl => ?_)
    refine lv_goto (tgt := 47) hx hb dX5_digest_72 (by decide) ?_
    exact hk47 x6 v3 x7 M4 _ _ ls hw (lv_sub hl [2, 1, 3, 0] rfl) hf
theorem z5_digest_47 {G : XG} {p : Program} {l : Launch} {e : Env} {s : State} {m : MethodId} {args : Array Value} {below : List Frame} {meth : Method} {c : Code} (F : Fx G ZX p m c cX5_digest 5 s args RX5) (hr : meth.sig.returnType = some .long) (hk : meth.locks = false) {r : Int64} {M' : SX} (k33 : Int64 → Int32 → SX → Option (Int64 × SX)) (hk33 : ∀ (v1 : Int64) (v3 : Int32) (M : SX) (H : Heap) (locs : List Loc) (ls : Array Slot), Wld G ZX M s.heap H locs → lv_has ls 5 [(0, .ref (G.2.1 0)), (1, .long v1), (3, .int v3)] → k33 v1 v3 M = some (r, M') → WXl G ZX p l e 5 s m args below meth c r M' H locs (F0 m 33 ls [])) : ∀ n : Nat, ∀ (v1 : Int64) (v3 : Int32) (v4 : Int32) (M : SX) (H : Heap) (locs : List Loc) (ls : Array Slot), Wld G ZX M s.heap H locs → lv_has ls 5 [(0, .ref (G.2.1 0)), (1, .long v1), (3, .int v3), (4, .int v4)] → xlp3 (p5_digest_47 k33) n v1 v3 v4 M = some (r, M') → WXl G ZX p l e 5 s m args below meth c r M' H locs (F0 m 47 ls []) := by
  intro n
  induction n with
  | zero => intro _ _ _ _ _ _ _ _ _ hf; cases hf
  | succ n ih => exact w5_digest_47 F hr hk k33 hk33 (xlp3 (p5_digest_47 k33) n) ih
def p5_digest_33 (k33 : Int64 → Int32 → SX → Option (Int64 × SX)) (v1 : Int64) (v3 : Int32) (M : SX) : Option (Int64 × SX) :=
  if (M.1 17 0) ≤ v3 then (xlp2 p5_digest_83 FU v1 0 M)
  else (xlp3 (p5_digest_47 k33) FU v1 v3 0 M)
set_option maxHeartbeats 4000000 in
set_option maxRecDepth 100000 in
theorem w5_digest_33 {G : XG} {p : Program} {l : Launch} {e : Env} {s : State} {m : MethodId} {args : Array Value} {below : List Frame} {meth : Method} {c : Code} (F : Fx G ZX p m c cX5_digest 5 s args RX5) (hr : meth.sig.returnType = some .long) (hk : meth.locks = false) {r : Int64} {M' : SX} (k33 : Int64 → Int32 → SX → Option (Int64 × SX)) (hk33 : ∀ (v1 : Int64) (v3 : Int32) (M : SX) (H : Heap) (locs : List Loc) (ls : Array Slot), Wld G ZX M s.heap H locs → lv_has ls 5 [(0, .ref (G.2.1 0)), (1, .long v1), (3, .int v3)] → k33 v1 v3 M = some (r, M') → WXl G ZX p l e 5 s m args below meth c r M' H locs (F0 m 33 ls [])) : ∀ (v1 : Int64) (v3 : Int32) (M : SX) (H : Heap) (locs : List Loc) (ls : Array Slot), Wld G ZX M s.heap H locs → lv_has ls 5 [(0, .ref (G.2.1 0)), (1, .long v1), (3, .int v3)] → p5_digest_33 k33 v1 v3 M = some (r, M') → WXl G ZX p l e 5 s m args below meth c r M' H locs (F0 m 33 ls []) := by
  intro v1 v3 M H locs ls hw hl hf
  have hx := F.1.1
  have hb := F.1.2.1
  unfold p5_digest_33 at hf
  refine lv_iload_n hx hb dX5_digest_33 rfl (lv_at hl 2 rfl) ?_
  refine lv_aload_n hx hb dX5_digest_34 rfl (lv_at hl 0 rfl) ?_
  refine g5_3 F hw tw_306 dX5_digest_35 ?_
  refine g1_0 isL_17 F hw tw_305 dX5_digest_38 ?_
  refine lv_icmp_ge (tgt := 81) hx hb dX5_digest_41 (by decide) (fun c1 => ?_) (fun c1 => ?_)
  · have hf := it_t hf c1
    refine lv_iconst (v := 0) hx hb dX5_digest_81 (by decide) ?_
    refine lv_istore_n (lv' := [(3, .int 0), (0, .ref (G.2.1 0)), (1, .long v1)]) hx hb dX5_digest_82 rfl hl (by decide) rfl (fun ls hl => ?_)
    exact z5_digest_83 F hr hk FU v1 0 M _ _ ls hw (lv_sub hl [1, 2, 0] rfl) hf
  · have hf := it_f hf c1
    refine lv_iconst (v := 0) hx hb dX5_digest_44 (by decide) ?_
    refine lv_istore (lv' := [(4, .int 0), (0, .ref (G.2.1 0)), (1, .long v1), (3, .int v3)]) hx hb dX5_digest_45 hl (by decide) rfl (fun ls hl => ?_)
    exact z5_digest_47 F hr hk k33 hk33 FU v1 v3 0 M _ _ ls hw (lv_sub hl [1, 2, 3, 0] rfl) hf
theorem z5_digest_33 {G : XG} {p : Program} {l : Launch} {e : Env} {s : State} {m : MethodId} {args : Array Value} {below : List Frame} {meth : Method} {c : Code} (F : Fx G ZX p m c cX5_digest 5 s args RX5) (hr : meth.sig.returnType = some .long) (hk : meth.locks = false) {r : Int64} {M' : SX} : ∀ n : Nat, ∀ (v1 : Int64) (v3 : Int32) (M : SX) (H : Heap) (locs : List Loc) (ls : Array Slot), Wld G ZX M s.heap H locs → lv_has ls 5 [(0, .ref (G.2.1 0)), (1, .long v1), (3, .int v3)] → xlp2 p5_digest_33 n v1 v3 M = some (r, M') → WXl G ZX p l e 5 s m args below meth c r M' H locs (F0 m 33 ls []) := by
  intro n
  induction n with
  | zero => intro _ _ _ _ _ _ _ _ hf; cases hf
  | succ n ih => exact w5_digest_33 F hr hk (xlp2 p5_digest_33 n) ih
def p5_digest_6 (k6 : Int64 → Int32 → SX → Option (Int64 × SX)) (v1 : Int64) (v3 : Int32) (M : SX) : Option (Int64 × SX) :=
  if (9 : Int32) ≤ v3 then (xlp2 p5_digest_33 FU v1 0 M)
  else (bd (p5_counted v3 M) (fun r4 M3 => lt_ ((31 * v1) + (Int32.toInt64 r4)) (fun x5 => lt_ (v3 + 1) (fun x6 => k6 x5 x6 M3))))
set_option maxHeartbeats 4000000 in
set_option maxRecDepth 100000 in
theorem w5_digest_6 {G : XG} {p : Program} {l : Launch} {e : Env} {s : State} {m : MethodId} {args : Array Value} {below : List Frame} {meth : Method} {c : Code} (F : Fx G ZX p m c cX5_digest 5 s args RX5) (hr : meth.sig.returnType = some .long) (hk : meth.locks = false) {r : Int64} {M' : SX} (k6 : Int64 → Int32 → SX → Option (Int64 × SX)) (hk6 : ∀ (v1 : Int64) (v3 : Int32) (M : SX) (H : Heap) (locs : List Loc) (ls : Array Slot), Wld G ZX M s.heap H locs → lv_has ls 5 [(0, .ref (G.2.1 0)), (1, .long v1), (3, .int v3)] → k6 v1 v3 M = some (r, M') → WXl G ZX p l e 5 s m args below meth c r M' H locs (F0 m 6 ls [])) : ∀ (v1 : Int64) (v3 : Int32) (M : SX) (H : Heap) (locs : List Loc) (ls : Array Slot), Wld G ZX M s.heap H locs → lv_has ls 5 [(0, .ref (G.2.1 0)), (1, .long v1), (3, .int v3)] → p5_digest_6 k6 v1 v3 M = some (r, M') → WXl G ZX p l e 5 s m args below meth c r M' H locs (F0 m 6 ls []) := by
  intro v1 v3 M H locs ls hw hl hf
  have hx := F.1.1
  have hb := F.1.2.1
  unfold p5_digest_6 at hf
  refine lv_iload_n hx hb dX5_digest_6 rfl (lv_at hl 2 rfl) ?_
  refine lv_bipush (v := 9) hx hb dX5_digest_7 (by decide) ?_
  refine lv_icmp_ge (tgt := 31) hx hb dX5_digest_9 (by decide) (fun c1 => ?_) (fun c1 => ?_)
  · have hf := it_t hf c1
    refine lv_iconst (v := 0) hx hb dX5_digest_31 (by decide) ?_
    refine lv_istore_n (lv' := [(3, .int 0), (0, .ref (G.2.1 0)), (1, .long v1)]) hx hb dX5_digest_32 rfl hl (by decide) rfl (fun ls hl => ?_)
    exact z5_digest_33 F hr hk FU v1 0 M _ _ ls hw (lv_sub hl [1, 2, 0] rfl) hf
  · have hf := it_f hf c1
    refine lv_ldc2 (v := 31) hx hb F.1.2.2.2.1 (F.1.2.2.2.2 _ tw_567) dX5_digest_12 ?_
    refine lv_lload_n hx hb dX5_digest_15 rfl (lv_at hl 1 rfl) ?_
    refine lv_lmul hx hb dX5_digest_16 ?_
    refine lv_aload_n hx hb dX5_digest_17 rfl (lv_at hl 0 rfl) ?_
    refine lv_iload_n hx hb dX5_digest_18 rfl (lv_at hl 2 rfl) ?_
    obtain ⟨r4, M3, hc2, hf⟩ := bd_some hf
    refine x_aftI hw (x_runV (rest := [.long (31 * v1)]) F hw hl.1 vw_RX5_285 (sP) rfl (c5_counted v3 hc2) rfl rfl (Nat.le_of_ble_eq_true rfl) ⟨Nat.le_of_ble_eq_true rfl, Nat.le_of_ble_eq_true rfl⟩ dX5_digest_19) (fun H locs hw => ?_)
    refine lv_i2l (v := Int32.toInt64 r4) hx hb dX5_digest_22 rfl ?_
    refine lv_ladd hx hb dX5_digest_23 ?_
    obtain ⟨x5, ex5, hf⟩ := lt_elim hf
    refine x_letL ex5 ?_
    refine lv_lstore_n (lv' := [(1, .long x5), (0, .ref (G.2.1 0)), (3, .int v3)]) hx hb dX5_digest_24 rfl hl (by decide) rfl (fun ls hl => ?_)
    obtain ⟨x6, ex6, hf⟩ := lt_elim hf
    refine lv_iinc (v := x6) (lv' := [(3, .int x6), (1, .long x5), (0, .ref (G.2.1 0))]) hx hb dX5_digest_25 hl (k := 2) rfl (by rw [ex6]; rfl) (by decide) rfl (fun ls hl => ?_)
    refine lv_goto (tgt := 6) hx hb dX5_digest_28 (by decide) ?_
    exact hk6 x5 x6 M3 _ _ ls hw (lv_sub hl [2, 1, 0] rfl) hf
theorem z5_digest_6 {G : XG} {p : Program} {l : Launch} {e : Env} {s : State} {m : MethodId} {args : Array Value} {below : List Frame} {meth : Method} {c : Code} (F : Fx G ZX p m c cX5_digest 5 s args RX5) (hr : meth.sig.returnType = some .long) (hk : meth.locks = false) {r : Int64} {M' : SX} : ∀ n : Nat, ∀ (v1 : Int64) (v3 : Int32) (M : SX) (H : Heap) (locs : List Loc) (ls : Array Slot), Wld G ZX M s.heap H locs → lv_has ls 5 [(0, .ref (G.2.1 0)), (1, .long v1), (3, .int v3)] → xlp2 p5_digest_6 n v1 v3 M = some (r, M') → WXl G ZX p l e 5 s m args below meth c r M' H locs (F0 m 6 ls []) := by
  intro n
  induction n with
  | zero => intro _ _ _ _ _ _ _ _ hf; cases hf
  | succ n ih => exact w5_digest_6 F hr hk (xlp2 p5_digest_6 n) ih
def p5_digest (M : SX) : Option (Int64 × SX) :=
  xlp2 p5_digest_6 FU 17 0 M
set_option maxHeartbeats 4000000 in
set_option maxRecDepth 100000 in
theorem c5_digest {l : Launch} {G : XG} {r : Int64} {M' : SX} {M : SX} (hf : p5_digest M = some (r, M')) : Met l yX5_digest (.code yX5_digest cX5_digest 5 (some .long) :: TBL) (rmX 5) (xPc G ZX M [.ref (G.2.1 0)]) (xQl G ZX r M') 0 0 (inA G ZX) := by
  refine x_met (cc := cX5_digest) (by decide) (Nat.le_of_ble_eq_true rfl) ?_
  intro p e s m below meth c ls F hr hk hl hw
  have F : Fx G ZX p m c cX5_digest 5 s [.ref (G.2.1 0)].toArray RX5 := F
  have hl : lv_has ls 5 [(0, .ref (G.2.1 0))] := hl
  have hx := F.1.1
  have hb := F.1.2.1
  unfold p5_digest at hf
  refine lv_ldc2 (v := 17) hx hb F.1.2.2.2.1 (F.1.2.2.2.2 _ tw_568) dX5_digest_0 ?_
  refine lv_lstore_n (lv' := [(1, .long 17), (0, .ref (G.2.1 0))]) hx hb dX5_digest_3 rfl hl (by decide) rfl (fun ls hl => ?_)
  refine lv_iconst (v := 0) hx hb dX5_digest_4 (by decide) ?_
  refine lv_istore_n (lv' := [(3, .int 0), (1, .long 17), (0, .ref (G.2.1 0))]) hx hb dX5_digest_5 rfl hl (by decide) rfl (fun ls hl => ?_)
  exact z5_digest_6 F hr hk FU 17 0 M _ _ ls hw (lv_sub hl [2, 1, 0] rfl) hf
theorem dX5_firstOrderTo_0 : decode cX5_firstOrderTo 0 = .ok (.aload_n 0, 1) := by decide +kernel
theorem dX5_firstOrderTo_1 : decode cX5_firstOrderTo 1 = .ok (.getfield 42, 3) := by decide +kernel
theorem dX5_firstOrderTo_4 : decode cX5_firstOrderTo 4 = .ok (.aload_n 0, 1) := by decide +kernel
theorem dX5_firstOrderTo_5 : decode cX5_firstOrderTo 5 = .ok (.getfield 31, 3) := by decide +kernel
theorem dX5_firstOrderTo_8 : decode cX5_firstOrderTo 8 = .ok (.iconst 0, 1) := by decide +kernel
theorem dX5_firstOrderTo_9 : decode cX5_firstOrderTo 9 = .ok (.invokevirtual 156, 3) := by decide +kernel
theorem dX5_firstOrderTo_12 : decode cX5_firstOrderTo 12 = .ok (.aload_n 0, 1) := by decide +kernel
theorem dX5_firstOrderTo_13 : decode cX5_firstOrderTo 13 = .ok (.getfield 42, 3) := by decide +kernel
theorem dX5_firstOrderTo_16 : decode cX5_firstOrderTo 16 = .ok (.iload_n 1, 1) := by decide +kernel
theorem dX5_firstOrderTo_17 : decode cX5_firstOrderTo 17 = .ok (.invokevirtual 302, 3) := by decide +kernel
theorem dX5_firstOrderTo_20 : decode cX5_firstOrderTo 20 = .ok (.aload_n 0, 1) := by decide +kernel
theorem dX5_firstOrderTo_21 : decode cX5_firstOrderTo 21 = .ok (.getfield 42, 3) := by decide +kernel
theorem dX5_firstOrderTo_24 : decode cX5_firstOrderTo 24 = .ok (.iconst 0, 1) := by decide +kernel
theorem dX5_firstOrderTo_25 : decode cX5_firstOrderTo 25 = .ok (.invokevirtual 305, 3) := by decide +kernel
theorem dX5_firstOrderTo_28 : decode cX5_firstOrderTo 28 = .ok (.istore_n 3, 1) := by decide +kernel
theorem dX5_firstOrderTo_29 : decode cX5_firstOrderTo 29 = .ok (.iload_n 3, 1) := by decide +kernel
theorem dX5_firstOrderTo_30 : decode cX5_firstOrderTo 30 = .ok (.bipush (-9), 2) := by decide +kernel
theorem dX5_firstOrderTo_32 : decode cX5_firstOrderTo 32 = .ok (.if_icmp .ne 6, 3) := by decide +kernel
theorem dX5_firstOrderTo_35 : decode cX5_firstOrderTo 35 = .ok (.bipush (-9), 2) := by decide +kernel
theorem dX5_firstOrderTo_37 : decode cX5_firstOrderTo 37 = .ok (.ireturn, 1) := by decide +kernel
theorem dX5_firstOrderTo_38 : decode cX5_firstOrderTo 38 = .ok (.aload_n 0, 1) := by decide +kernel
theorem dX5_firstOrderTo_39 : decode cX5_firstOrderTo 39 = .ok (.getfield 14, 3) := by decide +kernel
theorem dX5_firstOrderTo_42 : decode cX5_firstOrderTo 42 = .ok (.iload_n 2, 1) := by decide +kernel
theorem dX5_firstOrderTo_43 : decode cX5_firstOrderTo 43 = .ok (.iload_n 3, 1) := by decide +kernel
theorem dX5_firstOrderTo_44 : decode cX5_firstOrderTo 44 = .ok (.iconst 0, 1) := by decide +kernel
theorem dX5_firstOrderTo_45 : decode cX5_firstOrderTo 45 = .ok (.invokevirtual 72, 3) := by decide +kernel
theorem dX5_firstOrderTo_48 : decode cX5_firstOrderTo 48 = .ok (.iconst 0, 1) := by decide +kernel
theorem dX5_firstOrderTo_49 : decode cX5_firstOrderTo 49 = .ok (.istore 4, 2) := by decide +kernel
theorem dX5_firstOrderTo_51 : decode cX5_firstOrderTo 51 = .ok (.iconst 0, 1) := by decide +kernel
theorem dX5_firstOrderTo_52 : decode cX5_firstOrderTo 52 = .ok (.istore 5, 2) := by decide +kernel
theorem dX5_firstOrderTo_54 : decode cX5_firstOrderTo 54 = .ok (.iload 5, 2) := by decide +kernel
theorem dX5_firstOrderTo_56 : decode cX5_firstOrderTo 56 = .ok (.iload_n 3, 1) := by decide +kernel
theorem dX5_firstOrderTo_57 : decode cX5_firstOrderTo 57 = .ok (.if_icmp .ge 41, 3) := by decide +kernel
theorem dX5_firstOrderTo_60 : decode cX5_firstOrderTo 60 = .ok (.aload_n 0, 1) := by decide +kernel
theorem dX5_firstOrderTo_61 : decode cX5_firstOrderTo 61 = .ok (.getfield 42, 3) := by decide +kernel
theorem dX5_firstOrderTo_64 : decode cX5_firstOrderTo 64 = .ok (.iload 4, 2) := by decide +kernel
theorem dX5_firstOrderTo_66 : decode cX5_firstOrderTo 66 = .ok (.invokevirtual 308, 3) := by decide +kernel
theorem dX5_firstOrderTo_69 : decode cX5_firstOrderTo 69 = .ok (.istore 6, 2) := by decide +kernel
theorem dX5_firstOrderTo_71 : decode cX5_firstOrderTo 71 = .ok (.aload_n 0, 1) := by decide +kernel
theorem dX5_firstOrderTo_72 : decode cX5_firstOrderTo 72 = .ok (.getfield 14, 3) := by decide +kernel
theorem dX5_firstOrderTo_75 : decode cX5_firstOrderTo 75 = .ok (.iload_n 2, 1) := by decide +kernel
theorem dX5_firstOrderTo_76 : decode cX5_firstOrderTo 76 = .ok (.iload 5, 2) := by decide +kernel
theorem dX5_firstOrderTo_78 : decode cX5_firstOrderTo 78 = .ok (.iload 6, 2) := by decide +kernel
theorem dX5_firstOrderTo_80 : decode cX5_firstOrderTo 80 = .ok (.invokevirtual 84, 3) := by decide +kernel
theorem dX5_firstOrderTo_83 : decode cX5_firstOrderTo 83 = .ok (.iload 4, 2) := by decide +kernel
theorem dX5_firstOrderTo_85 : decode cX5_firstOrderTo 85 = .ok (.iconst 1, 1) := by decide +kernel
theorem dX5_firstOrderTo_86 : decode cX5_firstOrderTo 86 = .ok (.iload 6, 2) := by decide +kernel
theorem dX5_firstOrderTo_88 : decode cX5_firstOrderTo 88 = .ok (.ishl, 1) := by decide +kernel
theorem dX5_firstOrderTo_89 : decode cX5_firstOrderTo 89 = .ok (.ior, 1) := by decide +kernel
theorem dX5_firstOrderTo_90 : decode cX5_firstOrderTo 90 = .ok (.istore 4, 2) := by decide +kernel
theorem dX5_firstOrderTo_92 : decode cX5_firstOrderTo 92 = .ok (.iinc 5 1, 3) := by decide +kernel
theorem dX5_firstOrderTo_95 : decode cX5_firstOrderTo 95 = .ok (.goto (-41), 3) := by decide +kernel
theorem dX5_firstOrderTo_98 : decode cX5_firstOrderTo 98 = .ok (.iload_n 3, 1) := by decide +kernel
theorem dX5_firstOrderTo_99 : decode cX5_firstOrderTo 99 = .ok (.ireturn, 1) := by decide +kernel
def p5_firstOrderTo_54 (k54 : Int32 → Int32 → Int32 → Int32 → SX → Option (Int32 × SX)) (v2 : Int32) (v3 : Int32) (v4 : Int32) (v5 : Int32) (M : SX) : Option (Int32 × SX) :=
  if v3 ≤ v5 then (some (v3, M))
  else (bd (p2_firstNearer v4 M) (fun r4 M3 => bv (p4_setValue 1 v2 v5 r4 M3) (fun M6 => lt_ (v4 ||| ((1 : Int32) <<< (r4 &&& 31))) (fun x7 => lt_ (v5 + 1) (fun x8 => k54 v2 v3 x7 x8 M6)))))
set_option maxHeartbeats 4000000 in
set_option maxRecDepth 100000 in
theorem w5_firstOrderTo_54 {G : XG} {p : Program} {l : Launch} {e : Env} {s : State} {m : MethodId} {args : Array Value} {below : List Frame} {meth : Method} {c : Code} (F : Fx G ZX p m c cX5_firstOrderTo 7 s args RX5) (hr : meth.sig.returnType = some .int) (hk : meth.locks = false) {r : Int32} {M' : SX} (k54 : Int32 → Int32 → Int32 → Int32 → SX → Option (Int32 × SX)) (hk54 : ∀ (v2 : Int32) (v3 : Int32) (v4 : Int32) (v5 : Int32) (M : SX) (H : Heap) (locs : List Loc) (ls : Array Slot), Wld G ZX M s.heap H locs → lv_has ls 7 [(0, .ref (G.2.1 0)), (2, .int v2), (3, .int v3), (4, .int v4), (5, .int v5)] → k54 v2 v3 v4 v5 M = some (r, M') → WXi G ZX p l e 5 s m args below meth c r M' H locs (F0 m 54 ls [])) : ∀ (v2 : Int32) (v3 : Int32) (v4 : Int32) (v5 : Int32) (M : SX) (H : Heap) (locs : List Loc) (ls : Array Slot), Wld G ZX M s.heap H locs → lv_has ls 7 [(0, .ref (G.2.1 0)), (2, .int v2), (3, .int v3), (4, .int v4), (5, .int v5)] → p5_firstOrderTo_54 k54 v2 v3 v4 v5 M = some (r, M') → WXi G ZX p l e 5 s m args below meth c r M' H locs (F0 m 54 ls []) := by
  intro v2 v3 v4 v5 M H locs ls hw hl hf
  have hx := F.1.1
  have hb := F.1.2.1
  unfold p5_firstOrderTo_54 at hf
  refine lv_iload hx hb dX5_firstOrderTo_54 (lv_at hl 4 rfl) ?_
  refine lv_iload_n hx hb dX5_firstOrderTo_56 rfl (lv_at hl 2 rfl) ?_
  refine lv_icmp_ge (tgt := 98) hx hb dX5_firstOrderTo_57 (by decide) (fun c1 => ?_) (fun c1 => ?_)
  · have hf := it_t hf c1
    refine lv_iload_n hx hb dX5_firstOrderTo_98 rfl (lv_at hl 2 rfl) ?_
    exact x_iret F hw hr hk hf dX5_firstOrderTo_99
  · have hf := it_f hf c1
    refine lv_aload_n hx hb dX5_firstOrderTo_60 rfl (lv_at hl 0 rfl) ?_
    refine g5_5 F hw tw_448 dX5_firstOrderTo_61 ?_
    refine lv_iload hx hb dX5_firstOrderTo_64 (lv_at hl 3 rfl) ?_
    obtain ⟨r4, M3, hc2, hf⟩ := bd_some hf
    refine x_aftI hw (x_runV (rest := []) F hw hl.1 vw_RX5_308 (sO) rfl (c2_firstNearer v4 hc2) rfl rfl (Nat.le_of_ble_eq_true rfl) ⟨Nat.le_of_ble_eq_true rfl, Nat.le_of_ble_eq_true rfl⟩ dX5_firstOrderTo_66) (fun H locs hw => ?_)
    refine lv_istore (lv' := [(6, .int r4), (0, .ref (G.2.1 0)), (2, .int v2), (3, .int v3), (4, .int v4), (5, .int v5)]) hx hb dX5_firstOrderTo_69 hl (by decide) rfl (fun ls hl => ?_)
    refine lv_aload_n hx hb dX5_firstOrderTo_71 rfl (lv_at hl 1 rfl) ?_
    refine g5_0 F hw tw_334 dX5_firstOrderTo_72 ?_
    refine lv_iload_n hx hb dX5_firstOrderTo_75 rfl (lv_at hl 2 rfl) ?_
    refine lv_iload hx hb dX5_firstOrderTo_76 (lv_at hl 5 rfl) ?_
    refine lv_iload hx hb dX5_firstOrderTo_78 (lv_at hl 0 rfl) ?_
    obtain ⟨M6, hc5, hf⟩ := bv_some hf
    refine x_aftV hw (x_runV (rest := []) F hw hl.1 vw_RX5_84 (sS isS_1) rfl (c4_setValue 1 isS_1 v2 v5 r4 hc5) rfl rfl (Nat.le_of_ble_eq_true rfl) ⟨Nat.le_of_ble_eq_true rfl, Nat.le_of_ble_eq_true rfl⟩ dX5_firstOrderTo_80) (fun H locs hw => ?_)
    refine lv_iload hx hb dX5_firstOrderTo_83 (lv_at hl 4 rfl) ?_
    refine lv_iconst (v := 1) hx hb dX5_firstOrderTo_85 (by decide) ?_
    refine lv_iload hx hb dX5_firstOrderTo_86 (lv_at hl 0 rfl) ?_
    refine lv_ishl hx hb dX5_firstOrderTo_88 ?_
    refine lv_ior hx hb dX5_firstOrderTo_89 ?_
    obtain ⟨x7, ex7, hf⟩ := lt_elim hf
    refine x_let ex7 ?_
    refine lv_istore (lv' := [(4, .int x7), (6, .int r4), (0, .ref (G.2.1 0)), (2, .int v2), (3, .int v3), (5, .int v5)]) hx hb dX5_firstOrderTo_90 hl (by decide) rfl (fun ls hl => ?_)
    obtain ⟨x8, ex8, hf⟩ := lt_elim hf
    refine lv_iinc (v := x8) (lv' := [(5, .int x8), (4, .int x7), (6, .int r4), (0, .ref (G.2.1 0)), (2, .int v2), (3, .int v3)]) hx hb dX5_firstOrderTo_92 hl (k := 5) rfl (by rw [ex8]; rfl) (by decide) rfl (fun ls hl => ?_)
    refine lv_goto (tgt := 54) hx hb dX5_firstOrderTo_95 (by decide) ?_
    exact hk54 v2 v3 x7 x8 M6 _ _ ls hw (lv_sub hl [3, 4, 5, 1, 0] rfl) hf
theorem z5_firstOrderTo_54 {G : XG} {p : Program} {l : Launch} {e : Env} {s : State} {m : MethodId} {args : Array Value} {below : List Frame} {meth : Method} {c : Code} (F : Fx G ZX p m c cX5_firstOrderTo 7 s args RX5) (hr : meth.sig.returnType = some .int) (hk : meth.locks = false) {r : Int32} {M' : SX} : ∀ n : Nat, ∀ (v2 : Int32) (v3 : Int32) (v4 : Int32) (v5 : Int32) (M : SX) (H : Heap) (locs : List Loc) (ls : Array Slot), Wld G ZX M s.heap H locs → lv_has ls 7 [(0, .ref (G.2.1 0)), (2, .int v2), (3, .int v3), (4, .int v4), (5, .int v5)] → xlp4 p5_firstOrderTo_54 n v2 v3 v4 v5 M = some (r, M') → WXi G ZX p l e 5 s m args below meth c r M' H locs (F0 m 54 ls []) := by
  intro n
  induction n with
  | zero => intro _ _ _ _ _ _ _ _ _ _ hf; cases hf
  | succ n ih => exact w5_firstOrderTo_54 F hr hk (xlp4 p5_firstOrderTo_54 n) ih
def p5_firstOrderTo (a1 : Int32) (a2 : Int32) (M : SX) : Option (Int32 × SX) :=
  bv (p2_lookAt 17 0 M) (fun M2 => bv (p2_measureTo a1 M2) (fun M4 => bd (p2_stepsFrom 0 M4) (fun r7 M6 => if r7 = (-9 : Int32) then (some ((-9), M6))
  else (bv (p4_begin 1 a2 r7 0 M6) (fun M10 => xlp4 p5_firstOrderTo_54 FU a2 r7 0 0 M10)))))
set_option maxHeartbeats 4000000 in
set_option maxRecDepth 100000 in
theorem c5_firstOrderTo {l : Launch} {G : XG} {r : Int32} {M' : SX} {M : SX} (a1 : Int32) (a2 : Int32) (hf : p5_firstOrderTo a1 a2 M = some (r, M')) : Met l yX5_firstOrderTo (.code yX5_firstOrderTo cX5_firstOrderTo 7 (some .int) :: TBL) (rmX 5) (xPc G ZX M [.ref (G.2.1 0), .int a1, .int a2]) (xQi G ZX r M') 0 0 (inA G ZX) := by
  refine x_met (cc := cX5_firstOrderTo) (by decide) (Nat.le_of_ble_eq_true rfl) ?_
  intro p e s m below meth c ls F hr hk hl hw
  have F : Fx G ZX p m c cX5_firstOrderTo 7 s [.ref (G.2.1 0), .int a1, .int a2].toArray RX5 := F
  have hl : lv_has ls 7 [(0, .ref (G.2.1 0)), (1, .int a1), (2, .int a2)] := hl
  have hx := F.1.1
  have hb := F.1.2.1
  unfold p5_firstOrderTo at hf
  refine lv_aload_n hx hb dX5_firstOrderTo_0 rfl (lv_at hl 0 rfl) ?_
  refine g5_5 F hw tw_448 dX5_firstOrderTo_1 ?_
  refine lv_aload_n hx hb dX5_firstOrderTo_4 rfl (lv_at hl 0 rfl) ?_
  refine g5_3 F hw tw_306 dX5_firstOrderTo_5 ?_
  refine lv_iconst (v := 0) hx hb dX5_firstOrderTo_8 (by decide) ?_
  obtain ⟨M2, hc1, hf⟩ := bv_some hf
  refine x_aftV hw (x_runV (rest := []) F hw hl.1 vw_RX5_156 (sO) rfl (c2_lookAt 17 isL_17 0 hc1) rfl rfl (Nat.le_of_ble_eq_true rfl) ⟨Nat.le_of_ble_eq_true rfl, Nat.le_of_ble_eq_true rfl⟩ dX5_firstOrderTo_9) (fun H locs hw => ?_)
  refine lv_aload_n hx hb dX5_firstOrderTo_12 rfl (lv_at hl 0 rfl) ?_
  refine g5_5 F hw tw_448 dX5_firstOrderTo_13 ?_
  refine lv_iload_n hx hb dX5_firstOrderTo_16 rfl (lv_at hl 1 rfl) ?_
  obtain ⟨M4, hc3, hf⟩ := bv_some hf
  refine x_aftV hw (x_runV (rest := []) F hw hl.1 vw_RX5_302 (sO) rfl (c2_measureTo a1 hc3) rfl rfl (Nat.le_of_ble_eq_true rfl) ⟨Nat.le_of_ble_eq_true rfl, Nat.le_of_ble_eq_true rfl⟩ dX5_firstOrderTo_17) (fun H locs hw => ?_)
  refine lv_aload_n hx hb dX5_firstOrderTo_20 rfl (lv_at hl 0 rfl) ?_
  refine g5_5 F hw tw_448 dX5_firstOrderTo_21 ?_
  refine lv_iconst (v := 0) hx hb dX5_firstOrderTo_24 (by decide) ?_
  obtain ⟨r7, M6, hc5, hf⟩ := bd_some hf
  refine x_aftI hw (x_runV (rest := []) F hw hl.1 vw_RX5_305 (sO) rfl (c2_stepsFrom 0 hc5) rfl rfl (Nat.le_of_ble_eq_true rfl) ⟨Nat.le_of_ble_eq_true rfl, Nat.le_of_ble_eq_true rfl⟩ dX5_firstOrderTo_25) (fun H locs hw => ?_)
  refine lv_istore_n (lv' := [(3, .int r7), (0, .ref (G.2.1 0)), (1, .int a1), (2, .int a2)]) hx hb dX5_firstOrderTo_28 rfl hl (by decide) rfl (fun ls hl => ?_)
  refine lv_iload_n hx hb dX5_firstOrderTo_29 rfl (lv_at hl 0 rfl) ?_
  refine lv_bipush (v := (-9)) hx hb dX5_firstOrderTo_30 (by decide) ?_
  refine lv_icmp_ne (tgt := 38) hx hb dX5_firstOrderTo_32 (by decide) (fun c8 => ?_) (fun c8 => ?_)
  · have hf := it_f hf c8
    refine lv_aload_n hx hb dX5_firstOrderTo_38 rfl (lv_at hl 1 rfl) ?_
    refine g5_0 F hw tw_334 dX5_firstOrderTo_39 ?_
    refine lv_iload_n hx hb dX5_firstOrderTo_42 rfl (lv_at hl 3 rfl) ?_
    refine lv_iload_n hx hb dX5_firstOrderTo_43 rfl (lv_at hl 0 rfl) ?_
    refine lv_iconst (v := 0) hx hb dX5_firstOrderTo_44 (by decide) ?_
    obtain ⟨M10, hc9, hf⟩ := bv_some hf
    refine x_aftV hw (x_runV (rest := []) F hw hl.1 vw_RX5_72 (sS isS_1) rfl (c4_begin 1 isS_1 a2 r7 0 hc9) rfl rfl (Nat.le_of_ble_eq_true rfl) ⟨Nat.le_of_ble_eq_true rfl, Nat.le_of_ble_eq_true rfl⟩ dX5_firstOrderTo_45) (fun H locs hw => ?_)
    refine lv_iconst (v := 0) hx hb dX5_firstOrderTo_48 (by decide) ?_
    refine lv_istore (lv' := [(4, .int 0), (3, .int r7), (0, .ref (G.2.1 0)), (1, .int a1), (2, .int a2)]) hx hb dX5_firstOrderTo_49 hl (by decide) rfl (fun ls hl => ?_)
    refine lv_iconst (v := 0) hx hb dX5_firstOrderTo_51 (by decide) ?_
    refine lv_istore (lv' := [(5, .int 0), (4, .int 0), (3, .int r7), (0, .ref (G.2.1 0)), (1, .int a1), (2, .int a2)]) hx hb dX5_firstOrderTo_52 hl (by decide) rfl (fun ls hl => ?_)
    exact z5_firstOrderTo_54 F hr hk FU a2 r7 0 0 M10 _ _ ls hw (lv_sub hl [3, 5, 2, 1, 0] rfl) hf
  · have hf := it_t hf c8
    refine lv_bipush (v := (-9)) hx hb dX5_firstOrderTo_35 (by decide) ?_
    exact x_iret F hw hr hk hf dX5_firstOrderTo_37
theorem dX5_fault_0 : decode cX5_fault 0 = .ok (.aload_n 0, 1) := by decide +kernel
theorem dX5_fault_1 : decode cX5_fault 1 = .ok (.aload_n 0, 1) := by decide +kernel
theorem dX5_fault_2 : decode cX5_fault 2 = .ok (.getfield 18, 3) := by decide +kernel
theorem dX5_fault_5 : decode cX5_fault 5 = .ok (.iload_n 1, 1) := by decide +kernel
theorem dX5_fault_6 : decode cX5_fault 6 = .ok (.invokevirtual 87, 3) := by decide +kernel
theorem dX5_fault_9 : decode cX5_fault 9 = .ok (.istore_n 2, 1) := by decide +kernel
theorem dX5_fault_10 : decode cX5_fault 10 = .ok (.iload_n 2, 1) := by decide +kernel
theorem dX5_fault_11 : decode cX5_fault 11 = .ok (.ifCond .eq 5, 3) := by decide +kernel
theorem dX5_fault_14 : decode cX5_fault 14 = .ok (.iload_n 2, 1) := by decide +kernel
theorem dX5_fault_15 : decode cX5_fault 15 = .ok (.ireturn, 1) := by decide +kernel
theorem dX5_fault_16 : decode cX5_fault 16 = .ok (.aload_n 0, 1) := by decide +kernel
theorem dX5_fault_17 : decode cX5_fault 17 = .ok (.getfield 24, 3) := by decide +kernel
theorem dX5_fault_20 : decode cX5_fault 20 = .ok (.aload_n 0, 1) := by decide +kernel
theorem dX5_fault_21 : decode cX5_fault 21 = .ok (.getfield 18, 3) := by decide +kernel
theorem dX5_fault_24 : decode cX5_fault 24 = .ok (.iload_n 1, 1) := by decide +kernel
theorem dX5_fault_25 : decode cX5_fault 25 = .ok (.invokevirtual 113, 3) := by decide +kernel
theorem dX5_fault_28 : decode cX5_fault 28 = .ok (.ireturn, 1) := by decide +kernel
def p5_fault (a1 : Int32) (M : SX) : Option (Int32 × SX) :=
  bd (p5_refusalOfSheet 4 a1 M) (fun r3 M2 => if r3 = 0 then (bd (p3_faultOf 4 a1 M2) (fun r7 M6 => some (r7, M6)))
  else (some (r3, M2)))
set_option maxHeartbeats 4000000 in
set_option maxRecDepth 100000 in
theorem c5_fault {l : Launch} {G : XG} {r : Int32} {M' : SX} {M : SX} (a1 : Int32) (hf : p5_fault a1 M = some (r, M')) : Met l yX5_fault (.code yX5_fault cX5_fault 3 (some .int) :: TBL) (rmX 6) (xPc G ZX M [.ref (G.2.1 0), .int a1]) (xQi G ZX r M') 0 0 (inA G ZX) := by
  refine x_met (cc := cX5_fault) (by decide) (Nat.le_of_ble_eq_true rfl) ?_
  intro p e s m below meth c ls F hr hk hl hw
  have F : Fx G ZX p m c cX5_fault 3 s [.ref (G.2.1 0), .int a1].toArray RX5 := F
  have hl : lv_has ls 3 [(0, .ref (G.2.1 0)), (1, .int a1)] := hl
  have hx := F.1.1
  have hb := F.1.2.1
  unfold p5_fault at hf
  refine lv_aload_n hx hb dX5_fault_0 rfl (lv_at hl 0 rfl) ?_
  refine lv_aload_n hx hb dX5_fault_1 rfl (lv_at hl 0 rfl) ?_
  refine g5_1 F hw tw_367 dX5_fault_2 ?_
  refine lv_iload_n hx hb dX5_fault_5 rfl (lv_at hl 1 rfl) ?_
  obtain ⟨r3, M2, hc1, hf⟩ := bd_some hf
  refine x_aftI hw (x_runV (rest := []) F hw hl.1 vw_RX5_87 (sP) rfl (c5_refusalOfSheet 4 isS_4 a1 hc1) rfl rfl (Nat.le_of_ble_eq_true rfl) ⟨Nat.le_of_ble_eq_true rfl, Nat.le_of_ble_eq_true rfl⟩ dX5_fault_6) (fun H locs hw => ?_)
  refine lv_istore_n (lv' := [(2, .int r3), (0, .ref (G.2.1 0)), (1, .int a1)]) hx hb dX5_fault_9 rfl hl (by decide) rfl (fun ls hl => ?_)
  refine lv_iload_n hx hb dX5_fault_10 rfl (lv_at hl 0 rfl) ?_
  refine lv_if_eq (tgt := 16) hx hb dX5_fault_11 (by decide) (fun c4 => ?_) (fun c4 => ?_)
  · have hf := it_t hf c4
    refine lv_aload_n hx hb dX5_fault_16 rfl (lv_at hl 1 rfl) ?_
    refine g5_2 F hw tw_584 dX5_fault_17 ?_
    refine lv_aload_n hx hb dX5_fault_20 rfl (lv_at hl 1 rfl) ?_
    refine g5_1 F hw tw_367 dX5_fault_21 ?_
    refine lv_iload_n hx hb dX5_fault_24 rfl (lv_at hl 2 rfl) ?_
    obtain ⟨r7, M6, hc5, hf⟩ := bd_some hf
    refine x_aftI hw (x_runV (rest := []) F hw hl.1 vw_RX5_113 (sR) rfl (c3_faultOf 4 isS_4 a1 hc5) rfl rfl (Nat.le_of_ble_eq_true rfl) ⟨Nat.le_of_ble_eq_true rfl, Nat.le_of_ble_eq_true rfl⟩ dX5_fault_25) (fun H locs hw => ?_)
    exact x_iret F hw hr hk hf dX5_fault_28
  · have hf := it_f hf c4
    refine lv_iload_n hx hb dX5_fault_14 rfl (lv_at hl 0 rfl) ?_
    exact x_iret F hw hr hk hf dX5_fault_15
theorem dX5_lane_0 : decode cX5_lane 0 = .ok (.aload_n 0, 1) := by decide +kernel
theorem dX5_lane_1 : decode cX5_lane 1 = .ok (.aload_n 0, 1) := by decide +kernel
theorem dX5_lane_2 : decode cX5_lane 2 = .ok (.getfield 18, 3) := by decide +kernel
theorem dX5_lane_5 : decode cX5_lane 5 = .ok (.iload_n 1, 1) := by decide +kernel
theorem dX5_lane_6 : decode cX5_lane 6 = .ok (.invokevirtual 87, 3) := by decide +kernel
theorem dX5_lane_9 : decode cX5_lane 9 = .ok (.istore_n 2, 1) := by decide +kernel
theorem dX5_lane_10 : decode cX5_lane 10 = .ok (.iload_n 2, 1) := by decide +kernel
theorem dX5_lane_11 : decode cX5_lane 11 = .ok (.ifCond .eq 5, 3) := by decide +kernel
theorem dX5_lane_14 : decode cX5_lane 14 = .ok (.iload_n 2, 1) := by decide +kernel
theorem dX5_lane_15 : decode cX5_lane 15 = .ok (.ireturn, 1) := by decide +kernel
theorem dX5_lane_16 : decode cX5_lane 16 = .ok (.aload_n 0, 1) := by decide +kernel
theorem dX5_lane_17 : decode cX5_lane 17 = .ok (.getfield 24, 3) := by decide +kernel
theorem dX5_lane_20 : decode cX5_lane 20 = .ok (.aload_n 0, 1) := by decide +kernel
theorem dX5_lane_21 : decode cX5_lane 21 = .ok (.getfield 18, 3) := by decide +kernel
theorem dX5_lane_24 : decode cX5_lane 24 = .ok (.iload_n 1, 1) := by decide +kernel
theorem dX5_lane_25 : decode cX5_lane 25 = .ok (.invokevirtual 113, 3) := by decide +kernel
theorem dX5_lane_28 : decode cX5_lane 28 = .ok (.bipush (-9), 2) := by decide +kernel
theorem dX5_lane_30 : decode cX5_lane 30 = .ok (.if_icmp .eq 6, 3) := by decide +kernel
theorem dX5_lane_33 : decode cX5_lane 33 = .ok (.bipush (-4), 2) := by decide +kernel
theorem dX5_lane_35 : decode cX5_lane 35 = .ok (.ireturn, 1) := by decide +kernel
theorem dX5_lane_36 : decode cX5_lane 36 = .ok (.aload_n 0, 1) := by decide +kernel
theorem dX5_lane_37 : decode cX5_lane 37 = .ok (.getfield 31, 3) := by decide +kernel
theorem dX5_lane_40 : decode cX5_lane 40 = .ok (.aload_n 0, 1) := by decide +kernel
theorem dX5_lane_41 : decode cX5_lane 41 = .ok (.getfield 24, 3) := by decide +kernel
theorem dX5_lane_44 : decode cX5_lane 44 = .ok (.getfield 116, 3) := by decide +kernel
theorem dX5_lane_47 : decode cX5_lane 47 = .ok (.invokevirtual 119, 3) := by decide +kernel
theorem dX5_lane_50 : decode cX5_lane 50 = .ok (.iconst 0, 1) := by decide +kernel
theorem dX5_lane_51 : decode cX5_lane 51 = .ok (.istore_n 3, 1) := by decide +kernel
theorem dX5_lane_52 : decode cX5_lane 52 = .ok (.iload_n 3, 1) := by decide +kernel
theorem dX5_lane_53 : decode cX5_lane 53 = .ok (.iconst 3, 1) := by decide +kernel
theorem dX5_lane_54 : decode cX5_lane 54 = .ok (.if_icmp .ge 18, 3) := by decide +kernel
theorem dX5_lane_57 : decode cX5_lane 57 = .ok (.aload_n 0, 1) := by decide +kernel
theorem dX5_lane_58 : decode cX5_lane 58 = .ok (.getfield 35, 3) := by decide +kernel
theorem dX5_lane_61 : decode cX5_lane 61 = .ok (.iload_n 3, 1) := by decide +kernel
theorem dX5_lane_62 : decode cX5_lane 62 = .ok (.aaload, 1) := by decide +kernel
theorem dX5_lane_63 : decode cX5_lane 63 = .ok (.invokevirtual 123, 3) := by decide +kernel
theorem dX5_lane_66 : decode cX5_lane 66 = .ok (.iinc 3 1, 3) := by decide +kernel
theorem dX5_lane_69 : decode cX5_lane 69 = .ok (.goto (-17), 3) := by decide +kernel
theorem dX5_lane_72 : decode cX5_lane 72 = .ok (.aload_n 0, 1) := by decide +kernel
theorem dX5_lane_73 : decode cX5_lane 73 = .ok (.getfield 31, 3) := by decide +kernel
theorem dX5_lane_76 : decode cX5_lane 76 = .ok (.getfield 126, 3) := by decide +kernel
theorem dX5_lane_79 : decode cX5_lane 79 = .ok (.ireturn, 1) := by decide +kernel
def p5_lane_52 (k52 : Int32 → SX → Option (Int32 × SX)) (v3 : Int32) (M : SX) : Option (Int32 × SX) :=
  if (3 : Int32) ≤ v3 then (some (M.1 17 0, M))
  else (gd (bIn v3 3) ( bv (p1_clear (27 + 9 * Int32.toNatClampNeg v3) M) (fun M4 => lt_ (v3 + 1) (fun x5 => k52 x5 M4))))
set_option maxHeartbeats 4000000 in
set_option maxRecDepth 100000 in
theorem w5_lane_52 {G : XG} {p : Program} {l : Launch} {e : Env} {s : State} {m : MethodId} {args : Array Value} {below : List Frame} {meth : Method} {c : Code} (F : Fx G ZX p m c cX5_lane 4 s args RX5) (hr : meth.sig.returnType = some .int) (hk : meth.locks = false) {r : Int32} {M' : SX} (k52 : Int32 → SX → Option (Int32 × SX)) (hk52 : ∀ (v3 : Int32) (M : SX) (H : Heap) (locs : List Loc) (ls : Array Slot), Wld G ZX M s.heap H locs → lv_has ls 4 [(0, .ref (G.2.1 0)), (3, .int v3)] → k52 v3 M = some (r, M') → WXi G ZX p l e 6 s m args below meth c r M' H locs (F0 m 52 ls [])) : ∀ (v3 : Int32) (M : SX) (H : Heap) (locs : List Loc) (ls : Array Slot), Wld G ZX M s.heap H locs → lv_has ls 4 [(0, .ref (G.2.1 0)), (3, .int v3)] → p5_lane_52 k52 v3 M = some (r, M') → WXi G ZX p l e 6 s m args below meth c r M' H locs (F0 m 52 ls []) := by
  intro v3 M H locs ls hw hl hf
  have hx := F.1.1
  have hb := F.1.2.1
  unfold p5_lane_52 at hf
  refine lv_iload_n hx hb dX5_lane_52 rfl (lv_at hl 1 rfl) ?_
  refine lv_iconst (v := 3) hx hb dX5_lane_53 (by decide) ?_
  refine lv_icmp_ge (tgt := 72) hx hb dX5_lane_54 (by decide) (fun c1 => ?_) (fun c1 => ?_)
  · have hf := it_t hf c1
    refine lv_aload_n hx hb dX5_lane_72 rfl (lv_at hl 0 rfl) ?_
    refine g5_3 F hw tw_306 dX5_lane_73 ?_
    refine g1_0 isL_17 F hw tw_305 dX5_lane_76 ?_
    exact x_iret F hw hr hk hf dX5_lane_79
  · have hf := it_f hf c1
    refine lv_aload_n hx hb dX5_lane_57 rfl (lv_at hl 0 rfl) ?_
    refine g5_4 F hw tw_304 dX5_lane_58 ?_
    refine lv_iload_n hx hb dX5_lane_61 rfl (lv_at hl 1 rfl) ?_
    obtain ⟨g2, hf⟩ := gd_some hf
    refine x_aald F hw sP26 g2 dX5_lane_62 ?_
    obtain ⟨M4, hc3, hf⟩ := bv_some hf
    refine x_aftV hw (x_runV (rest := []) F hw hl.1 vw_RX5_123 (sL (isL_k g2)) rfl (c1_clear (27 + 9 * Int32.toNatClampNeg v3) (isL_k g2) hc3) rfl rfl (Nat.le_of_ble_eq_true rfl) ⟨Nat.le_of_ble_eq_true rfl, Nat.le_of_ble_eq_true rfl⟩ dX5_lane_63) (fun H locs hw => ?_)
    obtain ⟨x5, ex5, hf⟩ := lt_elim hf
    refine lv_iinc (v := x5) (lv' := [(3, .int x5), (0, .ref (G.2.1 0))]) hx hb dX5_lane_66 hl (k := 1) rfl (by rw [ex5]; rfl) (by decide) rfl (fun ls hl => ?_)
    refine lv_goto (tgt := 52) hx hb dX5_lane_69 (by decide) ?_
    exact hk52 x5 M4 _ _ ls hw (lv_sub hl [1, 0] rfl) hf
theorem z5_lane_52 {G : XG} {p : Program} {l : Launch} {e : Env} {s : State} {m : MethodId} {args : Array Value} {below : List Frame} {meth : Method} {c : Code} (F : Fx G ZX p m c cX5_lane 4 s args RX5) (hr : meth.sig.returnType = some .int) (hk : meth.locks = false) {r : Int32} {M' : SX} : ∀ n : Nat, ∀ (v3 : Int32) (M : SX) (H : Heap) (locs : List Loc) (ls : Array Slot), Wld G ZX M s.heap H locs → lv_has ls 4 [(0, .ref (G.2.1 0)), (3, .int v3)] → xlp1 p5_lane_52 n v3 M = some (r, M') → WXi G ZX p l e 6 s m args below meth c r M' H locs (F0 m 52 ls []) := by
  intro n
  induction n with
  | zero => intro _ _ _ _ _ _ _ hf; cases hf
  | succ n ih => exact w5_lane_52 F hr hk (xlp1 p5_lane_52 n) ih
def p5_lane (a1 : Int32) (M : SX) : Option (Int32 × SX) :=
  bd (p5_refusalOfSheet 4 a1 M) (fun r3 M2 => if r3 = 0 then (bd (p3_faultOf 4 a1 M2) (fun r7 M6 => if r7 = (-9 : Int32) then (bv (p1_becomeLike 17 8 M6) (fun M10 => xlp1 p5_lane_52 FU 0 M10))
  else (some ((-4), M6))))
  else (some (r3, M2)))
set_option maxHeartbeats 4000000 in
set_option maxRecDepth 100000 in
theorem c5_lane {l : Launch} {G : XG} {r : Int32} {M' : SX} {M : SX} (a1 : Int32) (hf : p5_lane a1 M = some (r, M')) : Met l yX5_lane (.code yX5_lane cX5_lane 4 (some .int) :: TBL) (rmX 6) (xPc G ZX M [.ref (G.2.1 0), .int a1]) (xQi G ZX r M') 0 0 (inA G ZX) := by
  refine x_met (cc := cX5_lane) (by decide) (Nat.le_of_ble_eq_true rfl) ?_
  intro p e s m below meth c ls F hr hk hl hw
  have F : Fx G ZX p m c cX5_lane 4 s [.ref (G.2.1 0), .int a1].toArray RX5 := F
  have hl : lv_has ls 4 [(0, .ref (G.2.1 0)), (1, .int a1)] := hl
  have hx := F.1.1
  have hb := F.1.2.1
  unfold p5_lane at hf
  refine lv_aload_n hx hb dX5_lane_0 rfl (lv_at hl 0 rfl) ?_
  refine lv_aload_n hx hb dX5_lane_1 rfl (lv_at hl 0 rfl) ?_
  refine g5_1 F hw tw_367 dX5_lane_2 ?_
  refine lv_iload_n hx hb dX5_lane_5 rfl (lv_at hl 1 rfl) ?_
  obtain ⟨r3, M2, hc1, hf⟩ := bd_some hf
  refine x_aftI hw (x_runV (rest := []) F hw hl.1 vw_RX5_87 (sP) rfl (c5_refusalOfSheet 4 isS_4 a1 hc1) rfl rfl (Nat.le_of_ble_eq_true rfl) ⟨Nat.le_of_ble_eq_true rfl, Nat.le_of_ble_eq_true rfl⟩ dX5_lane_6) (fun H locs hw => ?_)
  refine lv_istore_n (lv' := [(2, .int r3), (0, .ref (G.2.1 0)), (1, .int a1)]) hx hb dX5_lane_9 rfl hl (by decide) rfl (fun ls hl => ?_)
  refine lv_iload_n hx hb dX5_lane_10 rfl (lv_at hl 0 rfl) ?_
  refine lv_if_eq (tgt := 16) hx hb dX5_lane_11 (by decide) (fun c4 => ?_) (fun c4 => ?_)
  · have hf := it_t hf c4
    refine lv_aload_n hx hb dX5_lane_16 rfl (lv_at hl 1 rfl) ?_
    refine g5_2 F hw tw_584 dX5_lane_17 ?_
    refine lv_aload_n hx hb dX5_lane_20 rfl (lv_at hl 1 rfl) ?_
    refine g5_1 F hw tw_367 dX5_lane_21 ?_
    refine lv_iload_n hx hb dX5_lane_24 rfl (lv_at hl 2 rfl) ?_
    obtain ⟨r7, M6, hc5, hf⟩ := bd_some hf
    refine x_aftI hw (x_runV (rest := []) F hw hl.1 vw_RX5_113 (sR) rfl (c3_faultOf 4 isS_4 a1 hc5) rfl rfl (Nat.le_of_ble_eq_true rfl) ⟨Nat.le_of_ble_eq_true rfl, Nat.le_of_ble_eq_true rfl⟩ dX5_lane_25) (fun H locs hw => ?_)
    refine lv_bipush (v := (-9)) hx hb dX5_lane_28 (by decide) ?_
    refine lv_icmp_eq (tgt := 36) hx hb dX5_lane_30 (by decide) (fun c8 => ?_) (fun c8 => ?_)
    · have hf := it_t hf c8
      refine lv_aload_n hx hb dX5_lane_36 rfl (lv_at hl 1 rfl) ?_
      refine g5_3 F hw tw_306 dX5_lane_37 ?_
      refine lv_aload_n hx hb dX5_lane_40 rfl (lv_at hl 1 rfl) ?_
      refine g5_2 F hw tw_584 dX5_lane_41 ?_
      refine g3_0 F hw tw_592 dX5_lane_44 ?_
      obtain ⟨M10, hc9, hf⟩ := bv_some hf
      refine x_aftV hw (x_runV (rest := []) F hw hl.1 vw_RX5_119 (sL isL_17) rfl (c1_becomeLike 17 isL_17 8 isL_8 hc9) rfl rfl (Nat.le_of_ble_eq_true rfl) ⟨Nat.le_of_ble_eq_true rfl, Nat.le_of_ble_eq_true rfl⟩ dX5_lane_47) (fun H locs hw => ?_)
      refine lv_iconst (v := 0) hx hb dX5_lane_50 (by decide) ?_
      refine lv_istore_n (lv' := [(3, .int 0), (2, .int r3), (0, .ref (G.2.1 0)), (1, .int a1)]) hx hb dX5_lane_51 rfl hl (by decide) rfl (fun ls hl => ?_)
      exact z5_lane_52 F hr hk FU 0 M10 _ _ ls hw (lv_sub hl [2, 0] rfl) hf
    · have hf := it_f hf c8
      refine lv_bipush (v := (-4)) hx hb dX5_lane_33 (by decide) ?_
      exact x_iret F hw hr hk hf dX5_lane_35
  · have hf := it_f hf c4
    refine lv_iload_n hx hb dX5_lane_14 rfl (lv_at hl 0 rfl) ?_
    exact x_iret F hw hr hk hf dX5_lane_15
theorem dX5_order_0 : decode cX5_order 0 = .ok (.aload_n 0, 1) := by decide +kernel
theorem dX5_order_1 : decode cX5_order 1 = .ok (.getfield 14, 3) := by decide +kernel
theorem dX5_order_4 : decode cX5_order 4 = .ok (.iload_n 1, 1) := by decide +kernel
theorem dX5_order_5 : decode cX5_order 5 = .ok (.invokevirtual 64, 3) := by decide +kernel
theorem dX5_order_8 : decode cX5_order 8 = .ok (.ifCond .ne 5, 3) := by decide +kernel
theorem dX5_order_11 : decode cX5_order 11 = .ok (.iconst (-1), 1) := by decide +kernel
theorem dX5_order_12 : decode cX5_order 12 = .ok (.ireturn, 1) := by decide +kernel
theorem dX5_order_13 : decode cX5_order 13 = .ok (.aload_n 0, 1) := by decide +kernel
theorem dX5_order_14 : decode cX5_order 14 = .ok (.getfield 31, 3) := by decide +kernel
theorem dX5_order_17 : decode cX5_order 17 = .ok (.getfield 126, 3) := by decide +kernel
theorem dX5_order_20 : decode cX5_order 20 = .ok (.ifCond .ne 6, 3) := by decide +kernel
theorem dX5_order_23 : decode cX5_order 23 = .ok (.bipush (-4), 2) := by decide +kernel
theorem dX5_order_25 : decode cX5_order 25 = .ok (.ireturn, 1) := by decide +kernel
theorem dX5_order_26 : decode cX5_order 26 = .ok (.aload_n 0, 1) := by decide +kernel
theorem dX5_order_27 : decode cX5_order 27 = .ok (.aload_n 0, 1) := by decide +kernel
theorem dX5_order_28 : decode cX5_order 28 = .ok (.getfield 31, 3) := by decide +kernel
theorem dX5_order_31 : decode cX5_order 31 = .ok (.invokevirtual 190, 3) := by decide +kernel
theorem dX5_order_34 : decode cX5_order 34 = .ok (.iload_n 1, 1) := by decide +kernel
theorem dX5_order_35 : decode cX5_order 35 = .ok (.invokevirtual 237, 3) := by decide +kernel
theorem dX5_order_38 : decode cX5_order 38 = .ok (.ireturn, 1) := by decide +kernel
def p5_order (a1 : Int32) (M : SX) : Option (Int32 × SX) :=
  bd (p4_isNumber 1 a1 M) (fun r3 M2 => if r3 = 0 then (some ((-1), M2))
  else (if (M2.1 17 0) = 0 then (some ((-4), M2))
  else (bd (p1_pawnedSet 17 M2) (fun r8 M7 => bd (p5_firstOrderTo r8 a1 M7) (fun r11 M10 => some (r11, M10))))))
set_option maxHeartbeats 4000000 in
set_option maxRecDepth 100000 in
theorem c5_order {l : Launch} {G : XG} {r : Int32} {M' : SX} {M : SX} (a1 : Int32) (hf : p5_order a1 M = some (r, M')) : Met l yX5_order (.code yX5_order cX5_order 2 (some .int) :: TBL) (rmX 6) (xPc G ZX M [.ref (G.2.1 0), .int a1]) (xQi G ZX r M') 0 0 (inA G ZX) := by
  refine x_met (cc := cX5_order) (by decide) (Nat.le_of_ble_eq_true rfl) ?_
  intro p e s m below meth c ls F hr hk hl hw
  have F : Fx G ZX p m c cX5_order 2 s [.ref (G.2.1 0), .int a1].toArray RX5 := F
  have hl : lv_has ls 2 [(0, .ref (G.2.1 0)), (1, .int a1)] := hl
  have hx := F.1.1
  have hb := F.1.2.1
  unfold p5_order at hf
  refine lv_aload_n hx hb dX5_order_0 rfl (lv_at hl 0 rfl) ?_
  refine g5_0 F hw tw_334 dX5_order_1 ?_
  refine lv_iload_n hx hb dX5_order_4 rfl (lv_at hl 1 rfl) ?_
  obtain ⟨r3, M2, hc1, hf⟩ := bd_some hf
  refine x_aftI hw (x_runV (rest := []) F hw hl.1 vw_RX5_64 (sS isS_1) rfl (c4_isNumber 1 isS_1 a1 hc1) rfl rfl (Nat.le_of_ble_eq_true rfl) ⟨Nat.le_of_ble_eq_true rfl, Nat.le_of_ble_eq_true rfl⟩ dX5_order_5) (fun H locs hw => ?_)
  refine lv_if_ne (tgt := 13) hx hb dX5_order_8 (by decide) (fun c4 => ?_) (fun c4 => ?_)
  · have hf := it_f hf c4
    refine lv_aload_n hx hb dX5_order_13 rfl (lv_at hl 0 rfl) ?_
    refine g5_3 F hw tw_306 dX5_order_14 ?_
    refine g1_0 isL_17 F hw tw_305 dX5_order_17 ?_
    refine lv_if_ne (tgt := 26) hx hb dX5_order_20 (by decide) (fun c5 => ?_) (fun c5 => ?_)
    · have hf := it_f hf c5
      refine lv_aload_n hx hb dX5_order_26 rfl (lv_at hl 0 rfl) ?_
      refine lv_aload_n hx hb dX5_order_27 rfl (lv_at hl 0 rfl) ?_
      refine g5_3 F hw tw_306 dX5_order_28 ?_
      obtain ⟨r8, M7, hc6, hf⟩ := bd_some hf
      refine x_aftI hw (x_runV (rest := [.ref (G.2.1 0)]) F hw hl.1 vw_RX5_190 (sL isL_17) rfl (c1_pawnedSet 17 isL_17 hc6) rfl rfl (Nat.le_of_ble_eq_true rfl) ⟨Nat.le_of_ble_eq_true rfl, Nat.le_of_ble_eq_true rfl⟩ dX5_order_31) (fun H locs hw => ?_)
      refine lv_iload_n hx hb dX5_order_34 rfl (lv_at hl 1 rfl) ?_
      obtain ⟨r11, M10, hc9, hf⟩ := bd_some hf
      refine x_aftI hw (x_runV (rest := []) F hw hl.1 vw_RX5_237 (sP) rfl (c5_firstOrderTo r8 a1 hc9) rfl rfl (Nat.le_of_ble_eq_true rfl) ⟨Nat.le_of_ble_eq_true rfl, Nat.le_of_ble_eq_true rfl⟩ dX5_order_35) (fun H locs hw => ?_)
      exact x_iret F hw hr hk hf dX5_order_38
    · have hf := it_t hf c5
      refine lv_bipush (v := (-4)) hx hb dX5_order_23 (by decide) ?_
      exact x_iret F hw hr hk hf dX5_order_25
  · have hf := it_t hf c4
    refine lv_iconst (v := (-1)) hx hb dX5_order_11 (by decide) ?_
    exact x_iret F hw hr hk hf dX5_order_12
theorem dX5_free_0 : decode cX5_free 0 = .ok (.aload_n 0, 1) := by decide +kernel
theorem dX5_free_1 : decode cX5_free 1 = .ok (.getfield 31, 3) := by decide +kernel
theorem dX5_free_4 : decode cX5_free 4 = .ok (.iload_n 1, 1) := by decide +kernel
theorem dX5_free_5 : decode cX5_free 5 = .ok (.invokevirtual 129, 3) := by decide +kernel
theorem dX5_free_8 : decode cX5_free 8 = .ok (.ifCond .eq 14, 3) := by decide +kernel
theorem dX5_free_11 : decode cX5_free 11 = .ok (.aload_n 0, 1) := by decide +kernel
theorem dX5_free_12 : decode cX5_free 12 = .ok (.getfield 14, 3) := by decide +kernel
theorem dX5_free_15 : decode cX5_free 15 = .ok (.iload_n 2, 1) := by decide +kernel
theorem dX5_free_16 : decode cX5_free 16 = .ok (.invokevirtual 64, 3) := by decide +kernel
theorem dX5_free_19 : decode cX5_free 19 = .ok (.ifCond .ne 5, 3) := by decide +kernel
theorem dX5_free_22 : decode cX5_free 22 = .ok (.iconst (-1), 1) := by decide +kernel
theorem dX5_free_23 : decode cX5_free 23 = .ok (.ireturn, 1) := by decide +kernel
theorem dX5_free_24 : decode cX5_free 24 = .ok (.aload_n 0, 1) := by decide +kernel
theorem dX5_free_25 : decode cX5_free 25 = .ok (.aload_n 0, 1) := by decide +kernel
theorem dX5_free_26 : decode cX5_free 26 = .ok (.getfield 31, 3) := by decide +kernel
theorem dX5_free_29 : decode cX5_free 29 = .ok (.invokevirtual 190, 3) := by decide +kernel
theorem dX5_free_32 : decode cX5_free 32 = .ok (.iconst 1, 1) := by decide +kernel
theorem dX5_free_33 : decode cX5_free 33 = .ok (.iload_n 1, 1) := by decide +kernel
theorem dX5_free_34 : decode cX5_free 34 = .ok (.ishl, 1) := by decide +kernel
theorem dX5_free_35 : decode cX5_free 35 = .ok (.iand, 1) := by decide +kernel
theorem dX5_free_36 : decode cX5_free 36 = .ok (.iload_n 2, 1) := by decide +kernel
theorem dX5_free_37 : decode cX5_free 37 = .ok (.invokevirtual 237, 3) := by decide +kernel
theorem dX5_free_40 : decode cX5_free 40 = .ok (.ireturn, 1) := by decide +kernel
def p5_free (a1 : Int32) (a2 : Int32) (M : SX) : Option (Int32 × SX) :=
  bd (p1_isShop 17 a1 M) (fun r3 M2 => if r3 = 0 then (some ((-1), M2))
  else (bd (p4_isNumber 1 a2 M2) (fun r7 M6 => if r7 = 0 then (some ((-1), M6))
  else (bd (p1_pawnedSet 17 M6) (fun r11 M10 => bd (p5_firstOrderTo (r11 &&& ((1 : Int32) <<< (a1 &&& 31))) a2 M10) (fun r14 M13 => some (r14, M13)))))))
set_option maxHeartbeats 4000000 in
set_option maxRecDepth 100000 in
theorem c5_free {l : Launch} {G : XG} {r : Int32} {M' : SX} {M : SX} (a1 : Int32) (a2 : Int32) (hf : p5_free a1 a2 M = some (r, M')) : Met l yX5_free (.code yX5_free cX5_free 3 (some .int) :: TBL) (rmX 6) (xPc G ZX M [.ref (G.2.1 0), .int a1, .int a2]) (xQi G ZX r M') 0 0 (inA G ZX) := by
  refine x_met (cc := cX5_free) (by decide) (Nat.le_of_ble_eq_true rfl) ?_
  intro p e s m below meth c ls F hr hk hl hw
  have F : Fx G ZX p m c cX5_free 3 s [.ref (G.2.1 0), .int a1, .int a2].toArray RX5 := F
  have hl : lv_has ls 3 [(0, .ref (G.2.1 0)), (1, .int a1), (2, .int a2)] := hl
  have hx := F.1.1
  have hb := F.1.2.1
  unfold p5_free at hf
  refine lv_aload_n hx hb dX5_free_0 rfl (lv_at hl 0 rfl) ?_
  refine g5_3 F hw tw_306 dX5_free_1 ?_
  refine lv_iload_n hx hb dX5_free_4 rfl (lv_at hl 1 rfl) ?_
  obtain ⟨r3, M2, hc1, hf⟩ := bd_some hf
  refine x_aftI hw (x_runV (rest := []) F hw hl.1 vw_RX5_129 (sL isL_17) rfl (c1_isShop 17 isL_17 a1 hc1) rfl rfl (Nat.le_of_ble_eq_true rfl) ⟨Nat.le_of_ble_eq_true rfl, Nat.le_of_ble_eq_true rfl⟩ dX5_free_5) (fun H locs hw => ?_)
  refine lv_if_eq (tgt := 22) hx hb dX5_free_8 (by decide) (fun c4 => ?_) (fun c4 => ?_)
  · have hf := it_t hf c4
    refine lv_iconst (v := (-1)) hx hb dX5_free_22 (by decide) ?_
    exact x_iret F hw hr hk hf dX5_free_23
  · have hf := it_f hf c4
    refine lv_aload_n hx hb dX5_free_11 rfl (lv_at hl 0 rfl) ?_
    refine g5_0 F hw tw_334 dX5_free_12 ?_
    refine lv_iload_n hx hb dX5_free_15 rfl (lv_at hl 2 rfl) ?_
    obtain ⟨r7, M6, hc5, hf⟩ := bd_some hf
    refine x_aftI hw (x_runV (rest := []) F hw hl.1 vw_RX5_64 (sS isS_1) rfl (c4_isNumber 1 isS_1 a2 hc5) rfl rfl (Nat.le_of_ble_eq_true rfl) ⟨Nat.le_of_ble_eq_true rfl, Nat.le_of_ble_eq_true rfl⟩ dX5_free_16) (fun H locs hw => ?_)
    refine lv_if_ne (tgt := 24) hx hb dX5_free_19 (by decide) (fun c8 => ?_) (fun c8 => ?_)
    · have hf := it_f hf c8
      refine lv_aload_n hx hb dX5_free_24 rfl (lv_at hl 0 rfl) ?_
      refine lv_aload_n hx hb dX5_free_25 rfl (lv_at hl 0 rfl) ?_
      refine g5_3 F hw tw_306 dX5_free_26 ?_
      obtain ⟨r11, M10, hc9, hf⟩ := bd_some hf
      refine x_aftI hw (x_runV (rest := [.ref (G.2.1 0)]) F hw hl.1 vw_RX5_190 (sL isL_17) rfl (c1_pawnedSet 17 isL_17 hc9) rfl rfl (Nat.le_of_ble_eq_true rfl) ⟨Nat.le_of_ble_eq_true rfl, Nat.le_of_ble_eq_true rfl⟩ dX5_free_29) (fun H locs hw => ?_)
      refine lv_iconst (v := 1) hx hb dX5_free_32 (by decide) ?_
      refine lv_iload_n hx hb dX5_free_33 rfl (lv_at hl 1 rfl) ?_
      refine lv_ishl hx hb dX5_free_34 ?_
      refine lv_iand hx hb dX5_free_35 ?_
      refine lv_iload_n hx hb dX5_free_36 rfl (lv_at hl 2 rfl) ?_
      obtain ⟨r14, M13, hc12, hf⟩ := bd_some hf
      refine x_aftI hw (x_runV (rest := []) F hw hl.1 vw_RX5_237 (sP) rfl (c5_firstOrderTo (r11 &&& ((1 : Int32) <<< (a1 &&& 31))) a2 hc12) rfl rfl (Nat.le_of_ble_eq_true rfl) ⟨Nat.le_of_ble_eq_true rfl, Nat.le_of_ble_eq_true rfl⟩ dX5_free_37) (fun H locs hw => ?_)
      exact x_iret F hw hr hk hf dX5_free_40
    · have hf := it_t hf c8
      refine lv_iconst (v := (-1)) hx hb dX5_free_22 (by decide) ?_
      exact x_iret F hw hr hk hf dX5_free_23
theorem dX5_chalked_0 : decode cX5_chalked 0 = .ok (.aload_n 0, 1) := by decide +kernel
theorem dX5_chalked_1 : decode cX5_chalked 1 = .ok (.getfield 172, 3) := by decide +kernel
theorem dX5_chalked_4 : decode cX5_chalked 4 = .ok (.iload_n 1, 1) := by decide +kernel
theorem dX5_chalked_5 : decode cX5_chalked 5 = .ok (.iaload, 1) := by decide +kernel
theorem dX5_chalked_6 : decode cX5_chalked 6 = .ok (.istore_n 3, 1) := by decide +kernel
theorem dX5_chalked_7 : decode cX5_chalked 7 = .ok (.iload_n 2, 1) := by decide +kernel
theorem dX5_chalked_8 : decode cX5_chalked 8 = .ok (.ifCond .gt 5, 3) := by decide +kernel
theorem dX5_chalked_11 : decode cX5_chalked 11 = .ok (.iload_n 3, 1) := by decide +kernel
theorem dX5_chalked_12 : decode cX5_chalked 12 = .ok (.ireturn, 1) := by decide +kernel
theorem dX5_chalked_13 : decode cX5_chalked 13 = .ok (.iconst 0, 1) := by decide +kernel
theorem dX5_chalked_14 : decode cX5_chalked 14 = .ok (.istore 4, 2) := by decide +kernel
theorem dX5_chalked_16 : decode cX5_chalked 16 = .ok (.iload 4, 2) := by decide +kernel
theorem dX5_chalked_18 : decode cX5_chalked 18 = .ok (.aload_n 0, 1) := by decide +kernel
theorem dX5_chalked_19 : decode cX5_chalked 19 = .ok (.getfield 126, 3) := by decide +kernel
theorem dX5_chalked_22 : decode cX5_chalked 22 = .ok (.if_icmp .ge 34, 3) := by decide +kernel
theorem dX5_chalked_25 : decode cX5_chalked 25 = .ok (.aload_n 0, 1) := by decide +kernel
theorem dX5_chalked_26 : decode cX5_chalked 26 = .ok (.getfield 215, 3) := by decide +kernel
theorem dX5_chalked_29 : decode cX5_chalked 29 = .ok (.iload 4, 2) := by decide +kernel
theorem dX5_chalked_31 : decode cX5_chalked 31 = .ok (.iaload, 1) := by decide +kernel
theorem dX5_chalked_32 : decode cX5_chalked 32 = .ok (.iload_n 1, 1) := by decide +kernel
theorem dX5_chalked_33 : decode cX5_chalked 33 = .ok (.if_icmp .ne 17, 3) := by decide +kernel
theorem dX5_chalked_36 : decode cX5_chalked 36 = .ok (.iload_n 3, 1) := by decide +kernel
theorem dX5_chalked_37 : decode cX5_chalked 37 = .ok (.aload_n 0, 1) := by decide +kernel
theorem dX5_chalked_38 : decode cX5_chalked 38 = .ok (.iload 4, 2) := by decide +kernel
theorem dX5_chalked_40 : decode cX5_chalked 40 = .ok (.iload_n 2, 1) := by decide +kernel
theorem dX5_chalked_41 : decode cX5_chalked 41 = .ok (.iconst 1, 1) := by decide +kernel
theorem dX5_chalked_42 : decode cX5_chalked 42 = .ok (.isub, 1) := by decide +kernel
theorem dX5_chalked_43 : decode cX5_chalked 43 = .ok (.invokestatic 233, 3) := by decide +kernel
theorem dX5_chalked_46 : decode cX5_chalked 46 = .ok (.iconst 2, 1) := by decide +kernel
theorem dX5_chalked_47 : decode cX5_chalked 47 = .ok (.idiv, 1) := by decide +kernel
theorem dX5_chalked_48 : decode cX5_chalked 48 = .ok (.iadd, 1) := by decide +kernel
theorem dX5_chalked_49 : decode cX5_chalked 49 = .ok (.istore_n 3, 1) := by decide +kernel
theorem dX5_chalked_50 : decode cX5_chalked 50 = .ok (.iinc 4 1, 3) := by decide +kernel
theorem dX5_chalked_53 : decode cX5_chalked 53 = .ok (.goto (-37), 3) := by decide +kernel
theorem dX5_chalked_56 : decode cX5_chalked 56 = .ok (.iload_n 3, 1) := by decide +kernel
theorem dX5_chalked_57 : decode cX5_chalked 57 = .ok (.ireturn, 1) := by decide +kernel
def p5_chalked_50 (self : Nat → Int32 → Int32 → SX → Option (Int32 × SX)) (b : Nat) (k16 : Int32 → Int32 → Int32 → Int32 → SX → Option (Int32 × SX)) (v1 : Int32) (v2 : Int32) (v3 : Int32) (v4 : Int32) (M : SX) : Option (Int32 × SX) :=
  lt_ (v4 + 1) (fun x1 => k16 v1 v2 v3 x1 M)
set_option maxHeartbeats 4000000 in
set_option maxRecDepth 100000 in
theorem w5_chalked_50 {G : XG} {p : Program} {l : Launch} {e : Env} {s : State} {m : MethodId} {args : Array Value} {below : List Frame} {meth : Method} {c : Code} (F : Fx G ZX p m c cX5_chalked 5 s args RX5) (hr : meth.sig.returnType = some .int) (hk : meth.locks = false) {r : Int32} {M' : SX} (self : Nat → Int32 → Int32 → SX → Option (Int32 × SX)) (dd : Nat) (hself : ∀ (b : Nat) (qb : isL b) (a2 : Int32) (a3 : Int32) (r : Int32) (M M' : SX), self b a2 a3 M = some (r, M') → Met l yX5_chalked (.code yX5_chalked cX5_chalked 5 (some .int) :: TBL) (rmX dd) (xPc G ZX M [.ref (G.2.1 b), .int a2, .int a3]) (xQi G ZX r M') 0 0 (inA G ZX)) (b : Nat) (qb : isL b) (k16 : Int32 → Int32 → Int32 → Int32 → SX → Option (Int32 × SX)) (hk16 : ∀ (v1 : Int32) (v2 : Int32) (v3 : Int32) (v4 : Int32) (M : SX) (H : Heap) (locs : List Loc) (ls : Array Slot), Wld G ZX M s.heap H locs → lv_has ls 5 [(0, .ref (G.2.1 b)), (1, .int v1), (2, .int v2), (3, .int v3), (4, .int v4)] → k16 v1 v2 v3 v4 M = some (r, M') → WXi G ZX p l e (dd + 1) s m args below meth c r M' H locs (F0 m 16 ls [])) : ∀ (v1 : Int32) (v2 : Int32) (v3 : Int32) (v4 : Int32) (M : SX) (H : Heap) (locs : List Loc) (ls : Array Slot), Wld G ZX M s.heap H locs → lv_has ls 5 [(0, .ref (G.2.1 b)), (1, .int v1), (2, .int v2), (3, .int v3), (4, .int v4)] → p5_chalked_50 self b k16 v1 v2 v3 v4 M = some (r, M') → WXi G ZX p l e (dd + 1) s m args below meth c r M' H locs (F0 m 50 ls []) := by
  intro v1 v2 v3 v4 M H locs ls hw hl hf
  have hx := F.1.1
  have hb := F.1.2.1
  unfold p5_chalked_50 at hf
  obtain ⟨x1, ex1, hf⟩ := lt_elim hf
  refine lv_iinc (v := x1) (lv' := [(4, .int x1), (0, .ref (G.2.1 b)), (1, .int v1), (2, .int v2), (3, .int v3)]) hx hb dX5_chalked_50 hl (k := 4) rfl (by rw [ex1]; rfl) (by decide) rfl (fun ls hl => ?_)
  refine lv_goto (tgt := 16) hx hb dX5_chalked_53 (by decide) ?_
  exact hk16 v1 v2 v3 x1 M _ _ ls hw (lv_sub hl [1, 2, 3, 4, 0] rfl) hf
def p5_chalked_16 (self : Nat → Int32 → Int32 → SX → Option (Int32 × SX)) (b : Nat) (k16 : Int32 → Int32 → Int32 → Int32 → SX → Option (Int32 × SX)) (v1 : Int32) (v2 : Int32) (v3 : Int32) (v4 : Int32) (M : SX) : Option (Int32 × SX) :=
  if (M.1 b 0) ≤ v4 then (some (v3, M))
  else (gd (bIn v4 6) ( if (M.1 (b + 4) (Int32.toNatClampNeg v4)) = v1 then (bd (self b v4 (v2 - 1) M) (fun r6 M5 => lt_ (v3 + (r6 / 2)) (fun x7 => p5_chalked_50 self b k16 v1 v2 x7 v4 M5)))
  else (p5_chalked_50 self b k16 v1 v2 v3 v4 M)))
set_option maxHeartbeats 4000000 in
set_option maxRecDepth 100000 in
theorem w5_chalked_16 {G : XG} {p : Program} {l : Launch} {e : Env} {s : State} {m : MethodId} {args : Array Value} {below : List Frame} {meth : Method} {c : Code} (F : Fx G ZX p m c cX5_chalked 5 s args RX5) (hr : meth.sig.returnType = some .int) (hk : meth.locks = false) {r : Int32} {M' : SX} (self : Nat → Int32 → Int32 → SX → Option (Int32 × SX)) (dd : Nat) (hself : ∀ (b : Nat) (qb : isL b) (a2 : Int32) (a3 : Int32) (r : Int32) (M M' : SX), self b a2 a3 M = some (r, M') → Met l yX5_chalked (.code yX5_chalked cX5_chalked 5 (some .int) :: TBL) (rmX dd) (xPc G ZX M [.ref (G.2.1 b), .int a2, .int a3]) (xQi G ZX r M') 0 0 (inA G ZX)) (b : Nat) (qb : isL b) (k16 : Int32 → Int32 → Int32 → Int32 → SX → Option (Int32 × SX)) (hk16 : ∀ (v1 : Int32) (v2 : Int32) (v3 : Int32) (v4 : Int32) (M : SX) (H : Heap) (locs : List Loc) (ls : Array Slot), Wld G ZX M s.heap H locs → lv_has ls 5 [(0, .ref (G.2.1 b)), (1, .int v1), (2, .int v2), (3, .int v3), (4, .int v4)] → k16 v1 v2 v3 v4 M = some (r, M') → WXi G ZX p l e (dd + 1) s m args below meth c r M' H locs (F0 m 16 ls [])) : ∀ (v1 : Int32) (v2 : Int32) (v3 : Int32) (v4 : Int32) (M : SX) (H : Heap) (locs : List Loc) (ls : Array Slot), Wld G ZX M s.heap H locs → lv_has ls 5 [(0, .ref (G.2.1 b)), (1, .int v1), (2, .int v2), (3, .int v3), (4, .int v4)] → p5_chalked_16 self b k16 v1 v2 v3 v4 M = some (r, M') → WXi G ZX p l e (dd + 1) s m args below meth c r M' H locs (F0 m 16 ls []) := by
  intro v1 v2 v3 v4 M H locs ls hw hl hf
  have hx := F.1.1
  have hb := F.1.2.1
  unfold p5_chalked_16 at hf
  refine lv_iload hx hb dX5_chalked_16 (lv_at hl 4 rfl) ?_
  refine lv_aload_n hx hb dX5_chalked_18 rfl (lv_at hl 0 rfl) ?_
  refine g1_0 qb F hw tw_305 dX5_chalked_19 ?_
  refine lv_icmp_ge (tgt := 56) hx hb dX5_chalked_22 (by decide) (fun c1 => ?_) (fun c1 => ?_)
  · have hf := it_t hf c1
    refine lv_iload_n hx hb dX5_chalked_56 rfl (lv_at hl 3 rfl) ?_
    exact x_iret F hw hr hk hf dX5_chalked_57
  · have hf := it_f hf c1
    refine lv_aload_n hx hb dX5_chalked_25 rfl (lv_at hl 0 rfl) ?_
    refine g1_4 qb F hw tw_314 dX5_chalked_26 ?_
    refine lv_iload hx hb dX5_chalked_29 (lv_at hl 4 rfl) ?_
    obtain ⟨g2, hf⟩ := gd_some hf
    refine x_iald F hw (sL4 qb) g2 dX5_chalked_31 ?_
    refine lv_iload_n hx hb dX5_chalked_32 rfl (lv_at hl 1 rfl) ?_
    refine lv_icmp_ne (tgt := 50) hx hb dX5_chalked_33 (by decide) (fun c3 => ?_) (fun c3 => ?_)
    · have hf := it_f hf c3
      exact w5_chalked_50 F hr hk self dd hself b qb k16 hk16 v1 v2 v3 v4 M _ _ ls hw (lv_sub hl [0, 1, 2, 3, 4] rfl) hf
    · have hf := it_t hf c3
      refine lv_iload_n hx hb dX5_chalked_36 rfl (lv_at hl 3 rfl) ?_
      refine lv_aload_n hx hb dX5_chalked_37 rfl (lv_at hl 0 rfl) ?_
      refine lv_iload hx hb dX5_chalked_38 (lv_at hl 4 rfl) ?_
      refine lv_iload_n hx hb dX5_chalked_40 rfl (lv_at hl 2 rfl) ?_
      refine lv_iconst (v := 1) hx hb dX5_chalked_41 (by decide) ?_
      refine lv_isub hx hb dX5_chalked_42 ?_
      obtain ⟨r6, M5, hc4, hf⟩ := bd_some hf
      refine x_aftI hw (x_runS (rest := [.int v3]) F hw hl.1 sw_RX5_233 (hself b qb v4 (v2 - 1) r6 M M5 hc4) rfl rfl (Nat.le_of_ble_eq_true rfl) ⟨Nat.le_refl _, by show 8 + _ + 100 * dd ≤ 100 * (dd + 1); omega⟩ dX5_chalked_43) (fun H locs hw => ?_)
      refine lv_iconst (v := 2) hx hb dX5_chalked_46 (by decide) ?_
      refine lv_idiv hx hb dX5_chalked_47 (by decide) ?_
      refine lv_iadd hx hb dX5_chalked_48 ?_
      obtain ⟨x7, ex7, hf⟩ := lt_elim hf
      refine x_let ex7 ?_
      refine lv_istore_n (lv' := [(3, .int x7), (0, .ref (G.2.1 b)), (1, .int v1), (2, .int v2), (4, .int v4)]) hx hb dX5_chalked_49 rfl hl (by decide) rfl (fun ls hl => ?_)
      exact w5_chalked_50 F hr hk self dd hself b qb k16 hk16 v1 v2 x7 v4 M5 _ _ ls hw (lv_sub hl [1, 2, 3, 0, 4] rfl) hf
theorem z5_chalked_16 {G : XG} {p : Program} {l : Launch} {e : Env} {s : State} {m : MethodId} {args : Array Value} {below : List Frame} {meth : Method} {c : Code} (F : Fx G ZX p m c cX5_chalked 5 s args RX5) (hr : meth.sig.returnType = some .int) (hk : meth.locks = false) {r : Int32} {M' : SX} (self : Nat → Int32 → Int32 → SX → Option (Int32 × SX)) (dd : Nat) (hself : ∀ (b : Nat) (qb : isL b) (a2 : Int32) (a3 : Int32) (r : Int32) (M M' : SX), self b a2 a3 M = some (r, M') → Met l yX5_chalked (.code yX5_chalked cX5_chalked 5 (some .int) :: TBL) (rmX dd) (xPc G ZX M [.ref (G.2.1 b), .int a2, .int a3]) (xQi G ZX r M') 0 0 (inA G ZX)) (b : Nat) (qb : isL b) : ∀ n : Nat, ∀ (v1 : Int32) (v2 : Int32) (v3 : Int32) (v4 : Int32) (M : SX) (H : Heap) (locs : List Loc) (ls : Array Slot), Wld G ZX M s.heap H locs → lv_has ls 5 [(0, .ref (G.2.1 b)), (1, .int v1), (2, .int v2), (3, .int v3), (4, .int v4)] → xlp4 (p5_chalked_16 self b) n v1 v2 v3 v4 M = some (r, M') → WXi G ZX p l e (dd + 1) s m args below meth c r M' H locs (F0 m 16 ls []) := by
  intro n
  induction n with
  | zero => intro _ _ _ _ _ _ _ _ _ _ hf; cases hf
  | succ n ih => exact w5_chalked_16 F hr hk self dd hself b qb (xlp4 (p5_chalked_16 self b) n) ih
def p5_chalked_F (self : Nat → Int32 → Int32 → SX → Option (Int32 × SX)) (b : Nat) (a2 : Int32) (a3 : Int32) (M : SX) : Option (Int32 × SX) :=
  gd (bIn a2 6) ( lt_ (M.1 (b + 3) (Int32.toNatClampNeg a2)) (fun x2 => if 0 < a3 then (xlp4 (p5_chalked_16 self b) FU a2 a3 x2 0 M)
  else (some (x2, M))))
def p5_chalked (n : Nat) (b : Nat) (a2 : Int32) (a3 : Int32) (M : SX) : Option (Int32 × SX) := xlp3 p5_chalked_F n b a2 a3 M
set_option maxHeartbeats 4000000 in
set_option maxRecDepth 100000 in
theorem c5_chalked_F {l : Launch} {G : XG} {r : Int32} {M' : SX} {M : SX} (self : Nat → Int32 → Int32 → SX → Option (Int32 × SX)) (dd : Nat) (hself : ∀ (b : Nat) (qb : isL b) (a2 : Int32) (a3 : Int32) (r : Int32) (M M' : SX), self b a2 a3 M = some (r, M') → Met l yX5_chalked (.code yX5_chalked cX5_chalked 5 (some .int) :: TBL) (rmX dd) (xPc G ZX M [.ref (G.2.1 b), .int a2, .int a3]) (xQi G ZX r M') 0 0 (inA G ZX)) (b : Nat) (qb : isL b) (a2 : Int32) (a3 : Int32) (hf : p5_chalked_F self b a2 a3 M = some (r, M')) : Met l yX5_chalked (.code yX5_chalked cX5_chalked 5 (some .int) :: TBL) (rmX (dd + 1)) (xPc G ZX M [.ref (G.2.1 b), .int a2, .int a3]) (xQi G ZX r M') 0 0 (inA G ZX) := by
  refine x_met (cc := cX5_chalked) (by decide) (Nat.le_of_ble_eq_true rfl) ?_
  intro p e s m below meth c ls F hr hk hl hw
  have F : Fx G ZX p m c cX5_chalked 5 s [.ref (G.2.1 b), .int a2, .int a3].toArray RX5 := F
  have hl : lv_has ls 5 [(0, .ref (G.2.1 b)), (1, .int a2), (2, .int a3)] := hl
  have hx := F.1.1
  have hb := F.1.2.1
  unfold p5_chalked_F at hf
  refine lv_aload_n hx hb dX5_chalked_0 rfl (lv_at hl 0 rfl) ?_
  refine g1_3 qb F hw tw_311 dX5_chalked_1 ?_
  refine lv_iload_n hx hb dX5_chalked_4 rfl (lv_at hl 1 rfl) ?_
  obtain ⟨g1, hf⟩ := gd_some hf
  refine x_iald F hw (sL3 qb) g1 dX5_chalked_5 ?_
  obtain ⟨x2, ex2, hf⟩ := lt_elim hf
  refine x_let ex2 ?_
  refine lv_istore_n (lv' := [(3, .int x2), (0, .ref (G.2.1 b)), (1, .int a2), (2, .int a3)]) hx hb dX5_chalked_6 rfl hl (by decide) rfl (fun ls hl => ?_)
  refine lv_iload_n hx hb dX5_chalked_7 rfl (lv_at hl 3 rfl) ?_
  refine lv_if_gt (tgt := 13) hx hb dX5_chalked_8 (by decide) (fun c3 => ?_) (fun c3 => ?_)
  · have hf := it_t hf c3
    refine lv_iconst (v := 0) hx hb dX5_chalked_13 (by decide) ?_
    refine lv_istore (lv' := [(4, .int 0), (3, .int x2), (0, .ref (G.2.1 b)), (1, .int a2), (2, .int a3)]) hx hb dX5_chalked_14 hl (by decide) rfl (fun ls hl => ?_)
    exact z5_chalked_16 F hr hk self dd hself b qb FU a2 a3 x2 0 M _ _ ls hw (lv_sub hl [2, 3, 4, 1, 0] rfl) hf
  · have hf := it_f hf c3
    refine lv_iload_n hx hb dX5_chalked_11 rfl (lv_at hl 0 rfl) ?_
    exact x_iret F hw hr hk hf dX5_chalked_12
set_option maxHeartbeats 4000000 in
set_option maxRecDepth 100000 in
theorem c5_chalked {l : Launch} {G : XG} : ∀ (n : Nat) (b : Nat) (qb : isL b) (a2 : Int32) (a3 : Int32) (r : Int32) (M M' : SX) (hf : p5_chalked n b a2 a3 M = some (r, M')), Met l yX5_chalked (.code yX5_chalked cX5_chalked 5 (some .int) :: TBL) (rmX n) (xPc G ZX M [.ref (G.2.1 b), .int a2, .int a3]) (xQi G ZX r M') 0 0 (inA G ZX) := by
  intro n
  induction n with
  | zero => intros; rename_i hf; cases hf
  | succ n ih => intro b qb a2 a3 r M M' hf; exact c5_chalked_F (M := M) (xlp3 p5_chalked_F n) n ih b qb a2 a3 hf
theorem dX5_chalk_0 : decode cX5_chalk 0 = .ok (.aload_n 0, 1) := by decide +kernel
theorem dX5_chalk_1 : decode cX5_chalk 1 = .ok (.getfield 31, 3) := by decide +kernel
theorem dX5_chalk_4 : decode cX5_chalk 4 = .ok (.iload_n 1, 1) := by decide +kernel
theorem dX5_chalk_5 : decode cX5_chalk 5 = .ok (.invokevirtual 129, 3) := by decide +kernel
theorem dX5_chalk_8 : decode cX5_chalk 8 = .ok (.ifCond .eq 13, 3) := by decide +kernel
theorem dX5_chalk_11 : decode cX5_chalk 11 = .ok (.iload_n 2, 1) := by decide +kernel
theorem dX5_chalk_12 : decode cX5_chalk 12 = .ok (.ifCond .lt 9, 3) := by decide +kernel
theorem dX5_chalk_15 : decode cX5_chalk 15 = .ok (.iload_n 2, 1) := by decide +kernel
theorem dX5_chalk_16 : decode cX5_chalk 16 = .ok (.bipush 6, 2) := by decide +kernel
theorem dX5_chalk_18 : decode cX5_chalk 18 = .ok (.if_icmp .le 5, 3) := by decide +kernel
theorem dX5_chalk_21 : decode cX5_chalk 21 = .ok (.iconst (-1), 1) := by decide +kernel
theorem dX5_chalk_22 : decode cX5_chalk 22 = .ok (.ireturn, 1) := by decide +kernel
theorem dX5_chalk_23 : decode cX5_chalk 23 = .ok (.aload_n 0, 1) := by decide +kernel
theorem dX5_chalk_24 : decode cX5_chalk 24 = .ok (.getfield 31, 3) := by decide +kernel
theorem dX5_chalk_27 : decode cX5_chalk 27 = .ok (.iload_n 1, 1) := by decide +kernel
theorem dX5_chalk_28 : decode cX5_chalk 28 = .ok (.iload_n 2, 1) := by decide +kernel
theorem dX5_chalk_29 : decode cX5_chalk 29 = .ok (.invokestatic 233, 3) := by decide +kernel
theorem dX5_chalk_32 : decode cX5_chalk 32 = .ok (.ireturn, 1) := by decide +kernel
def p5_chalk (a1 : Int32) (a2 : Int32) (M : SX) : Option (Int32 × SX) :=
  bd (p1_isShop 17 a1 M) (fun r3 M2 => if r3 = 0 then (some ((-1), M2))
  else (if a2 < 0 then (some ((-1), M2))
  else (if a2 ≤ (6 : Int32) then (bd (p5_chalked 8 17 a1 a2 M2) (fun r9 M8 => some (r9, M8)))
  else (some ((-1), M2)))))
set_option maxHeartbeats 4000000 in
set_option maxRecDepth 100000 in
theorem c5_chalk {l : Launch} {G : XG} {r : Int32} {M' : SX} {M : SX} (a1 : Int32) (a2 : Int32) (hf : p5_chalk a1 a2 M = some (r, M')) : Met l yX5_chalk (.code yX5_chalk cX5_chalk 3 (some .int) :: TBL) (rmX 9) (xPc G ZX M [.ref (G.2.1 0), .int a1, .int a2]) (xQi G ZX r M') 0 0 (inA G ZX) := by
  refine x_met (cc := cX5_chalk) (by decide) (Nat.le_of_ble_eq_true rfl) ?_
  intro p e s m below meth c ls F hr hk hl hw
  have F : Fx G ZX p m c cX5_chalk 3 s [.ref (G.2.1 0), .int a1, .int a2].toArray RX5 := F
  have hl : lv_has ls 3 [(0, .ref (G.2.1 0)), (1, .int a1), (2, .int a2)] := hl
  have hx := F.1.1
  have hb := F.1.2.1
  unfold p5_chalk at hf
  refine lv_aload_n hx hb dX5_chalk_0 rfl (lv_at hl 0 rfl) ?_
  refine g5_3 F hw tw_306 dX5_chalk_1 ?_
  refine lv_iload_n hx hb dX5_chalk_4 rfl (lv_at hl 1 rfl) ?_
  obtain ⟨r3, M2, hc1, hf⟩ := bd_some hf
  refine x_aftI hw (x_runV (rest := []) F hw hl.1 vw_RX5_129 (sL isL_17) rfl (c1_isShop 17 isL_17 a1 hc1) rfl rfl (Nat.le_of_ble_eq_true rfl) ⟨Nat.le_of_ble_eq_true rfl, Nat.le_of_ble_eq_true rfl⟩ dX5_chalk_5) (fun H locs hw => ?_)
  refine lv_if_eq (tgt := 21) hx hb dX5_chalk_8 (by decide) (fun c4 => ?_) (fun c4 => ?_)
  · have hf := it_t hf c4
    refine lv_iconst (v := (-1)) hx hb dX5_chalk_21 (by decide) ?_
    exact x_iret F hw hr hk hf dX5_chalk_22
  · have hf := it_f hf c4
    refine lv_iload_n hx hb dX5_chalk_11 rfl (lv_at hl 2 rfl) ?_
    refine lv_if_lt (tgt := 21) hx hb dX5_chalk_12 (by decide) (fun c5 => ?_) (fun c5 => ?_)
    · have hf := it_t hf c5
      refine lv_iconst (v := (-1)) hx hb dX5_chalk_21 (by decide) ?_
      exact x_iret F hw hr hk hf dX5_chalk_22
    · have hf := it_f hf c5
      refine lv_iload_n hx hb dX5_chalk_15 rfl (lv_at hl 2 rfl) ?_
      refine lv_bipush (v := 6) hx hb dX5_chalk_16 (by decide) ?_
      refine lv_icmp_le (tgt := 23) hx hb dX5_chalk_18 (by decide) (fun c6 => ?_) (fun c6 => ?_)
      · have hf := it_t hf c6
        refine lv_aload_n hx hb dX5_chalk_23 rfl (lv_at hl 0 rfl) ?_
        refine g5_3 F hw tw_306 dX5_chalk_24 ?_
        refine lv_iload_n hx hb dX5_chalk_27 rfl (lv_at hl 1 rfl) ?_
        refine lv_iload_n hx hb dX5_chalk_28 rfl (lv_at hl 2 rfl) ?_
        obtain ⟨r9, M8, hc7, hf⟩ := bd_some hf
        refine x_aftI hw (x_runS (rest := []) F hw hl.1 sw_RX5_233 (c5_chalked 8 17 isL_17 a1 a2 r9 M2 M8 hc7) rfl rfl (Nat.le_of_ble_eq_true rfl) ⟨Nat.le_of_ble_eq_true rfl, Nat.le_of_ble_eq_true rfl⟩ dX5_chalk_29) (fun H locs hw => ?_)
        exact x_iret F hw hr hk hf dX5_chalk_32
      · have hf := it_f hf c6
        refine lv_iconst (v := (-1)) hx hb dX5_chalk_21 (by decide) ?_
        exact x_iret F hw hr hk hf dX5_chalk_22
