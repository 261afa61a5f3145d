theorem dX5_missing_0 : decode cX5_missing 0 = .ok (.aload_n 0, 1) := by decide +kernel
theorem dX5_missing_1 : decode cX5_missing 1 = .ok (.iload_n 1, 1) := by decide +kernel
theorem dX5_missing_2 : decode cX5_missing 2 = .ok (.invokevirtual 268, 3) := by decide +kernel
theorem dX5_missing_5 : decode cX5_missing 5 = .ok (.istore_n 2, 1) := by decide +kernel
theorem dX5_missing_6 : decode cX5_missing 6 = .ok (.iload_n 2, 1) := by decide +kernel
theorem dX5_missing_7 : decode cX5_missing 7 = .ok (.ifCond .eq 5, 3) := by decide +kernel
theorem dX5_missing_10 : decode cX5_missing 10 = .ok (.iload_n 2, 1) := by decide +kernel
theorem dX5_missing_11 : decode cX5_missing 11 = .ok (.ireturn, 1) := by decide +kernel
theorem dX5_missing_12 : decode cX5_missing 12 = .ok (.aload_n 0, 1) := by decide +kernel
theorem dX5_missing_13 : decode cX5_missing 13 = .ok (.getfield 42, 3) := by decide +kernel
theorem dX5_missing_16 : decode cX5_missing 16 = .ok (.aload_n 0, 1) := by decide +kernel
theorem dX5_missing_17 : decode cX5_missing 17 = .ok (.getfield 31, 3) := by decide +kernel
theorem dX5_missing_20 : decode cX5_missing 20 = .ok (.iconst 0, 1) := by decide +kernel
theorem dX5_missing_21 : decode cX5_missing 21 = .ok (.invokevirtual 156, 3) := by decide +kernel
theorem dX5_missing_24 : decode cX5_missing 24 = .ok (.iconst 0, 1) := by decide +kernel
theorem dX5_missing_25 : decode cX5_missing 25 = .ok (.istore_n 3, 1) := by decide +kernel
theorem dX5_missing_26 : decode cX5_missing 26 = .ok (.aload_n 0, 1) := by decide +kernel
theorem dX5_missing_27 : decode cX5_missing 27 = .ok (.getfield 14, 3) := by decide +kernel
theorem dX5_missing_30 : decode cX5_missing 30 = .ok (.iload_n 1, 1) := by decide +kernel
theorem dX5_missing_31 : decode cX5_missing 31 = .ok (.invokevirtual 106, 3) := by decide +kernel
theorem dX5_missing_34 : decode cX5_missing 34 = .ok (.istore 4, 2) := by decide +kernel
theorem dX5_missing_36 : decode cX5_missing 36 = .ok (.iconst 0, 1) := by decide +kernel
theorem dX5_missing_37 : decode cX5_missing 37 = .ok (.istore 5, 2) := by decide +kernel
theorem dX5_missing_39 : decode cX5_missing 39 = .ok (.iload 5, 2) := by decide +kernel
theorem dX5_missing_41 : decode cX5_missing 41 = .ok (.iload 4, 2) := by decide +kernel
theorem dX5_missing_43 : decode cX5_missing 43 = .ok (.if_icmp .ge 39, 3) := by decide +kernel
theorem dX5_missing_46 : decode cX5_missing 46 = .ok (.aload_n 0, 1) := by decide +kernel
theorem dX5_missing_47 : decode cX5_missing 47 = .ok (.getfield 14, 3) := by decide +kernel
theorem dX5_missing_50 : decode cX5_missing 50 = .ok (.iload_n 1, 1) := by decide +kernel
theorem dX5_missing_51 : decode cX5_missing 51 = .ok (.iload 5, 2) := by decide +kernel
theorem dX5_missing_53 : decode cX5_missing 53 = .ok (.invokevirtual 80, 3) := by decide +kernel
theorem dX5_missing_56 : decode cX5_missing 56 = .ok (.istore 6, 2) := by decide +kernel
theorem dX5_missing_58 : decode cX5_missing 58 = .ok (.aload_n 0, 1) := by decide +kernel
theorem dX5_missing_59 : decode cX5_missing 59 = .ok (.getfield 42, 3) := by decide +kernel
theorem dX5_missing_62 : decode cX5_missing 62 = .ok (.iload_n 3, 1) := by decide +kernel
theorem dX5_missing_63 : decode cX5_missing 63 = .ok (.iload 6, 2) := by decide +kernel
theorem dX5_missing_65 : decode cX5_missing 65 = .ok (.invokevirtual 271, 3) := by decide +kernel
theorem dX5_missing_68 : decode cX5_missing 68 = .ok (.ifCond .ne 5, 3) := by decide +kernel
theorem dX5_missing_71 : decode cX5_missing 71 = .ok (.iconst 0, 1) := by decide +kernel
theorem dX5_missing_72 : decode cX5_missing 72 = .ok (.ireturn, 1) := by decide +kernel
theorem dX5_missing_73 : decode cX5_missing 73 = .ok (.iload 6, 2) := by decide +kernel
theorem dX5_missing_75 : decode cX5_missing 75 = .ok (.istore_n 3, 1) := by decide +kernel
theorem dX5_missing_76 : decode cX5_missing 76 = .ok (.iinc 5 1, 3) := by decide +kernel
theorem dX5_missing_79 : decode cX5_missing 79 = .ok (.goto (-40), 3) := by decide +kernel
theorem dX5_missing_82 : decode cX5_missing 82 = .ok (.iconst 1, 1) := by decide +kernel
theorem dX5_missing_83 : decode cX5_missing 83 = .ok (.ireturn, 1) := by decide +kernel
def p5_missing_39 (k39 : Int32 → Int32 → Int32 → Int32 → SX → Option (Int32 × SX)) (v1 : Int32) (v3 : Int32) (v4 : Int32) (v5 : Int32) (M : SX) : Option (Int32 × SX) :=
  if v4 ≤ v5 then (some (1, M))
  else (bd (p4_valueAt 1 v1 v5 M) (fun r4 M3 => bd (p2_isStep v3 r4 M3) (fun r7 M6 => if r7 = 0 then (some (0, M6))
  else (lt_ (v5 + 1) (fun x9 => k39 v1 r4 v4 x9 M6)))))
set_option maxHeartbeats 4000000 in
set_option maxRecDepth 100000 in
theorem w5_missing_39 {G : XG} {p : Program} {l : Launch} {e : Env} {s : State} {m : MethodId} {args : Array Value} {below : List Frame} {meth : Method} {c : Code} (F : Fx G ZX p m c cX5_missing 7 s args RX5) (hr : meth.sig.returnType = some .int) (hk : meth.locks = false) {r : Int32} {M' : SX} (k39 : Int32 → Int32 → Int32 → Int32 → SX → Option (Int32 × SX)) (hk39 : ∀ (v1 : Int32) (v3 : Int32) (v4 : Int32) (v5 : Int32) (M : SX) (H : Heap) (locs : List Loc) (ls : Array Slot), Wld G ZX M s.heap H locs → lv_has ls 7 [(0, .ref (G.2.1 0)), (1, .int v1), (3, .int v3), (4, .int v4), (5, .int v5)] → k39 v1 v3 v4 v5 M = some (r, M') → WXi G ZX p l e 4 s m args below meth c r M' H locs (F0 m 39 ls [])) : ∀ (v1 : Int32) (v3 : Int32) (v4 : Int32) (v5 : Int32) (M : SX) (H : Heap) (locs : List Loc) (ls : Array Slot), Wld G ZX M s.heap H locs → lv_has ls 7 [(0, .ref (G.2.1 0)), (1, .int v1), (3, .int v3), (4, .int v4), (5, .int v5)] → p5_missing_39 k39 v1 v3 v4 v5 M = some (r, M') → WXi G ZX p l e 4 s m args below meth c r M' H locs (F0 m 39 ls []) := by
  intro v1 v3 v4 v5 M H locs ls hw hl hf
  have hx := F.1.1
  have hb := F.1.2.1
  unfold p5_missing_39 at hf
  refine lv_iload hx hb dX5_missing_39 (lv_at hl 4 rfl) ?_
  refine lv_iload hx hb dX5_missing_41 (lv_at hl 3 rfl) ?_
  refine lv_icmp_ge (tgt := 82) hx hb dX5_missing_43 (by decide) (fun c1 => ?_) (fun c1 => ?_)
  · have hf := it_t hf c1
    refine lv_iconst (v := 1) hx hb dX5_missing_82 (by decide) ?_
    exact x_iret F hw hr hk hf dX5_missing_83
  · have hf := it_f hf c1
    refine lv_aload_n hx hb dX5_missing_46 rfl (lv_at hl 0 rfl) ?_
    refine g5_0 F hw tw_334 dX5_missing_47 ?_
    refine lv_iload_n hx hb dX5_missing_50 rfl (lv_at hl 1 rfl) ?_
    refine lv_iload hx hb dX5_missing_51 (lv_at hl 4 rfl) ?_
    obtain ⟨r4, M3, hc2, hf⟩ := bd_some hf
    refine x_aftI hw (x_runV (rest := []) F hw hl.1 vw_RX5_80 (sS isS_1) rfl (c4_valueAt 1 isS_1 v1 v5 hc2) rfl rfl (Nat.le_of_ble_eq_true rfl) ⟨Nat.le_of_ble_eq_true rfl, Nat.le_of_ble_eq_true rfl⟩ dX5_missing_53) (fun H locs hw => ?_)
    refine lv_istore (lv' := [(6, .int r4), (0, .ref (G.2.1 0)), (1, .int v1), (3, .int v3), (4, .int v4), (5, .int v5)]) hx hb dX5_missing_56 hl (by decide) rfl (fun ls hl => ?_)
    refine lv_aload_n hx hb dX5_missing_58 rfl (lv_at hl 1 rfl) ?_
    refine g5_5 F hw tw_448 dX5_missing_59 ?_
    refine lv_iload_n hx hb dX5_missing_62 rfl (lv_at hl 3 rfl) ?_
    refine lv_iload hx hb dX5_missing_63 (lv_at hl 0 rfl) ?_
    obtain ⟨r7, M6, hc5, hf⟩ := bd_some hf
    refine x_aftI hw (x_runV (rest := []) F hw hl.1 vw_RX5_271 (sO) rfl (c2_isStep v3 r4 hc5) rfl rfl (Nat.le_of_ble_eq_true rfl) ⟨Nat.le_of_ble_eq_true rfl, Nat.le_of_ble_eq_true rfl⟩ dX5_missing_65) (fun H locs hw => ?_)
    refine lv_if_ne (tgt := 73) hx hb dX5_missing_68 (by decide) (fun c8 => ?_) (fun c8 => ?_)
    · have hf := it_f hf c8
      refine lv_iload hx hb dX5_missing_73 (lv_at hl 0 rfl) ?_
      refine lv_istore_n (lv' := [(3, .int r4), (6, .int r4), (0, .ref (G.2.1 0)), (1, .int v1), (4, .int v4), (5, .int v5)]) hx hb dX5_missing_75 rfl hl (by decide) rfl (fun ls hl => ?_)
      obtain ⟨x9, ex9, hf⟩ := lt_elim hf
      refine lv_iinc (v := x9) (lv' := [(5, .int x9), (3, .int r4), (6, .int r4), (0, .ref (G.2.1 0)), (1, .int v1), (4, .int v4)]) hx hb dX5_missing_76 hl (k := 5) rfl (by rw [ex9]; rfl) (by decide) rfl (fun ls hl => ?_)
      refine lv_goto (tgt := 39) hx hb dX5_missing_79 (by decide) ?_
      exact hk39 v1 r4 v4 x9 M6 _ _ ls hw (lv_sub hl [3, 4, 1, 5, 0] rfl) hf
    · have hf := it_t hf c8
      refine lv_iconst (v := 0) hx hb dX5_missing_71 (by decide) ?_
      exact x_iret F hw hr hk hf dX5_missing_72
theorem z5_missing_39 {G : XG} {p : Program} {l : Launch} {e : Env} {s : State} {m : MethodId} {args : Array Value} {below : List Frame} {meth : Method} {c : Code} (F : Fx G ZX p m c cX5_missing 7 s args RX5) (hr : meth.sig.returnType = some .int) (hk : meth.locks = false) {r : Int32} {M' : SX} : ∀ n : Nat, ∀ (v1 : Int32) (v3 : Int32) (v4 : Int32) (v5 : Int32) (M : SX) (H : Heap) (locs : List Loc) (ls : Array Slot), Wld G ZX M s.heap H locs → lv_has ls 7 [(0, .ref (G.2.1 0)), (1, .int v1), (3, .int v3), (4, .int v4), (5, .int v5)] → xlp4 p5_missing_39 n v1 v3 v4 v5 M = some (r, M') → WXi G ZX p l e 4 s m args below meth c r M' H locs (F0 m 39 ls []) := by
  intro n
  induction n with
  | zero => intro _ _ _ _ _ _ _ _ _ _ hf; cases hf
  | succ n ih => exact w5_missing_39 F hr hk (xlp4 p5_missing_39 n) ih
def p5_missing (a1 : Int32) (M : SX) : Option (Int32 × SX) :=
  bd (p5_refusalOfSets a1 M) (fun r3 M2 => if r3 = 0 then (bv (p2_lookAt 17 0 M2) (fun M6 => bd (p4_sizeOf 1 a1 M6) (fun r9 M8 => xlp4 p5_missing_39 FU a1 0 r9 0 M8)))
  else (some (r3, M2)))
set_option maxHeartbeats 4000000 in
set_option maxRecDepth 100000 in
theorem c5_missing {l : Launch} {G : XG} {r : Int32} {M' : SX} {M : SX} (a1 : Int32) (hf : p5_missing a1 M = some (r, M')) : Met l yX5_missing (.code yX5_missing cX5_missing 7 (some .int) :: TBL) (rmX 4) (xPc G ZX M [.ref (G.2.1 0), .int a1]) (xQi G ZX r M') 0 0 (inA G ZX) := by
  refine x_met (cc := cX5_missing) (by decide) (Nat.le_of_ble_eq_true rfl) ?_
  intro p e s m below meth c ls F hr hk hl hw
  have F : Fx G ZX p m c cX5_missing 7 s [.ref (G.2.1 0), .int a1].toArray RX5 := F
  have hl : lv_has ls 7 [(0, .ref (G.2.1 0)), (1, .int a1)] := hl
  have hx := F.1.1
  have hb := F.1.2.1
  unfold p5_missing at hf
  refine lv_aload_n hx hb dX5_missing_0 rfl (lv_at hl 0 rfl) ?_
  refine lv_iload_n hx hb dX5_missing_1 rfl (lv_at hl 1 rfl) ?_
  obtain ⟨r3, M2, hc1, hf⟩ := bd_some hf
  refine x_aftI hw (x_runV (rest := []) F hw hl.1 vw_RX5_268 (sP) rfl (c5_refusalOfSets a1 hc1) rfl rfl (Nat.le_of_ble_eq_true rfl) ⟨Nat.le_of_ble_eq_true rfl, Nat.le_of_ble_eq_true rfl⟩ dX5_missing_2) (fun H locs hw => ?_)
  refine lv_istore_n (lv' := [(2, .int r3), (0, .ref (G.2.1 0)), (1, .int a1)]) hx hb dX5_missing_5 rfl hl (by decide) rfl (fun ls hl => ?_)
  refine lv_iload_n hx hb dX5_missing_6 rfl (lv_at hl 0 rfl) ?_
  refine lv_if_eq (tgt := 12) hx hb dX5_missing_7 (by decide) (fun c4 => ?_) (fun c4 => ?_)
  · have hf := it_t hf c4
    refine lv_aload_n hx hb dX5_missing_12 rfl (lv_at hl 1 rfl) ?_
    refine g5_5 F hw tw_448 dX5_missing_13 ?_
    refine lv_aload_n hx hb dX5_missing_16 rfl (lv_at hl 1 rfl) ?_
    refine g5_3 F hw tw_306 dX5_missing_17 ?_
    refine lv_iconst (v := 0) hx hb dX5_missing_20 (by decide) ?_
    obtain ⟨M6, hc5, hf⟩ := bv_some hf
    refine x_aftV hw (x_runV (rest := []) F hw hl.1 vw_RX5_156 (sO) rfl (c2_lookAt 17 isL_17 0 hc5) rfl rfl (Nat.le_of_ble_eq_true rfl) ⟨Nat.le_of_ble_eq_true rfl, Nat.le_of_ble_eq_true rfl⟩ dX5_missing_21) (fun H locs hw => ?_)
    refine lv_iconst (v := 0) hx hb dX5_missing_24 (by decide) ?_
    refine lv_istore_n (lv' := [(3, .int 0), (2, .int r3), (0, .ref (G.2.1 0)), (1, .int a1)]) hx hb dX5_missing_25 rfl hl (by decide) rfl (fun ls hl => ?_)
    refine lv_aload_n hx hb dX5_missing_26 rfl (lv_at hl 2 rfl) ?_
    refine g5_0 F hw tw_334 dX5_missing_27 ?_
    refine lv_iload_n hx hb dX5_missing_30 rfl (lv_at hl 3 rfl) ?_
    obtain ⟨r9, M8, hc7, hf⟩ := bd_some hf
    refine x_aftI hw (x_runV (rest := []) F hw hl.1 vw_RX5_106 (sS isS_1) rfl (c4_sizeOf 1 isS_1 a1 hc7) rfl rfl (Nat.le_of_ble_eq_true rfl) ⟨Nat.le_of_ble_eq_true rfl, Nat.le_of_ble_eq_true rfl⟩ dX5_missing_31) (fun H locs hw => ?_)
    refine lv_istore (lv' := [(4, .int r9), (3, .int 0), (2, .int r3), (0, .ref (G.2.1 0)), (1, .int a1)]) hx hb dX5_missing_34 hl (by decide) rfl (fun ls hl => ?_)
    refine lv_iconst (v := 0) hx hb dX5_missing_36 (by decide) ?_
    refine lv_istore (lv' := [(5, .int 0), (4, .int r9), (3, .int 0), (2, .int r3), (0, .ref (G.2.1 0)), (1, .int a1)]) hx hb dX5_missing_37 hl (by decide) rfl (fun ls hl => ?_)
    exact z5_missing_39 F hr hk FU a1 0 r9 0 M8 _ _ ls hw (lv_sub hl [4, 5, 2, 1, 0] rfl) hf
  · have hf := it_f hf c4
    refine lv_iload_n hx hb dX5_missing_10 rfl (lv_at hl 0 rfl) ?_
    exact x_iret F hw hr hk hf dX5_missing_11
theorem dX5_counted_0 : decode cX5_counted 0 = .ok (.iload_n 1, 1) := by decide +kernel
theorem dX5_counted_1 : decode cX5_counted 1 = .ok (.tableswitch 118 0 7 #[47, 55, 66, 77, 85, 93, 102, 110], 47) := by decide +kernel
theorem dX5_counted_48 : decode cX5_counted 48 = .ok (.aload_n 0, 1) := by decide +kernel
theorem dX5_counted_49 : decode cX5_counted 49 = .ok (.getfield 31, 3) := by decide +kernel
theorem dX5_counted_52 : decode cX5_counted 52 = .ok (.getfield 126, 3) := by decide +kernel
theorem dX5_counted_55 : decode cX5_counted 55 = .ok (.ireturn, 1) := by decide +kernel
theorem dX5_counted_56 : decode cX5_counted 56 = .ok (.aload_n 0, 1) := by decide +kernel
theorem dX5_counted_57 : decode cX5_counted 57 = .ok (.getfield 31, 3) := by decide +kernel
theorem dX5_counted_60 : decode cX5_counted 60 = .ok (.invokevirtual 190, 3) := by decide +kernel
theorem dX5_counted_63 : decode cX5_counted 63 = .ok (.invokestatic 151, 3) := by decide +kernel
theorem dX5_counted_66 : decode cX5_counted 66 = .ok (.ireturn, 1) := by decide +kernel
theorem dX5_counted_67 : decode cX5_counted 67 = .ok (.aload_n 0, 1) := by decide +kernel
theorem dX5_counted_68 : decode cX5_counted 68 = .ok (.getfield 31, 3) := by decide +kernel
theorem dX5_counted_71 : decode cX5_counted 71 = .ok (.getfield 163, 3) := by decide +kernel
theorem dX5_counted_74 : decode cX5_counted 74 = .ok (.getfield 167, 3) := by decide +kernel
theorem dX5_counted_77 : decode cX5_counted 77 = .ok (.ireturn, 1) := by decide +kernel
theorem dX5_counted_78 : decode cX5_counted 78 = .ok (.aload_n 0, 1) := by decide +kernel
theorem dX5_counted_79 : decode cX5_counted 79 = .ok (.getfield 31, 3) := by decide +kernel
theorem dX5_counted_82 : decode cX5_counted 82 = .ok (.invokevirtual 323, 3) := by decide +kernel
theorem dX5_counted_85 : decode cX5_counted 85 = .ok (.ireturn, 1) := by decide +kernel
theorem dX5_counted_86 : decode cX5_counted 86 = .ok (.aload_n 0, 1) := by decide +kernel
theorem dX5_counted_87 : decode cX5_counted 87 = .ok (.getfield 31, 3) := by decide +kernel
theorem dX5_counted_90 : decode cX5_counted 90 = .ok (.invokevirtual 200, 3) := by decide +kernel
theorem dX5_counted_93 : decode cX5_counted 93 = .ok (.ireturn, 1) := by decide +kernel
theorem dX5_counted_94 : decode cX5_counted 94 = .ok (.aload_n 0, 1) := by decide +kernel
theorem dX5_counted_95 : decode cX5_counted 95 = .ok (.getfield 31, 3) := by decide +kernel
theorem dX5_counted_98 : decode cX5_counted 98 = .ok (.iconst 2, 1) := by decide +kernel
theorem dX5_counted_99 : decode cX5_counted 99 = .ok (.invokevirtual 326, 3) := by decide +kernel
theorem dX5_counted_102 : decode cX5_counted 102 = .ok (.ireturn, 1) := by decide +kernel
theorem dX5_counted_103 : decode cX5_counted 103 = .ok (.aload_n 0, 1) := by decide +kernel
theorem dX5_counted_104 : decode cX5_counted 104 = .ok (.getfield 14, 3) := by decide +kernel
theorem dX5_counted_107 : decode cX5_counted 107 = .ok (.invokevirtual 329, 3) := by decide +kernel
theorem dX5_counted_110 : decode cX5_counted 110 = .ok (.ireturn, 1) := by decide +kernel
theorem dX5_counted_111 : decode cX5_counted 111 = .ok (.aload_n 0, 1) := by decide +kernel
theorem dX5_counted_112 : decode cX5_counted 112 = .ok (.getfield 18, 3) := by decide +kernel
theorem dX5_counted_115 : decode cX5_counted 115 = .ok (.invokevirtual 329, 3) := by decide +kernel
theorem dX5_counted_118 : decode cX5_counted 118 = .ok (.ireturn, 1) := by decide +kernel
theorem dX5_counted_119 : decode cX5_counted 119 = .ok (.aload_n 0, 1) := by decide +kernel
theorem dX5_counted_120 : decode cX5_counted 120 = .ok (.invokevirtual 332, 3) := by decide +kernel
theorem dX5_counted_123 : decode cX5_counted 123 = .ok (.ireturn, 1) := by decide +kernel
def p5_counted (a1 : Int32) (M : SX) : Option (Int32 × SX) :=
  if a1 = 0 then (some (M.1 17 0, M))
  else (if a1 = 1 then (bd (p1_pawnedSet 17 M) (fun r5 M4 => bd (pj_bits r5 M4) (fun r8 M7 => some (r8, M7))))
  else (if a1 = 2 then (some (M.1 (17 + 7) 1, M))
  else (if a1 = 3 then (bd (p1_cashInAll 17 M) (fun r13 M12 => some (r13, M12)))
  else (if a1 = 4 then (bd (p1_dueInAll 17 M) (fun r17 M16 => some (r17, M16)))
  else (if a1 = 5 then (bd (p1_howManyOf 17 2 M) (fun r21 M20 => some (r21, M20)))
  else (if a1 = 6 then (bd (p4_howMany 1 M) (fun r25 M24 => some (r25, M24)))
  else (if a1 = 7 then (bd (p4_howMany 4 M) (fun r29 M28 => some (r29, M28)))
  else (bd (p5_keptLanes M) (fun r32 M31 => some (r32, M31))))))))))
set_option maxHeartbeats 4000000 in
set_option maxRecDepth 100000 in
theorem c5_counted {l : Launch} {G : XG} {r : Int32} {M' : SX} {M : SX} (a1 : Int32) (hf : p5_counted a1 M = some (r, M')) : Met l yX5_counted (.code yX5_counted cX5_counted 2 (some .int) :: TBL) (rmX 4) (xPc G ZX M [.ref (G.2.1 0), .int a1]) (xQi G ZX r M') 0 0 (inA G ZX) := by
  refine x_met (cc := cX5_counted) (by decide) (Nat.le_of_ble_eq_true rfl) ?_
  intro p e s m below meth c ls F hr hk hl hw
  have F : Fx G ZX p m c cX5_counted 2 s [.ref (G.2.1 0), .int a1].toArray RX5 := F
  have hl : lv_has ls 2 [(0, .ref (G.2.1 0)), (1, .int a1)] := hl
  have hx := F.1.1
  have hb := F.1.2.1
  unfold p5_counted at hf
  refine lv_iload_n hx hb dX5_counted_0 rfl (lv_at hl 1 rfl) ?_
  by_cases c1 : a1 = 0
  · have hf := it_t hf c1
    refine lv_tableIn (tgt := 48) hx hb dX5_counted_1 (by rw [c1]; decide) (by rw [c1]; decide) (by rw [c1]; rfl) (by decide) ?_
    refine lv_aload_n hx hb dX5_counted_48 rfl (lv_at hl 0 rfl) ?_
    refine g5_3 F hw tw_306 dX5_counted_49 ?_
    refine g1_0 isL_17 F hw tw_305 dX5_counted_52 ?_
    exact x_iret F hw hr hk hf dX5_counted_55
  · have hf := it_f hf c1
    by_cases c2 : a1 = 1
    · have hf := it_t hf c2
      refine lv_tableIn (tgt := 56) hx hb dX5_counted_1 (by rw [c2]; decide) (by rw [c2]; decide) (by rw [c2]; rfl) (by decide) ?_
      refine lv_aload_n hx hb dX5_counted_56 rfl (lv_at hl 0 rfl) ?_
      refine g5_3 F hw tw_306 dX5_counted_57 ?_
      obtain ⟨r5, M4, hc3, hf⟩ := bd_some hf
      refine x_aftI hw (x_runV (rest := []) F hw hl.1 vw_RX5_190 (sL isL_17) rfl (c1_pawnedSet 17 isL_17 hc3) rfl rfl (Nat.le_of_ble_eq_true rfl) ⟨Nat.le_of_ble_eq_true rfl, Nat.le_of_ble_eq_true rfl⟩ dX5_counted_60) (fun H locs hw => ?_)
      obtain ⟨r8, M7, hc6, hf⟩ := bd_some hf
      refine x_aftI hw (x_runS (rest := []) F hw hl.1 sw_RX5_151 (cj_bits r5 hc6) rfl rfl (Nat.le_of_ble_eq_true rfl) ⟨Nat.le_of_ble_eq_true rfl, Nat.le_of_ble_eq_true rfl⟩ dX5_counted_63) (fun H locs hw => ?_)
      exact x_iret F hw hr hk hf dX5_counted_66
    · have hf := it_f hf c2
      by_cases c9 : a1 = 2
      · have hf := it_t hf c9
        refine lv_tableIn (tgt := 67) hx hb dX5_counted_1 (by rw [c9]; decide) (by rw [c9]; decide) (by rw [c9]; rfl) (by decide) ?_
        refine lv_aload_n hx hb dX5_counted_67 rfl (lv_at hl 0 rfl) ?_
        refine g5_3 F hw tw_306 dX5_counted_68 ?_
        refine g1_7 isL_17 F hw tw_309 dX5_counted_71 ?_
        refine g0_1 (isD_of isL_17) F hw tw_310 dX5_counted_74 ?_
        exact x_iret F hw hr hk hf dX5_counted_77
      · have hf := it_f hf c9
        by_cases c10 : a1 = 3
        · have hf := it_t hf c10
          refine lv_tableIn (tgt := 78) hx hb dX5_counted_1 (by rw [c10]; decide) (by rw [c10]; decide) (by rw [c10]; rfl) (by decide) ?_
          refine lv_aload_n hx hb dX5_counted_78 rfl (lv_at hl 0 rfl) ?_
          refine g5_3 F hw tw_306 dX5_counted_79 ?_
          obtain ⟨r13, M12, hc11, hf⟩ := bd_some hf
          refine x_aftI hw (x_runV (rest := []) F hw hl.1 vw_RX5_323 (sL isL_17) rfl (c1_cashInAll 17 isL_17 hc11) rfl rfl (Nat.le_of_ble_eq_true rfl) ⟨Nat.le_of_ble_eq_true rfl, Nat.le_of_ble_eq_true rfl⟩ dX5_counted_82) (fun H locs hw => ?_)
          exact x_iret F hw hr hk hf dX5_counted_85
        · have hf := it_f hf c10
          by_cases c14 : a1 = 4
          · have hf := it_t hf c14
            refine lv_tableIn (tgt := 86) hx hb dX5_counted_1 (by rw [c14]; decide) (by rw [c14]; decide) (by rw [c14]; rfl) (by decide) ?_
            refine lv_aload_n hx hb dX5_counted_86 rfl (lv_at hl 0 rfl) ?_
            refine g5_3 F hw tw_306 dX5_counted_87 ?_
            obtain ⟨r17, M16, hc15, hf⟩ := bd_some hf
            refine x_aftI hw (x_runV (rest := []) F hw hl.1 vw_RX5_200 (sL isL_17) rfl (c1_dueInAll 17 isL_17 hc15) rfl rfl (Nat.le_of_ble_eq_true rfl) ⟨Nat.le_of_ble_eq_true rfl, Nat.le_of_ble_eq_true rfl⟩ dX5_counted_90) (fun H locs hw => ?_)
            exact x_iret F hw hr hk hf dX5_counted_93
          · have hf := it_f hf c14
            by_cases c18 : a1 = 5
            · have hf := it_t hf c18
              refine lv_tableIn (tgt := 94) hx hb dX5_counted_1 (by rw [c18]; decide) (by rw [c18]; decide) (by rw [c18]; rfl) (by decide) ?_
              refine lv_aload_n hx hb dX5_counted_94 rfl (lv_at hl 0 rfl) ?_
              refine g5_3 F hw tw_306 dX5_counted_95 ?_
              refine lv_iconst (v := 2) hx hb dX5_counted_98 (by decide) ?_
              obtain ⟨r21, M20, hc19, hf⟩ := bd_some hf
              refine x_aftI hw (x_runV (rest := []) F hw hl.1 vw_RX5_326 (sL isL_17) rfl (c1_howManyOf 17 isL_17 2 hc19) rfl rfl (Nat.le_of_ble_eq_true rfl) ⟨Nat.le_of_ble_eq_true rfl, Nat.le_of_ble_eq_true rfl⟩ dX5_counted_99) (fun H locs hw => ?_)
              exact x_iret F hw hr hk hf dX5_counted_102
            · have hf := it_f hf c18
              by_cases c22 : a1 = 6
              · have hf := it_t hf c22
                refine lv_tableIn (tgt := 103) hx hb dX5_counted_1 (by rw [c22]; decide) (by rw [c22]; decide) (by rw [c22]; rfl) (by decide) ?_
                refine lv_aload_n hx hb dX5_counted_103 rfl (lv_at hl 0 rfl) ?_
                refine g5_0 F hw tw_334 dX5_counted_104 ?_
                obtain ⟨r25, M24, hc23, hf⟩ := bd_some hf
                refine x_aftI hw (x_runV (rest := []) F hw hl.1 vw_RX5_329 (sS isS_1) rfl (c4_howMany 1 isS_1 hc23) rfl rfl (Nat.le_of_ble_eq_true rfl) ⟨Nat.le_of_ble_eq_true rfl, Nat.le_of_ble_eq_true rfl⟩ dX5_counted_107) (fun H locs hw => ?_)
                exact x_iret F hw hr hk hf dX5_counted_110
              · have hf := it_f hf c22
                by_cases c26 : a1 = 7
                · have hf := it_t hf c26
                  refine lv_tableIn (tgt := 111) hx hb dX5_counted_1 (by rw [c26]; decide) (by rw [c26]; decide) (by rw [c26]; rfl) (by decide) ?_
                  refine lv_aload_n hx hb dX5_counted_111 rfl (lv_at hl 0 rfl) ?_
                  refine g5_1 F hw tw_367 dX5_counted_112 ?_
                  obtain ⟨r29, M28, hc27, hf⟩ := bd_some hf
                  refine x_aftI hw (x_runV (rest := []) F hw hl.1 vw_RX5_329 (sS isS_4) rfl (c4_howMany 4 isS_4 hc27) rfl rfl (Nat.le_of_ble_eq_true rfl) ⟨Nat.le_of_ble_eq_true rfl, Nat.le_of_ble_eq_true rfl⟩ dX5_counted_115) (fun H locs hw => ?_)
                  exact x_iret F hw hr hk hf dX5_counted_118
                · have hf := it_f hf c26
                  have nc1 := x_ne (k := 0) (0) rfl c1
                  have nc2 := x_ne (k := 1) (1) rfl c2
                  have nc9 := x_ne (k := 2) (2) rfl c9
                  have nc10 := x_ne (k := 3) (3) rfl c10
                  have nc14 := x_ne (k := 4) (4) rfl c14
                  have nc18 := x_ne (k := 5) (5) rfl c18
                  have nc22 := x_ne (k := 6) (6) rfl c22
                  have nc26 := x_ne (k := 7) (7) rfl c26
                  refine lv_tableOut (tgt := 119) hx hb dX5_counted_1 (by omega) (by decide) ?_
                  refine lv_aload_n hx hb dX5_counted_119 rfl (lv_at hl 0 rfl) ?_
                  obtain ⟨r32, M31, hc30, hf⟩ := bd_some hf
                  refine x_aftI hw (x_runV (rest := []) F hw hl.1 vw_RX5_332 (sP) rfl (c5_keptLanes hc30) rfl rfl (Nat.le_of_ble_eq_true rfl) ⟨Nat.le_of_ble_eq_true rfl, Nat.le_of_ble_eq_true rfl⟩ dX5_counted_120) (fun H locs hw => ?_)
                  exact x_iret F hw hr hk hf dX5_counted_123
theorem dX5_ways_0 : decode cX5_ways 0 = .ok (.aload_n 0, 1) := by decide +kernel
theorem dX5_ways_1 : decode cX5_ways 1 = .ok (.getfield 31, 3) := by decide +kernel
theorem dX5_ways_4 : decode cX5_ways 4 = .ok (.getfield 126, 3) := by decide +kernel
theorem dX5_ways_7 : decode cX5_ways 7 = .ok (.ifCond .ne 6, 3) := by decide +kernel
theorem dX5_ways_10 : decode cX5_ways 10 = .ok (.bipush (-4), 2) := by decide +kernel
theorem dX5_ways_12 : decode cX5_ways 12 = .ok (.ireturn, 1) := by decide +kernel
theorem dX5_ways_13 : decode cX5_ways 13 = .ok (.aload_n 0, 1) := by decide +kernel
theorem dX5_ways_14 : decode cX5_ways 14 = .ok (.getfield 42, 3) := by decide +kernel
theorem dX5_ways_17 : decode cX5_ways 17 = .ok (.aload_n 0, 1) := by decide +kernel
theorem dX5_ways_18 : decode cX5_ways 18 = .ok (.getfield 31, 3) := by decide +kernel
theorem dX5_ways_21 : decode cX5_ways 21 = .ok (.iconst 0, 1) := by decide +kernel
theorem dX5_ways_22 : decode cX5_ways 22 = .ok (.invokevirtual 156, 3) := by decide +kernel
theorem dX5_ways_25 : decode cX5_ways 25 = .ok (.aload_n 0, 1) := by decide +kernel
theorem dX5_ways_26 : decode cX5_ways 26 = .ok (.getfield 42, 3) := by decide +kernel
theorem dX5_ways_29 : decode cX5_ways 29 = .ok (.iconst 0, 1) := by decide +kernel
theorem dX5_ways_30 : decode cX5_ways 30 = .ok (.invokevirtual 240, 3) := by decide +kernel
theorem dX5_ways_33 : decode cX5_ways 33 = .ok (.aload_n 0, 1) := by decide +kernel
theorem dX5_ways_34 : decode cX5_ways 34 = .ok (.aload_n 0, 1) := by decide +kernel
theorem dX5_ways_35 : decode cX5_ways 35 = .ok (.getfield 42, 3) := by decide +kernel
theorem dX5_ways_38 : decode cX5_ways 38 = .ok (.aload_n 0, 1) := by decide +kernel
theorem dX5_ways_39 : decode cX5_ways 39 = .ok (.getfield 31, 3) := by decide +kernel
theorem dX5_ways_42 : decode cX5_ways 42 = .ok (.invokevirtual 190, 3) := by decide +kernel
theorem dX5_ways_45 : decode cX5_ways 45 = .ok (.invokevirtual 243, 3) := by decide +kernel
theorem dX5_ways_48 : decode cX5_ways 48 = .ok (.i2l, 1) := by decide +kernel
theorem dX5_ways_49 : decode cX5_ways 49 = .ok (.lconst 1, 1) := by decide +kernel
theorem dX5_ways_50 : decode cX5_ways 50 = .ok (.invokevirtual 246, 3) := by decide +kernel
theorem dX5_ways_53 : decode cX5_ways 53 = .ok (.iconst 1, 1) := by decide +kernel
theorem dX5_ways_54 : decode cX5_ways 54 = .ok (.ireturn, 1) := by decide +kernel
def p5_ways (M : SX) : Option (Int32 × SX) :=
  if (M.1 17 0) = 0 then (some ((-4), M))
  else (bv (p2_lookAt 17 0 M) (fun M3 => bv (p2_countFrom 0 M3) (fun M5 => bd (p1_pawnedSet 17 M5) (fun r8 M7 => bd (p2_countOf r8 M7) (fun r11 M10 => bv (p5_tell (Int32.toInt64 r11) 1 M10) (fun M13 => some (1, M13)))))))
set_option maxHeartbeats 4000000 in
set_option maxRecDepth 100000 in
theorem c5_ways {l : Launch} {G : XG} {r : Int32} {M' : SX} {M : SX} (hf : p5_ways M = some (r, M')) : Met l yX5_ways (.code yX5_ways cX5_ways 1 (some .int) :: TBL) (rmX 5) (xPc G ZX M [.ref (G.2.1 0)]) (xQi G ZX r M') 0 0 (inA G ZX) := by
  refine x_met (cc := cX5_ways) (by decide) (Nat.le_of_ble_eq_true rfl) ?_
  intro p e s m below meth c ls F hr hk hl hw
  have F : Fx G ZX p m c cX5_ways 1 s [.ref (G.2.1 0)].toArray RX5 := F
  have hl : lv_has ls 1 [(0, .ref (G.2.1 0))] := hl
  have hx := F.1.1
  have hb := F.1.2.1
  unfold p5_ways at hf
  refine lv_aload_n hx hb dX5_ways_0 rfl (lv_at hl 0 rfl) ?_
  refine g5_3 F hw tw_306 dX5_ways_1 ?_
  refine g1_0 isL_17 F hw tw_305 dX5_ways_4 ?_
  refine lv_if_ne (tgt := 13) hx hb dX5_ways_7 (by decide) (fun c1 => ?_) (fun c1 => ?_)
  · have hf := it_f hf c1
    refine lv_aload_n hx hb dX5_ways_13 rfl (lv_at hl 0 rfl) ?_
    refine g5_5 F hw tw_448 dX5_ways_14 ?_
    refine lv_aload_n hx hb dX5_ways_17 rfl (lv_at hl 0 rfl) ?_
    refine g5_3 F hw tw_306 dX5_ways_18 ?_
    refine lv_iconst (v := 0) hx hb dX5_ways_21 (by decide) ?_
    obtain ⟨M3, hc2, hf⟩ := bv_some hf
    refine x_aftV hw (x_runV (rest := []) F hw hl.1 vw_RX5_156 (sO) rfl (c2_lookAt 17 isL_17 0 hc2) rfl rfl (Nat.le_of_ble_eq_true rfl) ⟨Nat.le_of_ble_eq_true rfl, Nat.le_of_ble_eq_true rfl⟩ dX5_ways_22) (fun H locs hw => ?_)
    refine lv_aload_n hx hb dX5_ways_25 rfl (lv_at hl 0 rfl) ?_
    refine g5_5 F hw tw_448 dX5_ways_26 ?_
    refine lv_iconst (v := 0) hx hb dX5_ways_29 (by decide) ?_
    obtain ⟨M5, hc4, hf⟩ := bv_some hf
    refine x_aftV hw (x_runV (rest := []) F hw hl.1 vw_RX5_240 (sO) rfl (c2_countFrom 0 hc4) rfl rfl (Nat.le_of_ble_eq_true rfl) ⟨Nat.le_of_ble_eq_true rfl, Nat.le_of_ble_eq_true rfl⟩ dX5_ways_30) (fun H locs hw => ?_)
    refine lv_aload_n hx hb dX5_ways_33 rfl (lv_at hl 0 rfl) ?_
    refine lv_aload_n hx hb dX5_ways_34 rfl (lv_at hl 0 rfl) ?_
    refine g5_5 F hw tw_448 dX5_ways_35 ?_
    refine lv_aload_n hx hb dX5_ways_38 rfl (lv_at hl 0 rfl) ?_
    refine g5_3 F hw tw_306 dX5_ways_39 ?_
    obtain ⟨r8, M7, hc6, hf⟩ := bd_some hf
    refine x_aftI hw (x_runV (rest := [.ref (G.2.1 54), .ref (G.2.1 0)]) F hw hl.1 vw_RX5_190 (sL isL_17) rfl (c1_pawnedSet 17 isL_17 hc6) rfl rfl (Nat.le_of_ble_eq_true rfl) ⟨Nat.le_of_ble_eq_true rfl, Nat.le_of_ble_eq_true rfl⟩ dX5_ways_42) (fun H locs hw => ?_)
    obtain ⟨r11, M10, hc9, hf⟩ := bd_some hf
    refine x_aftI hw (x_runV (rest := [.ref (G.2.1 0)]) F hw hl.1 vw_RX5_243 (sO) rfl (c2_countOf r8 hc9) rfl rfl (Nat.le_of_ble_eq_true rfl) ⟨Nat.le_of_ble_eq_true rfl, Nat.le_of_ble_eq_true rfl⟩ dX5_ways_45) (fun H locs hw => ?_)
    refine lv_i2l (v := Int32.toInt64 r11) hx hb dX5_ways_48 rfl ?_
    refine lv_lconst (v := 1) hx hb dX5_ways_49 (by decide) ?_
    obtain ⟨M13, hc12, hf⟩ := bv_some hf
    refine x_aftV hw (x_runV (rest := []) F hw hl.1 vw_RX5_246 (sP) rfl (c5_tell (Int32.toInt64 r11) 1 hc12) rfl rfl (Nat.le_of_ble_eq_true rfl) ⟨Nat.le_of_ble_eq_true rfl, Nat.le_of_ble_eq_true rfl⟩ dX5_ways_50) (fun H locs hw => ?_)
    refine lv_iconst (v := 1) hx hb dX5_ways_53 (by decide) ?_
    exact x_iret F hw hr hk hf dX5_ways_54
  · have hf := it_t hf c1
    refine lv_bipush (v := (-4)) hx hb dX5_ways_10 (by decide) ?_
    exact x_iret F hw hr hk hf dX5_ways_12
theorem dX5_most_0 : decode cX5_most 0 = .ok (.aload_n 0, 1) := by decide +kernel
theorem dX5_most_1 : decode cX5_most 1 = .ok (.getfield 31, 3) := by decide +kernel
theorem dX5_most_4 : decode cX5_most 4 = .ok (.getfield 126, 3) := by decide +kernel
theorem dX5_most_7 : decode cX5_most 7 = .ok (.ifCond .ne 6, 3) := by decide +kernel
theorem dX5_most_10 : decode cX5_most 10 = .ok (.bipush (-4), 2) := by decide +kernel
theorem dX5_most_12 : decode cX5_most 12 = .ok (.ireturn, 1) := by decide +kernel
theorem dX5_most_13 : decode cX5_most 13 = .ok (.aload_n 0, 1) := by decide +kernel
theorem dX5_most_14 : decode cX5_most 14 = .ok (.getfield 42, 3) := by decide +kernel
theorem dX5_most_17 : decode cX5_most 17 = .ok (.aload_n 0, 1) := by decide +kernel
theorem dX5_most_18 : decode cX5_most 18 = .ok (.getfield 31, 3) := by decide +kernel
theorem dX5_most_21 : decode cX5_most 21 = .ok (.iconst 0, 1) := by decide +kernel
theorem dX5_most_22 : decode cX5_most 22 = .ok (.invokevirtual 156, 3) := by decide +kernel
theorem dX5_most_25 : decode cX5_most 25 = .ok (.aload_n 0, 1) := by decide +kernel
theorem dX5_most_26 : decode cX5_most 26 = .ok (.getfield 42, 3) := by decide +kernel
theorem dX5_most_29 : decode cX5_most 29 = .ok (.iconst 0, 1) := by decide +kernel
theorem dX5_most_30 : decode cX5_most 30 = .ok (.invokevirtual 240, 3) := by decide +kernel
theorem dX5_most_33 : decode cX5_most 33 = .ok (.aload_n 0, 1) := by decide +kernel
theorem dX5_most_34 : decode cX5_most 34 = .ok (.aload_n 0, 1) := by decide +kernel
theorem dX5_most_35 : decode cX5_most 35 = .ok (.getfield 42, 3) := by decide +kernel
theorem dX5_most_38 : decode cX5_most 38 = .ok (.invokevirtual 250, 3) := by decide +kernel
theorem dX5_most_41 : decode cX5_most 41 = .ok (.putfield 54, 3) := by decide +kernel
theorem dX5_most_44 : decode cX5_most 44 = .ok (.aload_n 0, 1) := by decide +kernel
theorem dX5_most_45 : decode cX5_most 45 = .ok (.getfield 54, 3) := by decide +kernel
theorem dX5_most_48 : decode cX5_most 48 = .ok (.invokestatic 151, 3) := by decide +kernel
theorem dX5_most_51 : decode cX5_most 51 = .ok (.ireturn, 1) := by decide +kernel
def p5_most (M : SX) : Option (Int32 × SX) :=
  if (M.1 17 0) = 0 then (some ((-4), M))
  else (bv (p2_lookAt 17 0 M) (fun M3 => bv (p2_countFrom 0 M3) (fun M5 => bd (p2_largest M5) (fun r8 M7 => lt_ (wI M7 0 8 r8) (fun M9 => bd (pj_bits (M9.1 0 8) M9) (fun r12 M11 => some (r12, M11)))))))
set_option maxHeartbeats 4000000 in
set_option maxRecDepth 100000 in
theorem c5_most {l : Launch} {G : XG} {r : Int32} {M' : SX} {M : SX} (hf : p5_most M = some (r, M')) : Met l yX5_most (.code yX5_most cX5_most 1 (some .int) :: TBL) (rmX 5) (xPc G ZX M [.ref (G.2.1 0)]) (xQi G ZX r M') 0 0 (inA G ZX) := by
  refine x_met (cc := cX5_most) (by decide) (Nat.le_of_ble_eq_true rfl) ?_
  intro p e s m below meth c ls F hr hk hl hw
  have F : Fx G ZX p m c cX5_most 1 s [.ref (G.2.1 0)].toArray RX5 := F
  have hl : lv_has ls 1 [(0, .ref (G.2.1 0))] := hl
  have hx := F.1.1
  have hb := F.1.2.1
  unfold p5_most at hf
  refine lv_aload_n hx hb dX5_most_0 rfl (lv_at hl 0 rfl) ?_
  refine g5_3 F hw tw_306 dX5_most_1 ?_
  refine g1_0 isL_17 F hw tw_305 dX5_most_4 ?_
  refine lv_if_ne (tgt := 13) hx hb dX5_most_7 (by decide) (fun c1 => ?_) (fun c1 => ?_)
  · have hf := it_f hf c1
    refine lv_aload_n hx hb dX5_most_13 rfl (lv_at hl 0 rfl) ?_
    refine g5_5 F hw tw_448 dX5_most_14 ?_
    refine lv_aload_n hx hb dX5_most_17 rfl (lv_at hl 0 rfl) ?_
    refine g5_3 F hw tw_306 dX5_most_18 ?_
    refine lv_iconst (v := 0) hx hb dX5_most_21 (by decide) ?_
    obtain ⟨M3, hc2, hf⟩ := bv_some hf
    refine x_aftV hw (x_runV (rest := []) F hw hl.1 vw_RX5_156 (sO) rfl (c2_lookAt 17 isL_17 0 hc2) rfl rfl (Nat.le_of_ble_eq_true rfl) ⟨Nat.le_of_ble_eq_true rfl, Nat.le_of_ble_eq_true rfl⟩ dX5_most_22) (fun H locs hw => ?_)
    refine lv_aload_n hx hb dX5_most_25 rfl (lv_at hl 0 rfl) ?_
    refine g5_5 F hw tw_448 dX5_most_26 ?_
    refine lv_iconst (v := 0) hx hb dX5_most_29 (by decide) ?_
    obtain ⟨M5, hc4, hf⟩ := bv_some hf
    refine x_aftV hw (x_runV (rest := []) F hw hl.1 vw_RX5_240 (sO) rfl (c2_countFrom 0 hc4) rfl rfl (Nat.le_of_ble_eq_true rfl) ⟨Nat.le_of_ble_eq_true rfl, Nat.le_of_ble_eq_true rfl⟩ dX5_most_30) (fun H locs hw => ?_)
    refine lv_aload_n hx hb dX5_most_33 rfl (lv_at hl 0 rfl) ?_
    refine lv_aload_n hx hb dX5_most_34 rfl (lv_at hl 0 rfl) ?_
    refine g5_5 F hw tw_448 dX5_most_35 ?_
    obtain ⟨r8, M7, hc6, hf⟩ := bd_some hf
    refine x_aftI hw (x_runV (rest := [.ref (G.2.1 0)]) F hw hl.1 vw_RX5_250 (sO) rfl (c2_largest hc6) rfl rfl (Nat.le_of_ble_eq_true rfl) ⟨Nat.le_of_ble_eq_true rfl, Nat.le_of_ble_eq_true rfl⟩ dX5_most_38) (fun H locs hw => ?_)
    refine s5_8 F hw tw_299 dX5_most_41 (fun H locs hw => ?_)
    obtain ⟨M9, eM9, hf⟩ := lt_elim hf
    rw [← eM9] at hw
    refine lv_aload_n hx hb dX5_most_44 rfl (lv_at hl 0 rfl) ?_
    refine g5_8 F hw tw_299 dX5_most_45 ?_
    obtain ⟨r12, M11, hc10, hf⟩ := bd_some hf
    refine x_aftI hw (x_runS (rest := []) F hw hl.1 sw_RX5_151 (cj_bits (M9.1 0 8) hc10) rfl rfl (Nat.le_of_ble_eq_true rfl) ⟨Nat.le_of_ble_eq_true rfl, Nat.le_of_ble_eq_true rfl⟩ dX5_most_48) (fun H locs hw => ?_)
    exact x_iret F hw hr hk hf dX5_most_51
  · have hf := it_t hf c1
    refine lv_bipush (v := (-4)) hx hb dX5_most_10 (by decide) ?_
    exact x_iret F hw hr hk hf dX5_most_12
theorem dX5_till_0 : decode cX5_till 0 = .ok (.aload_n 0, 1) := by decide +kernel
theorem dX5_till_1 : decode cX5_till 1 = .ok (.getfield 31, 3) := by decide +kernel
theorem dX5_till_4 : decode cX5_till 4 = .ok (.getfield 126, 3) := by decide +kernel
theorem dX5_till_7 : decode cX5_till 7 = .ok (.ifCond .ne 6, 3) := by decide +kernel
theorem dX5_till_10 : decode cX5_till 10 = .ok (.bipush (-4), 2) := by decide +kernel
theorem dX5_till_12 : decode cX5_till 12 = .ok (.ireturn, 1) := by decide +kernel
theorem dX5_till_13 : decode cX5_till 13 = .ok (.bipush 20, 2) := by decide +kernel
theorem dX5_till_15 : decode cX5_till 15 = .ok (.istore_n 1, 1) := by decide +kernel
theorem dX5_till_16 : decode cX5_till 16 = .ok (.iload_n 1, 1) := by decide +kernel
theorem dX5_till_17 : decode cX5_till 17 = .ok (.ifCond .lt 48, 3) := by decide +kernel
theorem dX5_till_20 : decode cX5_till 20 = .ok (.aload_n 0, 1) := by decide +kernel
theorem dX5_till_21 : decode cX5_till 21 = .ok (.getfield 42, 3) := by decide +kernel
theorem dX5_till_24 : decode cX5_till 24 = .ok (.aload_n 0, 1) := by decide +kernel
theorem dX5_till_25 : decode cX5_till 25 = .ok (.getfield 31, 3) := by decide +kernel
theorem dX5_till_28 : decode cX5_till 28 = .ok (.iload_n 1, 1) := by decide +kernel
theorem dX5_till_29 : decode cX5_till 29 = .ok (.invokevirtual 156, 3) := by decide +kernel
theorem dX5_till_32 : decode cX5_till 32 = .ok (.aload_n 0, 1) := by decide +kernel
theorem dX5_till_33 : decode cX5_till 33 = .ok (.getfield 42, 3) := by decide +kernel
theorem dX5_till_36 : decode cX5_till 36 = .ok (.iconst 0, 1) := by decide +kernel
theorem dX5_till_37 : decode cX5_till 37 = .ok (.invokevirtual 240, 3) := by decide +kernel
theorem dX5_till_40 : decode cX5_till 40 = .ok (.aload_n 0, 1) := by decide +kernel
theorem dX5_till_41 : decode cX5_till 41 = .ok (.getfield 42, 3) := by decide +kernel
theorem dX5_till_44 : decode cX5_till 44 = .ok (.aload_n 0, 1) := by decide +kernel
theorem dX5_till_45 : decode cX5_till 45 = .ok (.getfield 31, 3) := by decide +kernel
theorem dX5_till_48 : decode cX5_till 48 = .ok (.invokevirtual 190, 3) := by decide +kernel
theorem dX5_till_51 : decode cX5_till 51 = .ok (.invokevirtual 243, 3) := by decide +kernel
theorem dX5_till_54 : decode cX5_till 54 = .ok (.ifCond .le 5, 3) := by decide +kernel
theorem dX5_till_57 : decode cX5_till 57 = .ok (.iload_n 1, 1) := by decide +kernel
theorem dX5_till_58 : decode cX5_till 58 = .ok (.ireturn, 1) := by decide +kernel
theorem dX5_till_59 : decode cX5_till 59 = .ok (.iinc 1 (-1), 3) := by decide +kernel
theorem dX5_till_62 : decode cX5_till 62 = .ok (.goto (-46), 3) := by decide +kernel
theorem dX5_till_65 : decode cX5_till 65 = .ok (.bipush (-9), 2) := by decide +kernel
theorem dX5_till_67 : decode cX5_till 67 = .ok (.ireturn, 1) := by decide +kernel
def p5_till_16 (k16 : Int32 → SX → Option (Int32 × SX)) (v1 : Int32) (M : SX) : Option (Int32 × SX) :=
  if v1 < 0 then (some ((-9), M))
  else (bv (p2_lookAt 17 v1 M) (fun M3 => bv (p2_countFrom 0 M3) (fun M5 => bd (p1_pawnedSet 17 M5) (fun r8 M7 => bd (p2_countOf r8 M7) (fun r11 M10 => if r11 ≤ 0 then (lt_ (v1 + (-1)) (fun x13 => k16 x13 M10))
  else (some (v1, M10)))))))
set_option maxHeartbeats 4000000 in
set_option maxRecDepth 100000 in
theorem w5_till_16 {G : XG} {p : Program} {l : Launch} {e : Env} {s : State} {m : MethodId} {args : Array Value} {below : List Frame} {meth : Method} {c : Code} (F : Fx G ZX p m c cX5_till 2 s args RX5) (hr : meth.sig.returnType = some .int) (hk : meth.locks = false) {r : Int32} {M' : SX} (k16 : Int32 → SX → Option (Int32 × SX)) (hk16 : ∀ (v1 : Int32) (M : SX) (H : Heap) (locs : List Loc) (ls : Array Slot), Wld G ZX M s.heap H locs → lv_has ls 2 [(0, .ref (G.2.1 0)), (1, .int v1)] → k16 v1 M = some (r, M') → WXi G ZX p l e 5 s m args below meth c r M' H locs (F0 m 16 ls [])) : ∀ (v1 : Int32) (M : SX) (H : Heap) (locs : List Loc) (ls : Array Slot), Wld G ZX M s.heap H locs → lv_has ls 2 [(0, .ref (G.2.1 0)), (1, .int v1)] → p5_till_16 k16 v1 M = some (r, M') → WXi G ZX p l e 5 s m args below meth c r M' H locs (F0 m 16 ls []) := by
  intro v1 M H locs ls hw hl hf
  have hx := F.1.1
  have hb := F.1.2.1
  unfold p5_till_16 at hf
  refine lv_iload_n hx hb dX5_till_16 rfl (lv_at hl 1 rfl) ?_
  refine lv_if_lt (tgt := 65) hx hb dX5_till_17 (by decide) (fun c1 => ?_) (fun c1 => ?_)
  · have hf := it_t hf c1
    refine lv_bipush (v := (-9)) hx hb dX5_till_65 (by decide) ?_
    exact x_iret F hw hr hk hf dX5_till_67
  · have hf := it_f hf c1
    refine lv_aload_n hx hb dX5_till_20 rfl (lv_at hl 0 rfl) ?_
    refine g5_5 F hw tw_448 dX5_till_21 ?_
    refine lv_aload_n hx hb dX5_till_24 rfl (lv_at hl 0 rfl) ?_
    refine g5_3 F hw tw_306 dX5_till_25 ?_
    refine lv_iload_n hx hb dX5_till_28 rfl (lv_at hl 1 rfl) ?_
    obtain ⟨M3, hc2, hf⟩ := bv_some hf
    refine x_aftV hw (x_runV (rest := []) F hw hl.1 vw_RX5_156 (sO) rfl (c2_lookAt 17 isL_17 v1 hc2) rfl rfl (Nat.le_of_ble_eq_true rfl) ⟨Nat.le_of_ble_eq_true rfl, Nat.le_of_ble_eq_true rfl⟩ dX5_till_29) (fun H locs hw => ?_)
    refine lv_aload_n hx hb dX5_till_32 rfl (lv_at hl 0 rfl) ?_
    refine g5_5 F hw tw_448 dX5_till_33 ?_
    refine lv_iconst (v := 0) hx hb dX5_till_36 (by decide) ?_
    obtain ⟨M5, hc4, hf⟩ := bv_some hf
    refine x_aftV hw (x_runV (rest := []) F hw hl.1 vw_RX5_240 (sO) rfl (c2_countFrom 0 hc4) rfl rfl (Nat.le_of_ble_eq_true rfl) ⟨Nat.le_of_ble_eq_true rfl, Nat.le_of_ble_eq_true rfl⟩ dX5_till_37) (fun H locs hw => ?_)
    refine lv_aload_n hx hb dX5_till_40 rfl (lv_at hl 0 rfl) ?_
    refine g5_5 F hw tw_448 dX5_till_41 ?_
    refine lv_aload_n hx hb dX5_till_44 rfl (lv_at hl 0 rfl) ?_
    refine g5_3 F hw tw_306 dX5_till_45 ?_
    obtain ⟨r8, M7, hc6, hf⟩ := bd_some hf
    refine x_aftI hw (x_runV (rest := [.ref (G.2.1 54)]) F hw hl.1 vw_RX5_190 (sL isL_17) rfl (c1_pawnedSet 17 isL_17 hc6) rfl rfl (Nat.le_of_ble_eq_true rfl) ⟨Nat.le_of_ble_eq_true rfl, Nat.le_of_ble_eq_true rfl⟩ dX5_till_48) (fun H locs hw => ?_)
    obtain ⟨r11, M10, hc9, hf⟩ := bd_some hf
    refine x_aftI hw (x_runV (rest := []) F hw hl.1 vw_RX5_243 (sO) rfl (c2_countOf r8 hc9) rfl rfl (Nat.le_of_ble_eq_true rfl) ⟨Nat.le_of_ble_eq_true rfl, Nat.le_of_ble_eq_true rfl⟩ dX5_till_51) (fun H locs hw => ?_)
    refine lv_if_le (tgt := 59) hx hb dX5_till_54 (by decide) (fun c12 => ?_) (fun c12 => ?_)
    · have hf := it_t hf c12
      obtain ⟨x13, ex13, hf⟩ := lt_elim hf
      refine lv_iinc (v := x13) (lv' := [(1, .int x13), (0, .ref (G.2.1 0))]) hx hb dX5_till_59 hl (k := 1) rfl (by rw [ex13]; rfl) (by decide) rfl (fun ls hl => ?_)
      refine lv_goto (tgt := 16) hx hb dX5_till_62 (by decide) ?_
      exact hk16 x13 M10 _ _ ls hw (lv_sub hl [1, 0] rfl) hf
    · have hf := it_f hf c12
      refine lv_iload_n hx hb dX5_till_57 rfl (lv_at hl 1 rfl) ?_
      exact x_iret F hw hr hk hf dX5_till_58
theorem z5_till_16 {G : XG} {p : Program} {l : Launch} {e : Env} {s : State} {m : MethodId} {args : Array Value} {below : List Frame} {meth : Method} {c : Code} (F : Fx G ZX p m c cX5_till 2 s args RX5) (hr : meth.sig.returnType = some .int) (hk : meth.locks = false) {r : Int32} {M' : SX} : ∀ n : Nat, ∀ (v1 : Int32) (M : SX) (H : Heap) (locs : List Loc) (ls : Array Slot), Wld G ZX M s.heap H locs → lv_has ls 2 [(0, .ref (G.2.1 0)), (1, .int v1)] → xlp1 p5_till_16 n v1 M = some (r, M') → WXi G ZX p l e 5 s m args below meth c r M' H locs (F0 m 16 ls []) := by
  intro n
  induction n with
  | zero => intro _ _ _ _ _ _ _ hf; cases hf
  | succ n ih => exact w5_till_16 F hr hk (xlp1 p5_till_16 n) ih
def p5_till (M : SX) : Option (Int32 × SX) :=
  if (M.1 17 0) = 0 then (some ((-4), M))
  else (xlp1 p5_till_16 FU 20 M)
set_option maxHeartbeats 4000000 in
set_option maxRecDepth 100000 in
theorem c5_till {l : Launch} {G : XG} {r : Int32} {M' : SX} {M : SX} (hf : p5_till M = some (r, M')) : Met l yX5_till (.code yX5_till cX5_till 2 (some .int) :: TBL) (rmX 5) (xPc G ZX M [.ref (G.2.1 0)]) (xQi G ZX r M') 0 0 (inA G ZX) := by
  refine x_met (cc := cX5_till) (by decide) (Nat.le_of_ble_eq_true rfl) ?_
  intro p e s m below meth c ls F hr hk hl hw
  have F : Fx G ZX p m c cX5_till 2 s [.ref (G.2.1 0)].toArray RX5 := F
  have hl : lv_has ls 2 [(0, .ref (G.2.1 0))] := hl
  have hx := F.1.1
  have hb := F.1.2.1
  unfold p5_till at hf
  refine lv_aload_n hx hb dX5_till_0 rfl (lv_at hl 0 rfl) ?_
  refine g5_3 F hw tw_306 dX5_till_1 ?_
  refine g1_0 isL_17 F hw tw_305 dX5_till_4 ?_
  refine lv_if_ne (tgt := 13) hx hb dX5_till_7 (by decide) (fun c1 => ?_) (fun c1 => ?_)
  · have hf := it_f hf c1
    refine lv_bipush (v := 20) hx hb dX5_till_13 (by decide) ?_
    refine lv_istore_n (lv' := [(1, .int 20), (0, .ref (G.2.1 0))]) hx hb dX5_till_15 rfl hl (by decide) rfl (fun ls hl => ?_)
    exact z5_till_16 F hr hk FU 20 M _ _ ls hw (lv_sub hl [1, 0] rfl) hf
  · have hf := it_t hf c1
    refine lv_bipush (v := (-4)) hx hb dX5_till_10 (by decide) ?_
    exact x_iret F hw hr hk hf dX5_till_12
theorem dX5_shuts_0 : decode cX5_shuts 0 = .ok (.aload_n 0, 1) := by decide +kernel
theorem dX5_shuts_1 : decode cX5_shuts 1 = .ok (.getfield 31, 3) := by decide +kernel
theorem dX5_shuts_4 : decode cX5_shuts 4 = .ok (.iload_n 1, 1) := by decide +kernel
theorem dX5_shuts_5 : decode cX5_shuts 5 = .ok (.invokevirtual 129, 3) := by decide +kernel
theorem dX5_shuts_8 : decode cX5_shuts 8 = .ok (.ifCond .eq 20, 3) := by decide +kernel
theorem dX5_shuts_11 : decode cX5_shuts 11 = .ok (.aload_n 0, 1) := by decide +kernel
theorem dX5_shuts_12 : decode cX5_shuts 12 = .ok (.getfield 31, 3) := by decide +kernel
theorem dX5_shuts_15 : decode cX5_shuts 15 = .ok (.iload_n 1, 1) := by decide +kernel
theorem dX5_shuts_16 : decode cX5_shuts 16 = .ok (.invokevirtual 265, 3) := by decide +kernel
theorem dX5_shuts_19 : decode cX5_shuts 19 = .ok (.iconst 1, 1) := by decide +kernel
theorem dX5_shuts_20 : decode cX5_shuts 20 = .ok (.iload_n 1, 1) := by decide +kernel
theorem dX5_shuts_21 : decode cX5_shuts 21 = .ok (.ishl, 1) := by decide +kernel
theorem dX5_shuts_22 : decode cX5_shuts 22 = .ok (.iconst (-1), 1) := by decide +kernel
theorem dX5_shuts_23 : decode cX5_shuts 23 = .ok (.ixor, 1) := by decide +kernel
theorem dX5_shuts_24 : decode cX5_shuts 24 = .ok (.iand, 1) := by decide +kernel
theorem dX5_shuts_25 : decode cX5_shuts 25 = .ok (.goto 4, 3) := by decide +kernel
theorem dX5_shuts_28 : decode cX5_shuts 28 = .ok (.iconst (-1), 1) := by decide +kernel
theorem dX5_shuts_29 : decode cX5_shuts 29 = .ok (.ireturn, 1) := by decide +kernel
def p5_shuts (a1 : Int32) (M : SX) : Option (Int32 × SX) :=
  bd (p1_isShop 17 a1 M) (fun r3 M2 => if r3 = 0 then (some ((-1), M2))
  else (bd (p1_shutBy 17 a1 M2) (fun r7 M6 => some (r7 &&& (((1 : Int32) <<< (a1 &&& 31)) ^^^ (-1)), M6))))
set_option maxHeartbeats 4000000 in
set_option maxRecDepth 100000 in
theorem c5_shuts {l : Launch} {G : XG} {r : Int32} {M' : SX} {M : SX} (a1 : Int32) (hf : p5_shuts a1 M = some (r, M')) : Met l yX5_shuts (.code yX5_shuts cX5_shuts 2 (some .int) :: TBL) (rmX 5) (xPc G ZX M [.ref (G.2.1 0), .int a1]) (xQi G ZX r M') 0 0 (inA G ZX) := by
  refine x_met (cc := cX5_shuts) (by decide) (Nat.le_of_ble_eq_true rfl) ?_
  intro p e s m below meth c ls F hr hk hl hw
  have F : Fx G ZX p m c cX5_shuts 2 s [.ref (G.2.1 0), .int a1].toArray RX5 := F
  have hl : lv_has ls 2 [(0, .ref (G.2.1 0)), (1, .int a1)] := hl
  have hx := F.1.1
  have hb := F.1.2.1
  unfold p5_shuts at hf
  refine lv_aload_n hx hb dX5_shuts_0 rfl (lv_at hl 0 rfl) ?_
  refine g5_3 F hw tw_306 dX5_shuts_1 ?_
  refine lv_iload_n hx hb dX5_shuts_4 rfl (lv_at hl 1 rfl) ?_
  obtain ⟨r3, M2, hc1, hf⟩ := bd_some hf
  refine x_aftI hw (x_runV (rest := []) F hw hl.1 vw_RX5_129 (sL isL_17) rfl (c1_isShop 17 isL_17 a1 hc1) rfl rfl (Nat.le_of_ble_eq_true rfl) ⟨Nat.le_of_ble_eq_true rfl, Nat.le_of_ble_eq_true rfl⟩ dX5_shuts_5) (fun H locs hw => ?_)
  refine lv_if_eq (tgt := 28) hx hb dX5_shuts_8 (by decide) (fun c4 => ?_) (fun c4 => ?_)
  · have hf := it_t hf c4
    refine lv_iconst (v := (-1)) hx hb dX5_shuts_28 (by decide) ?_
    exact x_iret F hw hr hk hf dX5_shuts_29
  · have hf := it_f hf c4
    refine lv_aload_n hx hb dX5_shuts_11 rfl (lv_at hl 0 rfl) ?_
    refine g5_3 F hw tw_306 dX5_shuts_12 ?_
    refine lv_iload_n hx hb dX5_shuts_15 rfl (lv_at hl 1 rfl) ?_
    obtain ⟨r7, M6, hc5, hf⟩ := bd_some hf
    refine x_aftI hw (x_runV (rest := []) F hw hl.1 vw_RX5_265 (sL isL_17) rfl (c1_shutBy 17 isL_17 a1 hc5) rfl rfl (Nat.le_of_ble_eq_true rfl) ⟨Nat.le_of_ble_eq_true rfl, Nat.le_of_ble_eq_true rfl⟩ dX5_shuts_16) (fun H locs hw => ?_)
    refine lv_iconst (v := 1) hx hb dX5_shuts_19 (by decide) ?_
    refine lv_iload_n hx hb dX5_shuts_20 rfl (lv_at hl 1 rfl) ?_
    refine lv_ishl hx hb dX5_shuts_21 ?_
    refine lv_iconst (v := (-1)) hx hb dX5_shuts_22 (by decide) ?_
    refine lv_ixor hx hb dX5_shuts_23 ?_
    refine lv_iand hx hb dX5_shuts_24 ?_
    refine lv_goto (tgt := 29) hx hb dX5_shuts_25 (by decide) ?_
    exact x_iret F hw hr hk hf dX5_shuts_29
theorem dX5_through_0 : decode cX5_through 0 = .ok (.aload_n 0, 1) := by decide +kernel
theorem dX5_through_1 : decode cX5_through 1 = .ok (.getfield 31, 3) := by decide +kernel
theorem dX5_through_4 : decode cX5_through 4 = .ok (.invokevirtual 190, 3) := by decide +kernel
theorem dX5_through_7 : decode cX5_through 7 = .ok (.istore_n 2, 1) := by decide +kernel
theorem dX5_through_8 : decode cX5_through 8 = .ok (.iload_n 1, 1) := by decide +kernel
theorem dX5_through_9 : decode cX5_through 9 = .ok (.iload_n 2, 1) := by decide +kernel
theorem dX5_through_10 : decode cX5_through 10 = .ok (.iconst (-1), 1) := by decide +kernel
theorem dX5_through_11 : decode cX5_through 11 = .ok (.ixor, 1) := by decide +kernel
theorem dX5_through_12 : decode cX5_through 12 = .ok (.iand, 1) := by decide +kernel
theorem dX5_through_13 : decode cX5_through 13 = .ok (.ifCond .eq 5, 3) := by decide +kernel
theorem dX5_through_16 : decode cX5_through 16 = .ok (.iconst (-1), 1) := by decide +kernel
theorem dX5_through_17 : decode cX5_through 17 = .ok (.ireturn, 1) := by decide +kernel
theorem dX5_through_18 : decode cX5_through 18 = .ok (.aload_n 0, 1) := by decide +kernel
theorem dX5_through_19 : decode cX5_through 19 = .ok (.getfield 42, 3) := by decide +kernel
theorem dX5_through_22 : decode cX5_through 22 = .ok (.aload_n 0, 1) := by decide +kernel
theorem dX5_through_23 : decode cX5_through 23 = .ok (.getfield 31, 3) := by decide +kernel
theorem dX5_through_26 : decode cX5_through 26 = .ok (.iconst 0, 1) := by decide +kernel
theorem dX5_through_27 : decode cX5_through 27 = .ok (.invokevirtual 156, 3) := by decide +kernel
theorem dX5_through_30 : decode cX5_through 30 = .ok (.aload_n 0, 1) := by decide +kernel
theorem dX5_through_31 : decode cX5_through 31 = .ok (.getfield 42, 3) := by decide +kernel
theorem dX5_through_34 : decode cX5_through 34 = .ok (.iconst 0, 1) := by decide +kernel
theorem dX5_through_35 : decode cX5_through 35 = .ok (.invokevirtual 240, 3) := by decide +kernel
theorem dX5_through_38 : decode cX5_through 38 = .ok (.aload_n 0, 1) := by decide +kernel
theorem dX5_through_39 : decode cX5_through 39 = .ok (.getfield 42, 3) := by decide +kernel
theorem dX5_through_42 : decode cX5_through 42 = .ok (.iload_n 1, 1) := by decide +kernel
theorem dX5_through_43 : decode cX5_through 43 = .ok (.invokevirtual 243, 3) := by decide +kernel
theorem dX5_through_46 : decode cX5_through 46 = .ok (.i2l, 1) := by decide +kernel
theorem dX5_through_47 : decode cX5_through 47 = .ok (.lstore_n 3, 1) := by decide +kernel
theorem dX5_through_48 : decode cX5_through 48 = .ok (.aload_n 0, 1) := by decide +kernel
theorem dX5_through_49 : decode cX5_through 49 = .ok (.getfield 42, 3) := by decide +kernel
theorem dX5_through_52 : decode cX5_through 52 = .ok (.iload_n 1, 1) := by decide +kernel
theorem dX5_through_53 : decode cX5_through 53 = .ok (.invokevirtual 240, 3) := by decide +kernel
theorem dX5_through_56 : decode cX5_through 56 = .ok (.aload_n 0, 1) := by decide +kernel
theorem dX5_through_57 : decode cX5_through 57 = .ok (.lload_n 3, 1) := by decide +kernel
theorem dX5_through_58 : decode cX5_through 58 = .ok (.aload_n 0, 1) := by decide +kernel
theorem dX5_through_59 : decode cX5_through 59 = .ok (.getfield 42, 3) := by decide +kernel
theorem dX5_through_62 : decode cX5_through 62 = .ok (.iload_n 2, 1) := by decide +kernel
theorem dX5_through_63 : decode cX5_through 63 = .ok (.invokevirtual 243, 3) := by decide +kernel
theorem dX5_through_66 : decode cX5_through 66 = .ok (.i2l, 1) := by decide +kernel
theorem dX5_through_67 : decode cX5_through 67 = .ok (.lmul, 1) := by decide +kernel
theorem dX5_through_68 : decode cX5_through 68 = .ok (.lconst 1, 1) := by decide +kernel
theorem dX5_through_69 : decode cX5_through 69 = .ok (.invokevirtual 246, 3) := by decide +kernel
theorem dX5_through_72 : decode cX5_through 72 = .ok (.iconst 1, 1) := by decide +kernel
theorem dX5_through_73 : decode cX5_through 73 = .ok (.ireturn, 1) := by decide +kernel
def p5_through (a1 : Int32) (M : SX) : Option (Int32 × SX) :=
  bd (p1_pawnedSet 17 M) (fun r3 M2 => if (a1 &&& (r3 ^^^ (-1))) = 0 then (bv (p2_lookAt 17 0 M2) (fun M6 => bv (p2_countFrom 0 M6) (fun M8 => bd (p2_countOf a1 M8) (fun r11 M10 => lt_ (Int32.toInt64 r11) (fun x12 => bv (p2_countFrom a1 M10) (fun M14 => bd (p2_countOf r3 M14) (fun r17 M16 => bv (p5_tell (x12 * (Int32.toInt64 r17)) 1 M16) (fun M19 => some (1, M19)))))))))
  else (some ((-1), M2)))
set_option maxHeartbeats 4000000 in
set_option maxRecDepth 100000 in
theorem c5_through {l : Launch} {G : XG} {r : Int32} {M' : SX} {M : SX} (a1 : Int32) (hf : p5_through a1 M = some (r, M')) : Met l yX5_through (.code yX5_through cX5_through 5 (some .int) :: TBL) (rmX 5) (xPc G ZX M [.ref (G.2.1 0), .int a1]) (xQi G ZX r M') 0 0 (inA G ZX) := by
  refine x_met (cc := cX5_through) (by decide) (Nat.le_of_ble_eq_true rfl) ?_
  intro p e s m below meth c ls F hr hk hl hw
  have F : Fx G ZX p m c cX5_through 5 s [.ref (G.2.1 0), .int a1].toArray RX5 := F
  have hl : lv_has ls 5 [(0, .ref (G.2.1 0)), (1, .int a1)] := hl
  have hx := F.1.1
  have hb := F.1.2.1
  unfold p5_through at hf
  refine lv_aload_n hx hb dX5_through_0 rfl (lv_at hl 0 rfl) ?_
  refine g5_3 F hw tw_306 dX5_through_1 ?_
  obtain ⟨r3, M2, hc1, hf⟩ := bd_some hf
  refine x_aftI hw (x_runV (rest := []) F hw hl.1 vw_RX5_190 (sL isL_17) rfl (c1_pawnedSet 17 isL_17 hc1) rfl rfl (Nat.le_of_ble_eq_true rfl) ⟨Nat.le_of_ble_eq_true rfl, Nat.le_of_ble_eq_true rfl⟩ dX5_through_4) (fun H locs hw => ?_)
  refine lv_istore_n (lv' := [(2, .int r3), (0, .ref (G.2.1 0)), (1, .int a1)]) hx hb dX5_through_7 rfl hl (by decide) rfl (fun ls hl => ?_)
  refine lv_iload_n hx hb dX5_through_8 rfl (lv_at hl 2 rfl) ?_
  refine lv_iload_n hx hb dX5_through_9 rfl (lv_at hl 0 rfl) ?_
  refine lv_iconst (v := (-1)) hx hb dX5_through_10 (by decide) ?_
  refine lv_ixor hx hb dX5_through_11 ?_
  refine lv_iand hx hb dX5_through_12 ?_
  refine lv_if_eq (tgt := 18) hx hb dX5_through_13 (by decide) (fun c4 => ?_) (fun c4 => ?_)
  · have hf := it_t hf c4
    refine lv_aload_n hx hb dX5_through_18 rfl (lv_at hl 1 rfl) ?_
    refine g5_5 F hw tw_448 dX5_through_19 ?_
    refine lv_aload_n hx hb dX5_through_22 rfl (lv_at hl 1 rfl) ?_
    refine g5_3 F hw tw_306 dX5_through_23 ?_
    refine lv_iconst (v := 0) hx hb dX5_through_26 (by decide) ?_
    obtain ⟨M6, hc5, hf⟩ := bv_some hf
    refine x_aftV hw (x_runV (rest := []) F hw hl.1 vw_RX5_156 (sO) rfl (c2_lookAt 17 isL_17 0 hc5) rfl rfl (Nat.le_of_ble_eq_true rfl) ⟨Nat.le_of_ble_eq_true rfl, Nat.le_of_ble_eq_true rfl⟩ dX5_through_27) (fun H locs hw => ?_)
    refine lv_aload_n hx hb dX5_through_30 rfl (lv_at hl 1 rfl) ?_
    refine g5_5 F hw tw_448 dX5_through_31 ?_
    refine lv_iconst (v := 0) hx hb dX5_through_34 (by decide) ?_
    obtain ⟨M8, hc7, hf⟩ := bv_some hf
    refine x_aftV hw (x_runV (rest := []) F hw hl.1 vw_RX5_240 (sO) rfl (c2_countFrom 0 hc7) rfl rfl (Nat.le_of_ble_eq_true rfl) ⟨Nat.le_of_ble_eq_true rfl, Nat.le_of_ble_eq_true rfl⟩ dX5_through_35) (fun H locs hw => ?_)
    refine lv_aload_n hx hb dX5_through_38 rfl (lv_at hl 1 rfl) ?_
    refine g5_5 F hw tw_448 dX5_through_39 ?_
    refine lv_iload_n hx hb dX5_through_42 rfl (lv_at hl 2 rfl) ?_
    obtain ⟨r11, M10, hc9, hf⟩ := bd_some hf
    refine x_aftI hw (x_runV (rest := []) F hw hl.1 vw_RX5_243 (sO) rfl (c2_countOf a1 hc9) rfl rfl (Nat.le_of_ble_eq_true rfl) ⟨Nat.le_of_ble_eq_true rfl, Nat.le_of_ble_eq_true rfl⟩ dX5_through_43) (fun H locs hw => ?_)
    refine lv_i2l (v := Int32.toInt64 r11) hx hb dX5_through_46 rfl ?_
    obtain ⟨x12, ex12, hf⟩ := lt_elim hf
    refine x_letL ex12 ?_
    refine lv_lstore_n (lv' := [(3, .long x12), (2, .int r3), (0, .ref (G.2.1 0)), (1, .int a1)]) hx hb dX5_through_47 rfl hl (by decide) rfl (fun ls hl => ?_)
    refine lv_aload_n hx hb dX5_through_48 rfl (lv_at hl 2 rfl) ?_
    refine g5_5 F hw tw_448 dX5_through_49 ?_
    refine lv_iload_n hx hb dX5_through_52 rfl (lv_at hl 3 rfl) ?_
    obtain ⟨M14, hc13, hf⟩ := bv_some hf
    refine x_aftV hw (x_runV (rest := []) F hw hl.1 vw_RX5_240 (sO) rfl (c2_countFrom a1 hc13) rfl rfl (Nat.le_of_ble_eq_true rfl) ⟨Nat.le_of_ble_eq_true rfl, Nat.le_of_ble_eq_true rfl⟩ dX5_through_53) (fun H locs hw => ?_)
    refine lv_aload_n hx hb dX5_through_56 rfl (lv_at hl 2 rfl) ?_
    refine lv_lload_n hx hb dX5_through_57 rfl (lv_at hl 0 rfl) ?_
    refine lv_aload_n hx hb dX5_through_58 rfl (lv_at hl 2 rfl) ?_
    refine g5_5 F hw tw_448 dX5_through_59 ?_
    refine lv_iload_n hx hb dX5_through_62 rfl (lv_at hl 1 rfl) ?_
    obtain ⟨r17, M16, hc15, hf⟩ := bd_some hf
    refine x_aftI hw (x_runV (rest := [.long x12, .ref (G.2.1 0)]) F hw hl.1 vw_RX5_243 (sO) rfl (c2_countOf r3 hc15) rfl rfl (Nat.le_of_ble_eq_true rfl) ⟨Nat.le_of_ble_eq_true rfl, Nat.le_of_ble_eq_true rfl⟩ dX5_through_63) (fun H locs hw => ?_)
    refine lv_i2l (v := Int32.toInt64 r17) hx hb dX5_through_66 rfl ?_
    refine lv_lmul hx hb dX5_through_67 ?_
    refine lv_lconst (v := 1) hx hb dX5_through_68 (by decide) ?_
    obtain ⟨M19, hc18, hf⟩ := bv_some hf
    refine x_aftV hw (x_runV (rest := []) F hw hl.1 vw_RX5_246 (sP) rfl (c5_tell (x12 * (Int32.toInt64 r17)) 1 hc18) rfl rfl (Nat.le_of_ble_eq_true rfl) ⟨Nat.le_of_ble_eq_true rfl, Nat.le_of_ble_eq_true rfl⟩ dX5_through_69) (fun H locs hw => ?_)
    refine lv_iconst (v := 1) hx hb dX5_through_72 (by decide) ?_
    exact x_iret F hw hr hk hf dX5_through_73
  · have hf := it_f hf c4
    refine lv_iconst (v := (-1)) hx hb dX5_through_16 (by decide) ?_
    exact x_iret F hw hr hk hf dX5_through_17
theorem dX5_odds_0 : decode cX5_odds 0 = .ok (.iload_n 1, 1) := by decide +kernel
theorem dX5_odds_1 : decode cX5_odds 1 = .ok (.ifCond .lt 9, 3) := by decide +kernel
theorem dX5_odds_4 : decode cX5_odds 4 = .ok (.iload_n 1, 1) := by decide +kernel
theorem dX5_odds_5 : decode cX5_odds 5 = .ok (.bipush 12, 2) := by decide +kernel
theorem dX5_odds_7 : decode cX5_odds 7 = .ok (.if_icmp .le 5, 3) := by decide +kernel
theorem dX5_odds_10 : decode cX5_odds 10 = .ok (.iconst (-1), 1) := by decide +kernel
theorem dX5_odds_11 : decode cX5_odds 11 = .ok (.ireturn, 1) := by decide +kernel
theorem dX5_odds_12 : decode cX5_odds 12 = .ok (.aload_n 0, 1) := by decide +kernel
theorem dX5_odds_13 : decode cX5_odds 13 = .ok (.getfield 31, 3) := by decide +kernel
theorem dX5_odds_16 : decode cX5_odds 16 = .ok (.getfield 126, 3) := by decide +kernel
theorem dX5_odds_19 : decode cX5_odds 19 = .ok (.ifCond .ne 6, 3) := by decide +kernel
theorem dX5_odds_22 : decode cX5_odds 22 = .ok (.bipush (-4), 2) := by decide +kernel
theorem dX5_odds_24 : decode cX5_odds 24 = .ok (.ireturn, 1) := by decide +kernel
theorem dX5_odds_25 : decode cX5_odds 25 = .ok (.aload_n 0, 1) := by decide +kernel
theorem dX5_odds_26 : decode cX5_odds 26 = .ok (.getfield 42, 3) := by decide +kernel
theorem dX5_odds_29 : decode cX5_odds 29 = .ok (.aload_n 0, 1) := by decide +kernel
theorem dX5_odds_30 : decode cX5_odds 30 = .ok (.getfield 31, 3) := by decide +kernel
theorem dX5_odds_33 : decode cX5_odds 33 = .ok (.iconst 0, 1) := by decide +kernel
theorem dX5_odds_34 : decode cX5_odds 34 = .ok (.invokevirtual 156, 3) := by decide +kernel
theorem dX5_odds_37 : decode cX5_odds 37 = .ok (.aload_n 0, 1) := by decide +kernel
theorem dX5_odds_38 : decode cX5_odds 38 = .ok (.getfield 42, 3) := by decide +kernel
theorem dX5_odds_41 : decode cX5_odds 41 = .ok (.iconst 0, 1) := by decide +kernel
theorem dX5_odds_42 : decode cX5_odds 42 = .ok (.invokevirtual 240, 3) := by decide +kernel
theorem dX5_odds_45 : decode cX5_odds 45 = .ok (.aload_n 0, 1) := by decide +kernel
theorem dX5_odds_46 : decode cX5_odds 46 = .ok (.getfield 31, 3) := by decide +kernel
theorem dX5_odds_49 : decode cX5_odds 49 = .ok (.invokevirtual 190, 3) := by decide +kernel
theorem dX5_odds_52 : decode cX5_odds 52 = .ok (.invokestatic 151, 3) := by decide +kernel
theorem dX5_odds_55 : decode cX5_odds 55 = .ok (.istore_n 2, 1) := by decide +kernel
theorem dX5_odds_56 : decode cX5_odds 56 = .ok (.lconst 0, 1) := by decide +kernel
theorem dX5_odds_57 : decode cX5_odds 57 = .ok (.lstore_n 3, 1) := by decide +kernel
theorem dX5_odds_58 : decode cX5_odds 58 = .ok (.iconst 0, 1) := by decide +kernel
theorem dX5_odds_59 : decode cX5_odds 59 = .ok (.istore 5, 2) := by decide +kernel
theorem dX5_odds_61 : decode cX5_odds 61 = .ok (.iload 5, 2) := by decide +kernel
theorem dX5_odds_63 : decode cX5_odds 63 = .ok (.bipush 64, 2) := by decide +kernel
theorem dX5_odds_65 : decode cX5_odds 65 = .ok (.if_icmp .ge 49, 3) := by decide +kernel
theorem dX5_odds_68 : decode cX5_odds 68 = .ok (.aload_n 0, 1) := by decide +kernel
theorem dX5_odds_69 : decode cX5_odds 69 = .ok (.getfield 42, 3) := by decide +kernel
theorem dX5_odds_72 : decode cX5_odds 72 = .ok (.iload 5, 2) := by decide +kernel
theorem dX5_odds_74 : decode cX5_odds 74 = .ok (.invokevirtual 243, 3) := by decide +kernel
theorem dX5_odds_77 : decode cX5_odds 77 = .ok (.ifCond .le 31, 3) := by decide +kernel
theorem dX5_odds_80 : decode cX5_odds 80 = .ok (.iload 5, 2) := by decide +kernel
theorem dX5_odds_82 : decode cX5_odds 82 = .ok (.invokestatic 151, 3) := by decide +kernel
theorem dX5_odds_85 : decode cX5_odds 85 = .ok (.istore 6, 2) := by decide +kernel
theorem dX5_odds_87 : decode cX5_odds 87 = .ok (.lload_n 3, 1) := by decide +kernel
theorem dX5_odds_88 : decode cX5_odds 88 = .ok (.bipush 12, 2) := by decide +kernel
theorem dX5_odds_90 : decode cX5_odds 90 = .ok (.iload_n 1, 1) := by decide +kernel
theorem dX5_odds_91 : decode cX5_odds 91 = .ok (.isub, 1) := by decide +kernel
theorem dX5_odds_92 : decode cX5_odds 92 = .ok (.iload 6, 2) := by decide +kernel
theorem dX5_odds_94 : decode cX5_odds 94 = .ok (.invokestatic 274, 3) := by decide +kernel
theorem dX5_odds_97 : decode cX5_odds 97 = .ok (.iload_n 1, 1) := by decide +kernel
theorem dX5_odds_98 : decode cX5_odds 98 = .ok (.iload_n 2, 1) := by decide +kernel
theorem dX5_odds_99 : decode cX5_odds 99 = .ok (.iload 6, 2) := by decide +kernel
theorem dX5_odds_101 : decode cX5_odds 101 = .ok (.isub, 1) := by decide +kernel
theorem dX5_odds_102 : decode cX5_odds 102 = .ok (.invokestatic 274, 3) := by decide +kernel
theorem dX5_odds_105 : decode cX5_odds 105 = .ok (.lmul, 1) := by decide +kernel
theorem dX5_odds_106 : decode cX5_odds 106 = .ok (.ladd, 1) := by decide +kernel
theorem dX5_odds_107 : decode cX5_odds 107 = .ok (.lstore_n 3, 1) := by decide +kernel
theorem dX5_odds_108 : decode cX5_odds 108 = .ok (.iinc 5 1, 3) := by decide +kernel
theorem dX5_odds_111 : decode cX5_odds 111 = .ok (.goto (-50), 3) := by decide +kernel
theorem dX5_odds_114 : decode cX5_odds 114 = .ok (.aload_n 0, 1) := by decide +kernel
theorem dX5_odds_115 : decode cX5_odds 115 = .ok (.lload_n 3, 1) := by decide +kernel
theorem dX5_odds_116 : decode cX5_odds 116 = .ok (.bipush 12, 2) := by decide +kernel
theorem dX5_odds_118 : decode cX5_odds 118 = .ok (.iload_n 2, 1) := by decide +kernel
theorem dX5_odds_119 : decode cX5_odds 119 = .ok (.invokestatic 274, 3) := by decide +kernel
theorem dX5_odds_122 : decode cX5_odds 122 = .ok (.invokevirtual 246, 3) := by decide +kernel
theorem dX5_odds_125 : decode cX5_odds 125 = .ok (.iconst 1, 1) := by decide +kernel
theorem dX5_odds_126 : decode cX5_odds 126 = .ok (.ireturn, 1) := by decide +kernel
def p5_odds_108 (k61 : Int32 → Int32 → Int64 → Int32 → SX → Option (Int32 × SX)) (v1 : Int32) (v2 : Int32) (v3 : Int64) (v5 : Int32) (M : SX) : Option (Int32 × SX) :=
  lt_ (v5 + 1) (fun x1 => k61 v1 v2 v3 x1 M)
set_option maxHeartbeats 4000000 in
set_option maxRecDepth 100000 in
theorem w5_odds_108 {G : XG} {p : Program} {l : Launch} {e : Env} {s : State} {m : MethodId} {args : Array Value} {below : List Frame} {meth : Method} {c : Code} (F : Fx G ZX p m c cX5_odds 7 s args RX5) (hr : meth.sig.returnType = some .int) (hk : meth.locks = false) {r : Int32} {M' : SX} (k61 : Int32 → Int32 → Int64 → Int32 → SX → Option (Int32 × SX)) (hk61 : ∀ (v1 : Int32) (v2 : Int32) (v3 : Int64) (v5 : Int32) (M : SX) (H : Heap) (locs : List Loc) (ls : Array Slot), Wld G ZX M s.heap H locs → lv_has ls 7 [(0, .ref (G.2.1 0)), (1, .int v1), (2, .int v2), (3, .long v3), (5, .int v5)] → k61 v1 v2 v3 v5 M = some (r, M') → WXi G ZX p l e 5 s m args below meth c r M' H locs (F0 m 61 ls [])) : ∀ (v1 : Int32) (v2 : Int32) (v3 : Int64) (v5 : Int32) (M : SX) (H : Heap) (locs : List Loc) (ls : Array Slot), Wld G ZX M s.heap H locs → lv_has ls 7 [(0, .ref (G.2.1 0)), (1, .int v1), (2, .int v2), (3, .long v3), (5, .int v5)] → p5_odds_108 k61 v1 v2 v3 v5 M = some (r, M') → WXi G ZX p l e 5 s m args below meth c r M' H locs (F0 m 108 ls []) := by
  intro v1 v2 v3 v5 M H locs ls hw hl hf
  have hx := F.1.1
  have hb := F.1.2.1
  unfold p5_odds_108 at hf
  obtain ⟨x1, ex1, hf⟩ := lt_elim hf
  refine lv_iinc (v := x1) (lv' := [(5, .int x1), (0, .ref (G.2.1 0)), (1, .int v1), (2, .int v2), (3, .long v3)]) hx hb dX5_odds_108 hl (k := 4) rfl (by rw [ex1]; rfl) (by decide) rfl (fun ls hl => ?_)
  refine lv_goto (tgt := 61) hx hb dX5_odds_111 (by decide) ?_
  exact hk61 v1 v2 v3 x1 M _ _ ls hw (lv_sub hl [1, 2, 3, 4, 0] rfl) hf
def p5_odds_61 (k61 : Int32 → Int32 → Int64 → Int32 → SX → Option (Int32 × SX)) (v1 : Int32) (v2 : Int32) (v3 : Int64) (v5 : Int32) (M : SX) : Option (Int32 × SX) :=
  if (64 : Int32) ≤ v5 then (bd (p5_power 12 v2 M) (fun r4 M3 => bv (p5_tell v3 r4 M3) (fun M6 => some (1, M6))))
  else (bd (p2_countOf v5 M) (fun r9 M8 => if r9 ≤ 0 then (p5_odds_108 k61 v1 v2 v3 v5 M8)
  else (bd (pj_bits v5 M8) (fun r13 M12 => bd (p5_power (12 - v1) r13 M12) (fun r16 M15 => bd (p5_power v1 (v2 - r13) M15) (fun r19 M18 => lt_ (v3 + (r16 * r19)) (fun x20 => p5_odds_108 k61 v1 v2 x20 v5 M18)))))))
set_option maxHeartbeats 4000000 in
set_option maxRecDepth 100000 in
theorem w5_odds_61 {G : XG} {p : Program} {l : Launch} {e : Env} {s : State} {m : MethodId} {args : Array Value} {below : List Frame} {meth : Method} {c : Code} (F : Fx G ZX p m c cX5_odds 7 s args RX5) (hr : meth.sig.returnType = some .int) (hk : meth.locks = false) {r : Int32} {M' : SX} (k61 : Int32 → Int32 → Int64 → Int32 → SX → Option (Int32 × SX)) (hk61 : ∀ (v1 : Int32) (v2 : Int32) (v3 : Int64) (v5 : Int32) (M : SX) (H : Heap) (locs : List Loc) (ls : Array Slot), Wld G ZX M s.heap H locs → lv_has ls 7 [(0, .ref (G.2.1 0)), (1, .int v1), (2, .int v2), (3, .long v3), (5, .int v5)] → k61 v1 v2 v3 v5 M = some (r, M') → WXi G ZX p l e 5 s m args below meth c r M' H locs (F0 m 61 ls [])) : ∀ (v1 : Int32) (v2 : Int32) (v3 : Int64) (v5 : Int32) (M : SX) (H : Heap) (locs : List Loc) (ls : Array Slot), Wld G ZX M s.heap H locs → lv_has ls 7 [(0, .ref (G.2.1 0)), (1, .int v1), (2, .int v2), (3, .long v3), (5, .int v5)] → p5_odds_61 k61 v1 v2 v3 v5 M = some (r, M') → WXi G ZX p l e 5 s m args below meth c r M' H locs (F0 m 61 ls []) := by
  intro v1 v2 v3 v5 M H locs ls hw hl hf
  have hx := F.1.1
  have hb := F.1.2.1
  unfold p5_odds_61 at hf
  refine lv_iload hx hb dX5_odds_61 (lv_at hl 4 rfl) ?_
  refine lv_bipush (v := 64) hx hb dX5_odds_63 (by decide) ?_
  refine lv_icmp_ge (tgt := 114) hx hb dX5_odds_65 (by decide) (fun c1 => ?_) (fun c1 => ?_)
  · have hf := it_t hf c1
    refine lv_aload_n hx hb dX5_odds_114 rfl (lv_at hl 0 rfl) ?_
    refine lv_lload_n hx hb dX5_odds_115 rfl (lv_at hl 3 rfl) ?_
    refine lv_bipush (v := 12) hx hb dX5_odds_116 (by decide) ?_
    refine lv_iload_n hx hb dX5_odds_118 rfl (lv_at hl 2 rfl) ?_
    obtain ⟨r4, M3, hc2, hf⟩ := bd_some hf
    refine x_aftL hw (x_runS (rest := [.long v3, .ref (G.2.1 0)]) F hw hl.1 sw_RX5_274 (c5_power 12 v2 hc2) rfl rfl (Nat.le_of_ble_eq_true rfl) ⟨Nat.le_of_ble_eq_true rfl, Nat.le_of_ble_eq_true rfl⟩ dX5_odds_119) (fun H locs hw => ?_)
    obtain ⟨M6, hc5, hf⟩ := bv_some hf
    refine x_aftV hw (x_runV (rest := []) F hw hl.1 vw_RX5_246 (sP) rfl (c5_tell v3 r4 hc5) rfl rfl (Nat.le_of_ble_eq_true rfl) ⟨Nat.le_of_ble_eq_true rfl, Nat.le_of_ble_eq_true rfl⟩ dX5_odds_122) (fun H locs hw => ?_)
    refine lv_iconst (v := 1) hx hb dX5_odds_125 (by decide) ?_
    exact x_iret F hw hr hk hf dX5_odds_126
  · have hf := it_f hf c1
    refine lv_aload_n hx hb dX5_odds_68 rfl (lv_at hl 0 rfl) ?_
    refine g5_5 F hw tw_448 dX5_odds_69 ?_
    refine lv_iload hx hb dX5_odds_72 (lv_at hl 4 rfl) ?_
    obtain ⟨r9, M8, hc7, hf⟩ := bd_some hf
    refine x_aftI hw (x_runV (rest := []) F hw hl.1 vw_RX5_243 (sO) rfl (c2_countOf v5 hc7) rfl rfl (Nat.le_of_ble_eq_true rfl) ⟨Nat.le_of_ble_eq_true rfl, Nat.le_of_ble_eq_true rfl⟩ dX5_odds_74) (fun H locs hw => ?_)
    refine lv_if_le (tgt := 108) hx hb dX5_odds_77 (by decide) (fun c10 => ?_) (fun c10 => ?_)
    · have hf := it_t hf c10
      exact w5_odds_108 F hr hk k61 hk61 v1 v2 v3 v5 M8 _ _ ls hw (lv_sub hl [0, 1, 2, 3, 4] rfl) hf
    · have hf := it_f hf c10
      refine lv_iload hx hb dX5_odds_80 (lv_at hl 4 rfl) ?_
      obtain ⟨r13, M12, hc11, hf⟩ := bd_some hf
      refine x_aftI hw (x_runS (rest := []) F hw hl.1 sw_RX5_151 (cj_bits v5 hc11) rfl rfl (Nat.le_of_ble_eq_true rfl) ⟨Nat.le_of_ble_eq_true rfl, Nat.le_of_ble_eq_true rfl⟩ dX5_odds_82) (fun H locs hw => ?_)
      refine lv_istore (lv' := [(6, .int r13), (0, .ref (G.2.1 0)), (1, .int v1), (2, .int v2), (3, .long v3), (5, .int v5)]) hx hb dX5_odds_85 hl (by decide) rfl (fun ls hl => ?_)
      refine lv_lload_n hx hb dX5_odds_87 rfl (lv_at hl 4 rfl) ?_
      refine lv_bipush (v := 12) hx hb dX5_odds_88 (by decide) ?_
      refine lv_iload_n hx hb dX5_odds_90 rfl (lv_at hl 2 rfl) ?_
      refine lv_isub hx hb dX5_odds_91 ?_
      refine lv_iload hx hb dX5_odds_92 (lv_at hl 0 rfl) ?_
      obtain ⟨r16, M15, hc14, hf⟩ := bd_some hf
      refine x_aftL hw (x_runS (rest := [.long v3]) F hw hl.1 sw_RX5_274 (c5_power (12 - v1) r13 hc14) rfl rfl (Nat.le_of_ble_eq_true rfl) ⟨Nat.le_of_ble_eq_true rfl, Nat.le_of_ble_eq_true rfl⟩ dX5_odds_94) (fun H locs hw => ?_)
      refine lv_iload_n hx hb dX5_odds_97 rfl (lv_at hl 2 rfl) ?_
      refine lv_iload_n hx hb dX5_odds_98 rfl (lv_at hl 3 rfl) ?_
      refine lv_iload hx hb dX5_odds_99 (lv_at hl 0 rfl) ?_
      refine lv_isub hx hb dX5_odds_101 ?_
      obtain ⟨r19, M18, hc17, hf⟩ := bd_some hf
      refine x_aftL hw (x_runS (rest := [.long r16, .long v3]) F hw hl.1 sw_RX5_274 (c5_power v1 (v2 - r13) hc17) rfl rfl (Nat.le_of_ble_eq_true rfl) ⟨Nat.le_of_ble_eq_true rfl, Nat.le_of_ble_eq_true rfl⟩ dX5_odds_102) (fun H locs hw => ?_)
      refine lv_lmul hx hb dX5_odds_105 ?_
      refine lv_ladd hx hb dX5_odds_106 ?_
      obtain ⟨x20, ex20, hf⟩ := lt_elim hf
      refine x_letL ex20 ?_
      refine lv_lstore_n (lv' := [(3, .long x20), (6, .int r13), (0, .ref (G.2.1 0)), (1, .int v1), (2, .int v2), (5, .int v5)]) hx hb dX5_odds_107 rfl hl (by decide) rfl (fun ls hl => ?_)
      exact w5_odds_108 F hr hk k61 hk61 v1 v2 x20 v5 M18 _ _ ls hw (lv_sub hl [2, 3, 4, 0, 5] rfl) hf
theorem z5_odds_61 {G : XG} {p : Program} {l : Launch} {e : Env} {s : State} {m : MethodId} {args : Array Value} {below : List Frame} {meth : Method} {c : Code} (F : Fx G ZX p m c cX5_odds 7 s args RX5) (hr : meth.sig.returnType = some .int) (hk : meth.locks = false) {r : Int32} {M' : SX} : ∀ n : Nat, ∀ (v1 : Int32) (v2 : Int32) (v3 : Int64) (v5 : Int32) (M : SX) (H : Heap) (locs : List Loc) (ls : Array Slot), Wld G ZX M s.heap H locs → lv_has ls 7 [(0, .ref (G.2.1 0)), (1, .int v1), (2, .int v2), (3, .long v3), (5, .int v5)] → xlp4 p5_odds_61 n v1 v2 v3 v5 M = some (r, M') → WXi G ZX p l e 5 s m args below meth c r M' H locs (F0 m 61 ls []) := by
  intro n
  induction n with
  | zero => intro _ _ _ _ _ _ _ _ _ _ hf; cases hf
  | succ n ih => exact w5_odds_61 F hr hk (xlp4 p5_odds_61 n) ih
def p5_odds (a1 : Int32) (M : SX) : Option (Int32 × SX) :=
  if a1 < 0 then (some ((-1), M))
  else (if a1 ≤ (12 : Int32) then (if (M.1 17 0) = 0 then (some ((-4), M))
  else (bv (p2_lookAt 17 0 M) (fun M5 => bv (p2_countFrom 0 M5) (fun M7 => bd (p1_pawnedSet 17 M7) (fun r10 M9 => bd (pj_bits r10 M9) (fun r13 M12 => xlp4 p5_odds_61 FU a1 r13 0 0 M12))))))
  else (some ((-1), M)))
set_option maxHeartbeats 4000000 in
set_option maxRecDepth 100000 in
theorem c5_odds {l : Launch} {G : XG} {r : Int32} {M' : SX} {M : SX} (a1 : Int32) (hf : p5_odds a1 M = some (r, M')) : Met l yX5_odds (.code yX5_odds cX5_odds 7 (some .int) :: TBL) (rmX 5) (xPc G ZX M [.ref (G.2.1 0), .int a1]) (xQi G ZX r M') 0 0 (inA G ZX) := by
  refine x_met (cc := cX5_odds) (by decide) (Nat.le_of_ble_eq_true rfl) ?_
  intro p e s m below meth c ls F hr hk hl hw
  have F : Fx G ZX p m c cX5_odds 7 s [.ref (G.2.1 0), .int a1].toArray RX5 := F
  have hl : lv_has ls 7 [(0, .ref (G.2.1 0)), (1, .int a1)] := hl
  have hx := F.1.1
  have hb := F.1.2.1
  unfold p5_odds at hf
  refine lv_iload_n hx hb dX5_odds_0 rfl (lv_at hl 1 rfl) ?_
  refine lv_if_lt (tgt := 10) hx hb dX5_odds_1 (by decide) (fun c1 => ?_) (fun c1 => ?_)
  · have hf := it_t hf c1
    refine lv_iconst (v := (-1)) hx hb dX5_odds_10 (by decide) ?_
    exact x_iret F hw hr hk hf dX5_odds_11
  · have hf := it_f hf c1
    refine lv_iload_n hx hb dX5_odds_4 rfl (lv_at hl 1 rfl) ?_
    refine lv_bipush (v := 12) hx hb dX5_odds_5 (by decide) ?_
    refine lv_icmp_le (tgt := 12) hx hb dX5_odds_7 (by decide) (fun c2 => ?_) (fun c2 => ?_)
    · have hf := it_t hf c2
      refine lv_aload_n hx hb dX5_odds_12 rfl (lv_at hl 0 rfl) ?_
      refine g5_3 F hw tw_306 dX5_odds_13 ?_
      refine g1_0 isL_17 F hw tw_305 dX5_odds_16 ?_
      refine lv_if_ne (tgt := 25) hx hb dX5_odds_19 (by decide) (fun c3 => ?_) (fun c3 => ?_)
      · have hf := it_f hf c3
        refine lv_aload_n hx hb dX5_odds_25 rfl (lv_at hl 0 rfl) ?_
        refine g5_5 F hw tw_448 dX5_odds_26 ?_
        refine lv_aload_n hx hb dX5_odds_29 rfl (lv_at hl 0 rfl) ?_
        refine g5_3 F hw tw_306 dX5_odds_30 ?_
        refine lv_iconst (v := 0) hx hb dX5_odds_33 (by decide) ?_
        obtain ⟨M5, hc4, hf⟩ := bv_some hf
        refine x_aftV hw (x_runV (rest := []) F hw hl.1 vw_RX5_156 (sO) rfl (c2_lookAt 17 isL_17 0 hc4) rfl rfl (Nat.le_of_ble_eq_true rfl) ⟨Nat.le_of_ble_eq_true rfl, Nat.le_of_ble_eq_true rfl⟩ dX5_odds_34) (fun H locs hw => ?_)
        refine lv_aload_n hx hb dX5_odds_37 rfl (lv_at hl 0 rfl) ?_
        refine g5_5 F hw tw_448 dX5_odds_38 ?_
        refine lv_iconst (v := 0) hx hb dX5_odds_41 (by decide) ?_
        obtain ⟨M7, hc6, hf⟩ := bv_some hf
        refine x_aftV hw (x_runV (rest := []) F hw hl.1 vw_RX5_240 (sO) rfl (c2_countFrom 0 hc6) rfl rfl (Nat.le_of_ble_eq_true rfl) ⟨Nat.le_of_ble_eq_true rfl, Nat.le_of_ble_eq_true rfl⟩ dX5_odds_42) (fun H locs hw => ?_)
        refine lv_aload_n hx hb dX5_odds_45 rfl (lv_at hl 0 rfl) ?_
        refine g5_3 F hw tw_306 dX5_odds_46 ?_
        obtain ⟨r10, M9, hc8, hf⟩ := bd_some hf
        refine x_aftI hw (x_runV (rest := []) F hw hl.1 vw_RX5_190 (sL isL_17) rfl (c1_pawnedSet 17 isL_17 hc8) rfl rfl (Nat.le_of_ble_eq_true rfl) ⟨Nat.le_of_ble_eq_true rfl, Nat.le_of_ble_eq_true rfl⟩ dX5_odds_49) (fun H locs hw => ?_)
        obtain ⟨r13, M12, hc11, hf⟩ := bd_some hf
        refine x_aftI hw (x_runS (rest := []) F hw hl.1 sw_RX5_151 (cj_bits r10 hc11) rfl rfl (Nat.le_of_ble_eq_true rfl) ⟨Nat.le_of_ble_eq_true rfl, Nat.le_of_ble_eq_true rfl⟩ dX5_odds_52) (fun H locs hw => ?_)
        refine lv_istore_n (lv' := [(2, .int r13), (0, .ref (G.2.1 0)), (1, .int a1)]) hx hb dX5_odds_55 rfl hl (by decide) rfl (fun ls hl => ?_)
        refine lv_lconst (v := 0) hx hb dX5_odds_56 (by decide) ?_
        refine lv_lstore_n (lv' := [(3, .long 0), (2, .int r13), (0, .ref (G.2.1 0)), (1, .int a1)]) hx hb dX5_odds_57 rfl hl (by decide) rfl (fun ls hl => ?_)
        refine lv_iconst (v := 0) hx hb dX5_odds_58 (by decide) ?_
        refine lv_istore (lv' := [(5, .int 0), (3, .long 0), (2, .int r13), (0, .ref (G.2.1 0)), (1, .int a1)]) hx hb dX5_odds_59 hl (by decide) rfl (fun ls hl => ?_)
        exact z5_odds_61 F hr hk FU a1 r13 0 0 M12 _ _ ls hw (lv_sub hl [3, 4, 2, 1, 0] rfl) hf
      · have hf := it_t hf c3
        refine lv_bipush (v := (-4)) hx hb dX5_odds_22 (by decide) ?_
        exact x_iret F hw hr hk hf dX5_odds_24
    · have hf := it_f hf c2
      refine lv_iconst (v := (-1)) hx hb dX5_odds_10 (by decide) ?_
      exact x_iret F hw hr hk hf dX5_odds_11
theorem dX5_lots_0 : decode cX5_lots 0 = .ok (.iload_n 1, 1) := by decide +kernel
theorem dX5_lots_1 : decode cX5_lots 1 = .ok (.iconst 1, 1) := by decide +kernel
theorem dX5_lots_2 : decode cX5_lots 2 = .ok (.if_icmp .lt 23, 3) := by decide +kernel
theorem dX5_lots_5 : decode cX5_lots 5 = .ok (.iload_n 1, 1) := by decide +kernel
theorem dX5_lots_6 : decode cX5_lots 6 = .ok (.bipush 20, 2) := by decide +kernel
theorem dX5_lots_8 : decode cX5_lots 8 = .ok (.if_icmp .gt 17, 3) := by decide +kernel
theorem dX5_lots_11 : decode cX5_lots 11 = .ok (.iload_n 2, 1) := by decide +kernel
theorem dX5_lots_12 : decode cX5_lots 12 = .ok (.iconst 1, 1) := by decide +kernel
theorem dX5_lots_13 : decode cX5_lots 13 = .ok (.if_icmp .lt 12, 3) := by decide +kernel
theorem dX5_lots_16 : decode cX5_lots 16 = .ok (.iload_n 2, 1) := by decide +kernel
theorem dX5_lots_17 : decode cX5_lots 17 = .ok (.i2l, 1) := by decide +kernel
theorem dX5_lots_18 : decode cX5_lots 18 = .ok (.ldc2_w 278, 3) := by decide +kernel
theorem dX5_lots_21 : decode cX5_lots 21 = .ok (.lcmp, 1) := by decide +kernel
theorem dX5_lots_22 : decode cX5_lots 22 = .ok (.ifCond .lt 5, 3) := by decide +kernel
theorem dX5_lots_25 : decode cX5_lots 25 = .ok (.iconst (-1), 1) := by decide +kernel
theorem dX5_lots_26 : decode cX5_lots 26 = .ok (.ireturn, 1) := by decide +kernel
theorem dX5_lots_27 : decode cX5_lots 27 = .ok (.aload_n 0, 1) := by decide +kernel
theorem dX5_lots_28 : decode cX5_lots 28 = .ok (.getfield 31, 3) := by decide +kernel
theorem dX5_lots_31 : decode cX5_lots 31 = .ok (.getfield 126, 3) := by decide +kernel
theorem dX5_lots_34 : decode cX5_lots 34 = .ok (.ifCond .ne 6, 3) := by decide +kernel
theorem dX5_lots_37 : decode cX5_lots 37 = .ok (.bipush (-4), 2) := by decide +kernel
theorem dX5_lots_39 : decode cX5_lots 39 = .ok (.ireturn, 1) := by decide +kernel
theorem dX5_lots_40 : decode cX5_lots 40 = .ok (.aload_n 0, 1) := by decide +kernel
theorem dX5_lots_41 : decode cX5_lots 41 = .ok (.getfield 31, 3) := by decide +kernel
theorem dX5_lots_44 : decode cX5_lots 44 = .ok (.getfield 163, 3) := by decide +kernel
theorem dX5_lots_47 : decode cX5_lots 47 = .ok (.iload_n 1, 1) := by decide +kernel
theorem dX5_lots_48 : decode cX5_lots 48 = .ok (.invokevirtual 178, 3) := by decide +kernel
theorem dX5_lots_51 : decode cX5_lots 51 = .ok (.ifCond .ne 6, 3) := by decide +kernel
theorem dX5_lots_54 : decode cX5_lots 54 = .ok (.bipush (-2), 2) := by decide +kernel
theorem dX5_lots_56 : decode cX5_lots 56 = .ok (.ireturn, 1) := by decide +kernel
theorem dX5_lots_57 : decode cX5_lots 57 = .ok (.iload_n 2, 1) := by decide +kernel
theorem dX5_lots_58 : decode cX5_lots 58 = .ok (.i2l, 1) := by decide +kernel
theorem dX5_lots_59 : decode cX5_lots 59 = .ok (.lstore_n 3, 1) := by decide +kernel
theorem dX5_lots_60 : decode cX5_lots 60 = .ok (.iconst 0, 1) := by decide +kernel
theorem dX5_lots_61 : decode cX5_lots 61 = .ok (.istore 5, 2) := by decide +kernel
theorem dX5_lots_63 : decode cX5_lots 63 = .ok (.iload 5, 2) := by decide +kernel
theorem dX5_lots_65 : decode cX5_lots 65 = .ok (.iload_n 1, 1) := by decide +kernel
theorem dX5_lots_66 : decode cX5_lots 66 = .ok (.if_icmp .ge 28, 3) := by decide +kernel
theorem dX5_lots_69 : decode cX5_lots 69 = .ok (.lload_n 3, 1) := by decide +kernel
theorem dX5_lots_70 : decode cX5_lots 70 = .ok (.ldc2_w 280, 3) := by decide +kernel
theorem dX5_lots_73 : decode cX5_lots 73 = .ok (.lmul, 1) := by decide +kernel
theorem dX5_lots_74 : decode cX5_lots 74 = .ok (.ldc2_w 278, 3) := by decide +kernel
theorem dX5_lots_77 : decode cX5_lots 77 = .ok (.lrem, 1) := by decide +kernel
theorem dX5_lots_78 : decode cX5_lots 78 = .ok (.lstore_n 3, 1) := by decide +kernel
theorem dX5_lots_79 : decode cX5_lots 79 = .ok (.aload_n 0, 1) := by decide +kernel
theorem dX5_lots_80 : decode cX5_lots 80 = .ok (.getfield 31, 3) := by decide +kernel
theorem dX5_lots_83 : decode cX5_lots 83 = .ok (.lload_n 3, 1) := by decide +kernel
theorem dX5_lots_84 : decode cX5_lots 84 = .ok (.l2i, 1) := by decide +kernel
theorem dX5_lots_85 : decode cX5_lots 85 = .ok (.invokevirtual 282, 3) := by decide +kernel
theorem dX5_lots_88 : decode cX5_lots 88 = .ok (.iinc 5 1, 3) := by decide +kernel
theorem dX5_lots_91 : decode cX5_lots 91 = .ok (.goto (-28), 3) := by decide +kernel
theorem dX5_lots_94 : decode cX5_lots 94 = .ok (.aload_n 0, 1) := by decide +kernel
theorem dX5_lots_95 : decode cX5_lots 95 = .ok (.getfield 31, 3) := by decide +kernel
theorem dX5_lots_98 : decode cX5_lots 98 = .ok (.invokevirtual 190, 3) := by decide +kernel
theorem dX5_lots_101 : decode cX5_lots 101 = .ok (.invokestatic 151, 3) := by decide +kernel
theorem dX5_lots_104 : decode cX5_lots 104 = .ok (.ireturn, 1) := by decide +kernel
def p5_lots_63 (k63 : Int32 → Int64 → Int32 → SX → Option (Int32 × SX)) (v1 : Int32) (v3 : Int64) (v5 : Int32) (M : SX) : Option (Int32 × SX) :=
  if v1 ≤ v5 then (bd (p1_pawnedSet 17 M) (fun r4 M3 => bd (pj_bits r4 M3) (fun r7 M6 => some (r7, M6))))
  else (lt_ ((v3 * 48271) - (v3 * 48271) / 2147483647 * 2147483647) (fun x8 => bv (p1_doByLot 17 (Int64.toInt32 x8) M) (fun M10 => lt_ (v5 + 1) (fun x11 => k63 v1 x8 x11 M10))))
set_option maxHeartbeats 4000000 in
set_option maxRecDepth 100000 in
theorem w5_lots_63 {G : XG} {p : Program} {l : Launch} {e : Env} {s : State} {m : MethodId} {args : Array Value} {below : List Frame} {meth : Method} {c : Code} (F : Fx G ZX p m c cX5_lots 6 s args RX5) (hr : meth.sig.returnType = some .int) (hk : meth.locks = false) {r : Int32} {M' : SX} (k63 : Int32 → Int64 → Int32 → SX → Option (Int32 × SX)) (hk63 : ∀ (v1 : Int32) (v3 : Int64) (v5 : Int32) (M : SX) (H : Heap) (locs : List Loc) (ls : Array Slot), Wld G ZX M s.heap H locs → lv_has ls 6 [(0, .ref (G.2.1 0)), (1, .int v1), (3, .long v3), (5, .int v5)] → k63 v1 v3 v5 M = some (r, M') → WXi G ZX p l e 5 s m args below meth c r M' H locs (F0 m 63 ls [])) : ∀ (v1 : Int32) (v3 : Int64) (v5 : Int32) (M : SX) (H : Heap) (locs : List Loc) (ls : Array Slot), Wld G ZX M s.heap H locs → lv_has ls 6 [(0, .ref (G.2.1 0)), (1, .int v1), (3, .long v3), (5, .int v5)] → p5_lots_63 k63 v1 v3 v5 M = some (r, M') → WXi G ZX p l e 5 s m args below meth c r M' H locs (F0 m 63 ls []) := by
  intro v1 v3 v5 M H locs ls hw hl hf
  have hx := F.1.1
  have hb := F.1.2.1
  unfold p5_lots_63 at hf
  refine lv_iload hx hb dX5_lots_63 (lv_at hl 3 rfl) ?_
  refine lv_iload_n hx hb dX5_lots_65 rfl (lv_at hl 1 rfl) ?_
  refine lv_icmp_ge (tgt := 94) hx hb dX5_lots_66 (by decide) (fun c1 => ?_) (fun c1 => ?_)
  · have hf := it_t hf c1
    refine lv_aload_n hx hb dX5_lots_94 rfl (lv_at hl 0 rfl) ?_
    refine g5_3 F hw tw_306 dX5_lots_95 ?_
    obtain ⟨r4, M3, hc2, hf⟩ := bd_some hf
    refine x_aftI hw (x_runV (rest := []) F hw hl.1 vw_RX5_190 (sL isL_17) rfl (c1_pawnedSet 17 isL_17 hc2) rfl rfl (Nat.le_of_ble_eq_true rfl) ⟨Nat.le_of_ble_eq_true rfl, Nat.le_of_ble_eq_true rfl⟩ dX5_lots_98) (fun H locs hw => ?_)
    obtain ⟨r7, M6, hc5, hf⟩ := bd_some hf
    refine x_aftI hw (x_runS (rest := []) F hw hl.1 sw_RX5_151 (cj_bits r4 hc5) rfl rfl (Nat.le_of_ble_eq_true rfl) ⟨Nat.le_of_ble_eq_true rfl, Nat.le_of_ble_eq_true rfl⟩ dX5_lots_101) (fun H locs hw => ?_)
    exact x_iret F hw hr hk hf dX5_lots_104
  · have hf := it_f hf c1
    refine lv_lload_n hx hb dX5_lots_69 rfl (lv_at hl 2 rfl) ?_
    refine lv_ldc2 (v := 48271) hx hb F.1.2.2.2.1 (F.1.2.2.2.2 _ tw_550) dX5_lots_70 ?_
    refine lv_lmul hx hb dX5_lots_73 ?_
    refine lv_ldc2 (v := 2147483647) hx hb F.1.2.2.2.1 (F.1.2.2.2.2 _ tw_551) dX5_lots_74 ?_
    refine lv_lrem hx hb dX5_lots_77 (by decide) ?_
    obtain ⟨x8, ex8, hf⟩ := lt_elim hf
    refine x_letL ex8 ?_
    refine lv_lstore_n (lv' := [(3, .long x8), (0, .ref (G.2.1 0)), (1, .int v1), (5, .int v5)]) hx hb dX5_lots_78 rfl hl (by decide) rfl (fun ls hl => ?_)
    refine lv_aload_n hx hb dX5_lots_79 rfl (lv_at hl 1 rfl) ?_
    refine g5_3 F hw tw_306 dX5_lots_80 ?_
    refine lv_lload_n hx hb dX5_lots_83 rfl (lv_at hl 0 rfl) ?_
    refine lv_l2i (v := Int64.toInt32 x8) hx hb dX5_lots_84 rfl ?_
    obtain ⟨M10, hc9, hf⟩ := bv_some hf
    refine x_aftV hw (x_runV (rest := []) F hw hl.1 vw_RX5_282 (sL isL_17) rfl (c1_doByLot 17 isL_17 (Int64.toInt32 x8) hc9) rfl rfl (Nat.le_of_ble_eq_true rfl) ⟨Nat.le_of_ble_eq_true rfl, Nat.le_of_ble_eq_true rfl⟩ dX5_lots_85) (fun H locs hw => ?_)
    obtain ⟨x11, ex11, hf⟩ := lt_elim hf
    refine lv_iinc (v := x11) (lv' := [(5, .int x11), (3, .long x8), (0, .ref (G.2.1 0)), (1, .int v1)]) hx hb dX5_lots_88 hl (k := 3) rfl (by rw [ex11]; rfl) (by decide) rfl (fun ls hl => ?_)
    refine lv_goto (tgt := 63) hx hb dX5_lots_91 (by decide) ?_
    exact hk63 v1 x8 x11 M10 _ _ ls hw (lv_sub hl [2, 3, 1, 0] rfl) hf
theorem z5_lots_63 {G : XG} {p : Program} {l : Launch} {e : Env} {s : State} {m : MethodId} {args : Array Value} {below : List Frame} {meth : Method} {c : Code} (F : Fx G ZX p m c cX5_lots 6 s args RX5) (hr : meth.sig.returnType = some .int) (hk : meth.locks = false) {r : Int32} {M' : SX} : ∀ n : Nat, ∀ (v1 : Int32) (v3 : Int64) (v5 : Int32) (M : SX) (H : Heap) (locs : List Loc) (ls : Array Slot), Wld G ZX M s.heap H locs → lv_has ls 6 [(0, .ref (G.2.1 0)), (1, .int v1), (3, .long v3), (5, .int v5)] → xlp3 p5_lots_63 n v1 v3 v5 M = some (r, M') → WXi G ZX p l e 5 s m args below meth c r M' H locs (F0 m 63 ls []) := by
  intro n
  induction n with
  | zero => intro _ _ _ _ _ _ _ _ _ hf; cases hf
  | succ n ih => exact w5_lots_63 F hr hk (xlp3 p5_lots_63 n) ih
def p5_lots (a1 : Int32) (a2 : Int32) (M : SX) : Option (Int32 × SX) :=
  if a1 < (1 : Int32) then (some ((-1), M))
  else (if (20 : Int32) < a1 then (some ((-1), M))
  else (if a2 < (1 : Int32) then (some ((-1), M))
  else (if (Int32.toInt64 a2) < 2147483647 then (if (M.1 17 0) = 0 then (some ((-4), M))
  else (bd (p0_hasRoom (17 + 7) a1 M) (fun r8 M7 => if r8 = 0 then (some ((-2), M7))
  else (lt_ (Int32.toInt64 a2) (fun x10 => xlp3 p5_lots_63 FU a1 x10 0 M7)))))
  else (some ((-1), M)))))
set_option maxHeartbeats 4000000 in
set_option maxRecDepth 100000 in
theorem c5_lots {l : Launch} {G : XG} {r : Int32} {M' : SX} {M : SX} (a1 : Int32) (a2 : Int32) (hf : p5_lots a1 a2 M = some (r, M')) : Met l yX5_lots (.code yX5_lots cX5_lots 6 (some .int) :: TBL) (rmX 5) (xPc G ZX M [.ref (G.2.1 0), .int a1, .int a2]) (xQi G ZX r M') 0 0 (inA G ZX) := by
  refine x_met (cc := cX5_lots) (by decide) (Nat.le_of_ble_eq_true rfl) ?_
  intro p e s m below meth c ls F hr hk hl hw
  have F : Fx G ZX p m c cX5_lots 6 s [.ref (G.2.1 0), .int a1, .int a2].toArray RX5 := F
  have hl : lv_has ls 6 [(0, .ref (G.2.1 0)), (1, .int a1), (2, .int a2)] := hl
  have hx := F.1.1
  have hb := F.1.2.1
  unfold p5_lots at hf
  refine lv_iload_n hx hb dX5_lots_0 rfl (lv_at hl 1 rfl) ?_
  refine lv_iconst (v := 1) hx hb dX5_lots_1 (by decide) ?_
  refine lv_icmp_lt (tgt := 25) hx hb dX5_lots_2 (by decide) (fun c1 => ?_) (fun c1 => ?_)
  · have hf := it_t hf c1
    refine lv_iconst (v := (-1)) hx hb dX5_lots_25 (by decide) ?_
    exact x_iret F hw hr hk hf dX5_lots_26
  · have hf := it_f hf c1
    refine lv_iload_n hx hb dX5_lots_5 rfl (lv_at hl 1 rfl) ?_
    refine lv_bipush (v := 20) hx hb dX5_lots_6 (by decide) ?_
    refine lv_icmp_gt (tgt := 25) hx hb dX5_lots_8 (by decide) (fun c2 => ?_) (fun c2 => ?_)
    · have hf := it_t hf c2
      refine lv_iconst (v := (-1)) hx hb dX5_lots_25 (by decide) ?_
      exact x_iret F hw hr hk hf dX5_lots_26
    · have hf := it_f hf c2
      refine lv_iload_n hx hb dX5_lots_11 rfl (lv_at hl 2 rfl) ?_
      refine lv_iconst (v := 1) hx hb dX5_lots_12 (by decide) ?_
      refine lv_icmp_lt (tgt := 25) hx hb dX5_lots_13 (by decide) (fun c3 => ?_) (fun c3 => ?_)
      · have hf := it_t hf c3
        refine lv_iconst (v := (-1)) hx hb dX5_lots_25 (by decide) ?_
        exact x_iret F hw hr hk hf dX5_lots_26
      · have hf := it_f hf c3
        refine lv_iload_n hx hb dX5_lots_16 rfl (lv_at hl 2 rfl) ?_
        refine lv_i2l (v := Int32.toInt64 a2) hx hb dX5_lots_17 rfl ?_
        refine lv_ldc2 (v := 2147483647) hx hb F.1.2.2.2.1 (F.1.2.2.2.2 _ tw_551) dX5_lots_18 ?_
        refine W.lcmp hx hb dX5_lots_21 ?_
        refine lv_if_lt (tgt := 27) hx hb dX5_lots_22 (by decide) (fun c4 => ?_) (fun c4 => ?_)
        · have hf := it_t hf ((lc_lt (Int32.toInt64 a2) 2147483647).mp c4)
          refine lv_aload_n hx hb dX5_lots_27 rfl (lv_at hl 0 rfl) ?_
          refine g5_3 F hw tw_306 dX5_lots_28 ?_
          refine g1_0 isL_17 F hw tw_305 dX5_lots_31 ?_
          refine lv_if_ne (tgt := 40) hx hb dX5_lots_34 (by decide) (fun c5 => ?_) (fun c5 => ?_)
          · have hf := it_f hf c5
            refine lv_aload_n hx hb dX5_lots_40 rfl (lv_at hl 0 rfl) ?_
            refine g5_3 F hw tw_306 dX5_lots_41 ?_
            refine g1_7 isL_17 F hw tw_309 dX5_lots_44 ?_
            refine lv_iload_n hx hb dX5_lots_47 rfl (lv_at hl 1 rfl) ?_
            obtain ⟨r8, M7, hc6, hf⟩ := bd_some hf
            refine x_aftI hw (x_runV (rest := []) F hw hl.1 vw_RX5_178 (sD (isD_of isL_17)) rfl (c0_hasRoom (17 + 7) (isD_of isL_17) a1 hc6) rfl rfl (Nat.le_of_ble_eq_true rfl) ⟨Nat.le_of_ble_eq_true rfl, Nat.le_of_ble_eq_true rfl⟩ dX5_lots_48) (fun H locs hw => ?_)
            refine lv_if_ne (tgt := 57) hx hb dX5_lots_51 (by decide) (fun c9 => ?_) (fun c9 => ?_)
            · have hf := it_f hf c9
              refine lv_iload_n hx hb dX5_lots_57 rfl (lv_at hl 2 rfl) ?_
              refine lv_i2l (v := Int32.toInt64 a2) hx hb dX5_lots_58 rfl ?_
              obtain ⟨x10, ex10, hf⟩ := lt_elim hf
              refine x_letL ex10 ?_
              refine lv_lstore_n (lv' := [(3, .long x10), (0, .ref (G.2.1 0)), (1, .int a1), (2, .int a2)]) hx hb dX5_lots_59 rfl hl (by decide) rfl (fun ls hl => ?_)
              refine lv_iconst (v := 0) hx hb dX5_lots_60 (by decide) ?_
              refine lv_istore (lv' := [(5, .int 0), (3, .long x10), (0, .ref (G.2.1 0)), (1, .int a1), (2, .int a2)]) hx hb dX5_lots_61 hl (by decide) rfl (fun ls hl => ?_)
              exact z5_lots_63 F hr hk FU a1 x10 0 M7 _ _ ls hw (lv_sub hl [2, 3, 1, 0] rfl) hf
            · have hf := it_t hf c9
              refine lv_bipush (v := (-2)) hx hb dX5_lots_54 (by decide) ?_
              exact x_iret F hw hr hk hf dX5_lots_56
          · have hf := it_t hf c5
            refine lv_bipush (v := (-4)) hx hb dX5_lots_37 (by decide) ?_
            exact x_iret F hw hr hk hf dX5_lots_39
        · have hf := it_f hf (fun h9 => c4 ((lc_lt (Int32.toInt64 a2) 2147483647).mpr h9))
          refine lv_iconst (v := (-1)) hx hb dX5_lots_25 (by decide) ?_
          exact x_iret F hw hr hk hf dX5_lots_26
