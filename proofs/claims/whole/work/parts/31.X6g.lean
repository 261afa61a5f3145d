theorem dX6_next_0 : decode cX6_next 0 = .ok (.aload_n 0, 1) := by decide +kernel
theorem dX6_next_1 : decode cX6_next 1 = .ok (.getfield 219, 3) := by decide +kernel
theorem dX6_next_4 : decode cX6_next 4 = .ok (.iload_n 1, 1) := by decide +kernel
theorem dX6_next_5 : decode cX6_next 5 = .ok (.invokestatic 181, 3) := by decide +kernel
theorem dX6_next_8 : decode cX6_next 8 = .ok (.ifCond .eq 30, 3) := by decide +kernel
theorem dX6_next_11 : decode cX6_next 11 = .ok (.iload_n 2, 1) := by decide +kernel
theorem dX6_next_12 : decode cX6_next 12 = .ok (.iload_n 1, 1) := by decide +kernel
theorem dX6_next_13 : decode cX6_next 13 = .ok (.invokestatic 181, 3) := by decide +kernel
theorem dX6_next_16 : decode cX6_next 16 = .ok (.ifCond .ne 22, 3) := by decide +kernel
theorem dX6_next_19 : decode cX6_next 19 = .ok (.aload_n 0, 1) := by decide +kernel
theorem dX6_next_20 : decode cX6_next 20 = .ok (.iload_n 1, 1) := by decide +kernel
theorem dX6_next_21 : decode cX6_next 21 = .ok (.iload_n 2, 1) := by decide +kernel
theorem dX6_next_22 : decode cX6_next 22 = .ok (.invokevirtual 222, 3) := by decide +kernel
theorem dX6_next_25 : decode cX6_next 25 = .ok (.aload_n 0, 1) := by decide +kernel
theorem dX6_next_26 : decode cX6_next 26 = .ok (.getfield 44, 3) := by decide +kernel
theorem dX6_next_29 : decode cX6_next 29 = .ok (.iload_n 1, 1) := by decide +kernel
theorem dX6_next_30 : decode cX6_next 30 = .ok (.iaload, 1) := by decide +kernel
theorem dX6_next_31 : decode cX6_next 31 = .ok (.if_icmp .lt 7, 3) := by decide +kernel
theorem dX6_next_34 : decode cX6_next 34 = .ok (.iconst 1, 1) := by decide +kernel
theorem dX6_next_35 : decode cX6_next 35 = .ok (.goto 4, 3) := by decide +kernel
theorem dX6_next_38 : decode cX6_next 38 = .ok (.iconst 0, 1) := by decide +kernel
theorem dX6_next_39 : decode cX6_next 39 = .ok (.ireturn, 1) := by decide +kernel
def p6_next (a1 : Int32) (a2 : Int32) (M : SX) : Option (Int32 × SX) :=
  bd (p6_has (M.1 0 22) a1 M) (fun r3 M2 => if r3 = 0 then (some (0, M2))
  else (bd (p6_has a2 a1 M2) (fun r7 M6 => if r7 = 0 then (bd (p6_cashBy a1 a2 M6) (fun r11 M10 => gd (bIn a1 6) ( if r11 < (M10.1 11 (Int32.toNatClampNeg a1)) then (some (0, M10))
  else (some (1, M10)))))
  else (some (0, M6)))))
set_option maxHeartbeats 4000000 in
set_option maxRecDepth 100000 in
theorem c6_next {l : Launch} {G : XG} {r : Int32} {M' : SX} {M : SX} (a1 : Int32) (a2 : Int32) (hf : p6_next a1 a2 M = some (r, M')) : Met l yX6_next (.code yX6_next cX6_next 3 (some .boolean) :: TBL) (rmX 2) (xPc G ZY M [.ref (G.2.1 0), .int a1, .int a2]) (xQi G ZY r M') 0 0 (inA G ZY) := by
  refine x_met (cc := cX6_next) (by decide) (Nat.le_of_ble_eq_true rfl) ?_
  intro p e s m below meth c ls F hr hk hl hw
  have F : Fx G ZY p m c cX6_next 3 s [.ref (G.2.1 0), .int a1, .int a2].toArray RX6 := F
  have hl : lv_has ls 3 [(0, .ref (G.2.1 0)), (1, .int a1), (2, .int a2)] := hl
  have hx := F.1.1
  have hb := F.1.2.1
  unfold p6_next at hf
  refine lv_aload_n hx hb dX6_next_0 rfl (lv_at hl 0 rfl) ?_
  refine g6_22 F hw tw_745 dX6_next_1 ?_
  refine lv_iload_n hx hb dX6_next_4 rfl (lv_at hl 1 rfl) ?_
  obtain ⟨r3, M2, hc1, hf⟩ := bd_some hf
  refine x_aftI hw (x_runS (rest := []) F hw hl.1 sw_RX6_181 (c6_has (M.1 0 22) a1 hc1) rfl rfl (Nat.le_of_ble_eq_true rfl) ⟨Nat.le_of_ble_eq_true rfl, Nat.le_of_ble_eq_true rfl⟩ dX6_next_5) (fun H locs hw => ?_)
  refine lv_if_eq (tgt := 38) hx hb dX6_next_8 (by decide) (fun c4 => ?_) (fun c4 => ?_)
  · have hf := it_t hf c4
    refine lv_iconst (v := 0) hx hb dX6_next_38 (by decide) ?_
    exact x_zret F hw hr hk (by decide) hf dX6_next_39
  · have hf := it_f hf c4
    refine lv_iload_n hx hb dX6_next_11 rfl (lv_at hl 2 rfl) ?_
    refine lv_iload_n hx hb dX6_next_12 rfl (lv_at hl 1 rfl) ?_
    obtain ⟨r7, M6, hc5, hf⟩ := bd_some hf
    refine x_aftI hw (x_runS (rest := []) F hw hl.1 sw_RX6_181 (c6_has a2 a1 hc5) rfl rfl (Nat.le_of_ble_eq_true rfl) ⟨Nat.le_of_ble_eq_true rfl, Nat.le_of_ble_eq_true rfl⟩ dX6_next_13) (fun H locs hw => ?_)
    refine lv_if_ne (tgt := 38) hx hb dX6_next_16 (by decide) (fun c8 => ?_) (fun c8 => ?_)
    · have hf := it_f hf c8
      refine lv_iconst (v := 0) hx hb dX6_next_38 (by decide) ?_
      exact x_zret F hw hr hk (by decide) hf dX6_next_39
    · have hf := it_t hf c8
      refine lv_aload_n hx hb dX6_next_19 rfl (lv_at hl 0 rfl) ?_
      refine lv_iload_n hx hb dX6_next_20 rfl (lv_at hl 1 rfl) ?_
      refine lv_iload_n hx hb dX6_next_21 rfl (lv_at hl 2 rfl) ?_
      obtain ⟨r11, M10, hc9, hf⟩ := bd_some hf
      refine x_aftI hw (x_runV (rest := []) F hw hl.1 vw_RX6_222 (sM) rfl (c6_cashBy a1 a2 hc9) rfl rfl (Nat.le_of_ble_eq_true rfl) ⟨Nat.le_of_ble_eq_true rfl, Nat.le_of_ble_eq_true rfl⟩ dX6_next_22) (fun H locs hw => ?_)
      refine lv_aload_n hx hb dX6_next_25 rfl (lv_at hl 0 rfl) ?_
      refine g6_20 F hw tw_654 dX6_next_26 ?_
      refine lv_iload_n hx hb dX6_next_29 rfl (lv_at hl 1 rfl) ?_
      obtain ⟨g12, hf⟩ := gd_some hf
      refine x_iald F hw sM11 g12 dX6_next_30 ?_
      refine lv_icmp_lt (tgt := 38) hx hb dX6_next_31 (by decide) (fun c13 => ?_) (fun c13 => ?_)
      · have hf := it_t hf c13
        refine lv_iconst (v := 0) hx hb dX6_next_38 (by decide) ?_
        exact x_zret F hw hr hk (by decide) hf dX6_next_39
      · have hf := it_f hf c13
        refine lv_iconst (v := 1) hx hb dX6_next_34 (by decide) ?_
        refine lv_goto (tgt := 39) hx hb dX6_next_35 (by decide) ?_
        exact x_zret F hw hr hk (by decide) hf dX6_next_39
theorem dX6_shuts_0 : decode cX6_shuts 0 = .ok (.aload_n 0, 1) := by decide +kernel
theorem dX6_shuts_1 : decode cX6_shuts 1 = .ok (.iload_n 1, 1) := by decide +kernel
theorem dX6_shuts_2 : decode cX6_shuts 2 = .ok (.invokevirtual 152, 3) := by decide +kernel
theorem dX6_shuts_5 : decode cX6_shuts 5 = .ok (.ifCond .ne 5, 3) := by decide +kernel
theorem dX6_shuts_8 : decode cX6_shuts 8 = .ok (.iconst (-1), 1) := by decide +kernel
theorem dX6_shuts_9 : decode cX6_shuts 9 = .ok (.ireturn, 1) := by decide +kernel
theorem dX6_shuts_10 : decode cX6_shuts 10 = .ok (.iconst 1, 1) := by decide +kernel
theorem dX6_shuts_11 : decode cX6_shuts 11 = .ok (.iload_n 1, 1) := by decide +kernel
theorem dX6_shuts_12 : decode cX6_shuts 12 = .ok (.ishl, 1) := by decide +kernel
theorem dX6_shuts_13 : decode cX6_shuts 13 = .ok (.istore_n 2, 1) := by decide +kernel
theorem dX6_shuts_14 : decode cX6_shuts 14 = .ok (.iconst 0, 1) := by decide +kernel
theorem dX6_shuts_15 : decode cX6_shuts 15 = .ok (.istore_n 3, 1) := by decide +kernel
theorem dX6_shuts_16 : decode cX6_shuts 16 = .ok (.iload_n 3, 1) := by decide +kernel
theorem dX6_shuts_17 : decode cX6_shuts 17 = .ok (.bipush 6, 2) := by decide +kernel
theorem dX6_shuts_19 : decode cX6_shuts 19 = .ok (.if_icmp .ge 122, 3) := by decide +kernel
theorem dX6_shuts_22 : decode cX6_shuts 22 = .ok (.iload_n 2, 1) := by decide +kernel
theorem dX6_shuts_23 : decode cX6_shuts 23 = .ok (.istore 4, 2) := by decide +kernel
theorem dX6_shuts_25 : decode cX6_shuts 25 = .ok (.iconst 0, 1) := by decide +kernel
theorem dX6_shuts_26 : decode cX6_shuts 26 = .ok (.istore 5, 2) := by decide +kernel
theorem dX6_shuts_28 : decode cX6_shuts 28 = .ok (.iload 5, 2) := by decide +kernel
theorem dX6_shuts_30 : decode cX6_shuts 30 = .ok (.aload_n 0, 1) := by decide +kernel
theorem dX6_shuts_31 : decode cX6_shuts 31 = .ok (.getfield 140, 3) := by decide +kernel
theorem dX6_shuts_34 : decode cX6_shuts 34 = .ok (.if_icmp .ge 98, 3) := by decide +kernel
theorem dX6_shuts_37 : decode cX6_shuts 37 = .ok (.aload_n 0, 1) := by decide +kernel
theorem dX6_shuts_38 : decode cX6_shuts 38 = .ok (.getfield 7, 3) := by decide +kernel
theorem dX6_shuts_41 : decode cX6_shuts 41 = .ok (.bipush 7, 2) := by decide +kernel
theorem dX6_shuts_43 : decode cX6_shuts 43 = .ok (.iload 5, 2) := by decide +kernel
theorem dX6_shuts_45 : decode cX6_shuts 45 = .ok (.iadd, 1) := by decide +kernel
theorem dX6_shuts_46 : decode cX6_shuts 46 = .ok (.iaload, 1) := by decide +kernel
theorem dX6_shuts_47 : decode cX6_shuts 47 = .ok (.istore 6, 2) := by decide +kernel
theorem dX6_shuts_49 : decode cX6_shuts 49 = .ok (.iload 4, 2) := by decide +kernel
theorem dX6_shuts_51 : decode cX6_shuts 51 = .ok (.iload 6, 2) := by decide +kernel
theorem dX6_shuts_53 : decode cX6_shuts 53 = .ok (.bipush (-9), 2) := by decide +kernel
theorem dX6_shuts_55 : decode cX6_shuts 55 = .ok (.if_icmp .eq 19, 3) := by decide +kernel
theorem dX6_shuts_58 : decode cX6_shuts 58 = .ok (.iload_n 2, 1) := by decide +kernel
theorem dX6_shuts_59 : decode cX6_shuts 59 = .ok (.iload 6, 2) := by decide +kernel
theorem dX6_shuts_61 : decode cX6_shuts 61 = .ok (.invokestatic 181, 3) := by decide +kernel
theorem dX6_shuts_64 : decode cX6_shuts 64 = .ok (.ifCond .eq 10, 3) := by decide +kernel
theorem dX6_shuts_67 : decode cX6_shuts 67 = .ok (.iconst 1, 1) := by decide +kernel
theorem dX6_shuts_68 : decode cX6_shuts 68 = .ok (.iload 5, 2) := by decide +kernel
theorem dX6_shuts_70 : decode cX6_shuts 70 = .ok (.ishl, 1) := by decide +kernel
theorem dX6_shuts_71 : decode cX6_shuts 71 = .ok (.goto 4, 3) := by decide +kernel
theorem dX6_shuts_74 : decode cX6_shuts 74 = .ok (.iconst 0, 1) := by decide +kernel
theorem dX6_shuts_75 : decode cX6_shuts 75 = .ok (.ior, 1) := by decide +kernel
theorem dX6_shuts_76 : decode cX6_shuts 76 = .ok (.istore 4, 2) := by decide +kernel
theorem dX6_shuts_78 : decode cX6_shuts 78 = .ok (.iload 4, 2) := by decide +kernel
theorem dX6_shuts_80 : decode cX6_shuts 80 = .ok (.iload 6, 2) := by decide +kernel
theorem dX6_shuts_82 : decode cX6_shuts 82 = .ok (.bipush (-9), 2) := by decide +kernel
theorem dX6_shuts_84 : decode cX6_shuts 84 = .ok (.if_icmp .eq 38, 3) := by decide +kernel
theorem dX6_shuts_87 : decode cX6_shuts 87 = .ok (.iload_n 2, 1) := by decide +kernel
theorem dX6_shuts_88 : decode cX6_shuts 88 = .ok (.iload 5, 2) := by decide +kernel
theorem dX6_shuts_90 : decode cX6_shuts 90 = .ok (.invokestatic 181, 3) := by decide +kernel
theorem dX6_shuts_93 : decode cX6_shuts 93 = .ok (.ifCond .eq 29, 3) := by decide +kernel
theorem dX6_shuts_96 : decode cX6_shuts 96 = .ok (.aload_n 0, 1) := by decide +kernel
theorem dX6_shuts_97 : decode cX6_shuts 97 = .ok (.iload 5, 2) := by decide +kernel
theorem dX6_shuts_99 : decode cX6_shuts 99 = .ok (.iconst 0, 1) := by decide +kernel
theorem dX6_shuts_100 : decode cX6_shuts 100 = .ok (.invokevirtual 146, 3) := by decide +kernel
theorem dX6_shuts_103 : decode cX6_shuts 103 = .ok (.aload_n 0, 1) := by decide +kernel
theorem dX6_shuts_104 : decode cX6_shuts 104 = .ok (.getfield 7, 3) := by decide +kernel
theorem dX6_shuts_107 : decode cX6_shuts 107 = .ok (.iconst 1, 1) := by decide +kernel
theorem dX6_shuts_108 : decode cX6_shuts 108 = .ok (.iload 6, 2) := by decide +kernel
theorem dX6_shuts_110 : decode cX6_shuts 110 = .ok (.iadd, 1) := by decide +kernel
theorem dX6_shuts_111 : decode cX6_shuts 111 = .ok (.iaload, 1) := by decide +kernel
theorem dX6_shuts_112 : decode cX6_shuts 112 = .ok (.if_icmp .le 10, 3) := by decide +kernel
theorem dX6_shuts_115 : decode cX6_shuts 115 = .ok (.iconst 1, 1) := by decide +kernel
theorem dX6_shuts_116 : decode cX6_shuts 116 = .ok (.iload 6, 2) := by decide +kernel
theorem dX6_shuts_118 : decode cX6_shuts 118 = .ok (.ishl, 1) := by decide +kernel
theorem dX6_shuts_119 : decode cX6_shuts 119 = .ok (.goto 4, 3) := by decide +kernel
theorem dX6_shuts_122 : decode cX6_shuts 122 = .ok (.iconst 0, 1) := by decide +kernel
theorem dX6_shuts_123 : decode cX6_shuts 123 = .ok (.ior, 1) := by decide +kernel
theorem dX6_shuts_124 : decode cX6_shuts 124 = .ok (.istore 4, 2) := by decide +kernel
theorem dX6_shuts_126 : decode cX6_shuts 126 = .ok (.iinc 5 1, 3) := by decide +kernel
theorem dX6_shuts_129 : decode cX6_shuts 129 = .ok (.goto (-101), 3) := by decide +kernel
theorem dX6_shuts_132 : decode cX6_shuts 132 = .ok (.iload 4, 2) := by decide +kernel
theorem dX6_shuts_134 : decode cX6_shuts 134 = .ok (.istore_n 2, 1) := by decide +kernel
theorem dX6_shuts_135 : decode cX6_shuts 135 = .ok (.iinc 3 1, 3) := by decide +kernel
theorem dX6_shuts_138 : decode cX6_shuts 138 = .ok (.goto (-122), 3) := by decide +kernel
theorem dX6_shuts_141 : decode cX6_shuts 141 = .ok (.iload_n 2, 1) := by decide +kernel
theorem dX6_shuts_142 : decode cX6_shuts 142 = .ok (.iconst 1, 1) := by decide +kernel
theorem dX6_shuts_143 : decode cX6_shuts 143 = .ok (.iload_n 1, 1) := by decide +kernel
theorem dX6_shuts_144 : decode cX6_shuts 144 = .ok (.ishl, 1) := by decide +kernel
theorem dX6_shuts_145 : decode cX6_shuts 145 = .ok (.iconst (-1), 1) := by decide +kernel
theorem dX6_shuts_146 : decode cX6_shuts 146 = .ok (.ixor, 1) := by decide +kernel
theorem dX6_shuts_147 : decode cX6_shuts 147 = .ok (.iand, 1) := by decide +kernel
theorem dX6_shuts_148 : decode cX6_shuts 148 = .ok (.ireturn, 1) := by decide +kernel
def p6_shuts_123 (k16 : Int32 → Int32 → Int32 → SX → Option (Int32 × SX)) (k28 : Int32 → Int32 → Int32 → Int32 → Int32 → SX → Option (Int32 × SX)) (v1 : Int32) (v2 : Int32) (v3 : Int32) (v5 : Int32) (t0 : Int32) (t1 : Int32) (M : SX) : Option (Int32 × SX) :=
  lt_ (t0 ||| t1) (fun x1 => lt_ (v5 + 1) (fun x2 => k28 v1 v2 v3 x1 x2 M))
set_option maxHeartbeats 4000000 in
set_option maxRecDepth 100000 in
theorem w6_shuts_123 {G : XG} {p : Program} {l : Launch} {e : Env} {s : State} {m : MethodId} {args : Array Value} {below : List Frame} {meth : Method} {c : Code} (F : Fx G ZY p m c cX6_shuts 7 s args RX6) (hr : meth.sig.returnType = some .int) (hk : meth.locks = false) {r : Int32} {M' : SX} (k16 : Int32 → Int32 → Int32 → SX → Option (Int32 × SX)) (hk16 : ∀ (v1 : Int32) (v2 : Int32) (v3 : Int32) (M : SX) (H : Heap) (locs : List Loc) (ls : Array Slot), Wld G ZY M s.heap H locs → lv_has ls 7 [(0, .ref (G.2.1 0)), (1, .int v1), (2, .int v2), (3, .int v3)] → k16 v1 v2 v3 M = some (r, M') → WXi G ZY p l e 2 s m args below meth c r M' H locs (F0 m 16 ls [])) (k28 : Int32 → Int32 → Int32 → Int32 → Int32 → SX → Option (Int32 × SX)) (hk28 : ∀ (v1 : Int32) (v2 : Int32) (v3 : Int32) (v4 : Int32) (v5 : Int32) (M : SX) (H : Heap) (locs : List Loc) (ls : Array Slot), Wld G ZY M s.heap H locs → lv_has ls 7 [(0, .ref (G.2.1 0)), (1, .int v1), (2, .int v2), (3, .int v3), (4, .int v4), (5, .int v5)] → k28 v1 v2 v3 v4 v5 M = some (r, M') → WXi G ZY p l e 2 s m args below meth c r M' H locs (F0 m 28 ls [])) : ∀ (v1 : Int32) (v2 : Int32) (v3 : Int32) (v5 : Int32) (t0 : Int32) (t1 : Int32) (M : SX) (H : Heap) (locs : List Loc) (ls : Array Slot), Wld G ZY M s.heap H locs → lv_has ls 7 [(0, .ref (G.2.1 0)), (1, .int v1), (2, .int v2), (3, .int v3), (5, .int v5)] → p6_shuts_123 k16 k28 v1 v2 v3 v5 t0 t1 M = some (r, M') → WXi G ZY p l e 2 s m args below meth c r M' H locs (F0 m 123 ls [.int t1, .int t0]) := by
  intro v1 v2 v3 v5 t0 t1 M H locs ls hw hl hf
  have hx := F.1.1
  have hb := F.1.2.1
  unfold p6_shuts_123 at hf
  refine lv_ior hx hb dX6_shuts_123 ?_
  obtain ⟨x1, ex1, hf⟩ := lt_elim hf
  refine x_let ex1 ?_
  refine lv_istore (lv' := [(4, .int x1), (0, .ref (G.2.1 0)), (1, .int v1), (2, .int v2), (3, .int v3), (5, .int v5)]) hx hb dX6_shuts_124 hl (by decide) rfl (fun ls hl => ?_)
  obtain ⟨x2, ex2, hf⟩ := lt_elim hf
  refine lv_iinc (v := x2) (lv' := [(5, .int x2), (4, .int x1), (0, .ref (G.2.1 0)), (1, .int v1), (2, .int v2), (3, .int v3)]) hx hb dX6_shuts_126 hl (k := 5) rfl (by rw [ex2]; rfl) (by decide) rfl (fun ls hl => ?_)
  refine lv_goto (tgt := 28) hx hb dX6_shuts_129 (by decide) ?_
  exact hk28 v1 v2 v3 x1 x2 M _ _ ls hw (lv_sub hl [2, 3, 4, 5, 1, 0] rfl) hf
def p6_shuts_122 (k16 : Int32 → Int32 → Int32 → SX → Option (Int32 × SX)) (k28 : Int32 → Int32 → Int32 → Int32 → Int32 → SX → Option (Int32 × SX)) (v1 : Int32) (v2 : Int32) (v3 : Int32) (v5 : Int32) (t0 : Int32) (M : SX) : Option (Int32 × SX) :=
  p6_shuts_123 k16 k28 v1 v2 v3 v5 t0 0 M
set_option maxHeartbeats 4000000 in
set_option maxRecDepth 100000 in
theorem w6_shuts_122 {G : XG} {p : Program} {l : Launch} {e : Env} {s : State} {m : MethodId} {args : Array Value} {below : List Frame} {meth : Method} {c : Code} (F : Fx G ZY p m c cX6_shuts 7 s args RX6) (hr : meth.sig.returnType = some .int) (hk : meth.locks = false) {r : Int32} {M' : SX} (k16 : Int32 → Int32 → Int32 → SX → Option (Int32 × SX)) (hk16 : ∀ (v1 : Int32) (v2 : Int32) (v3 : Int32) (M : SX) (H : Heap) (locs : List Loc) (ls : Array Slot), Wld G ZY M s.heap H locs → lv_has ls 7 [(0, .ref (G.2.1 0)), (1, .int v1), (2, .int v2), (3, .int v3)] → k16 v1 v2 v3 M = some (r, M') → WXi G ZY p l e 2 s m args below meth c r M' H locs (F0 m 16 ls [])) (k28 : Int32 → Int32 → Int32 → Int32 → Int32 → SX → Option (Int32 × SX)) (hk28 : ∀ (v1 : Int32) (v2 : Int32) (v3 : Int32) (v4 : Int32) (v5 : Int32) (M : SX) (H : Heap) (locs : List Loc) (ls : Array Slot), Wld G ZY M s.heap H locs → lv_has ls 7 [(0, .ref (G.2.1 0)), (1, .int v1), (2, .int v2), (3, .int v3), (4, .int v4), (5, .int v5)] → k28 v1 v2 v3 v4 v5 M = some (r, M') → WXi G ZY p l e 2 s m args below meth c r M' H locs (F0 m 28 ls [])) : ∀ (v1 : Int32) (v2 : Int32) (v3 : Int32) (v5 : Int32) (t0 : Int32) (M : SX) (H : Heap) (locs : List Loc) (ls : Array Slot), Wld G ZY M s.heap H locs → lv_has ls 7 [(0, .ref (G.2.1 0)), (1, .int v1), (2, .int v2), (3, .int v3), (5, .int v5)] → p6_shuts_122 k16 k28 v1 v2 v3 v5 t0 M = some (r, M') → WXi G ZY p l e 2 s m args below meth c r M' H locs (F0 m 122 ls [.int t0]) := by
  intro v1 v2 v3 v5 t0 M H locs ls hw hl hf
  have hx := F.1.1
  have hb := F.1.2.1
  unfold p6_shuts_122 at hf
  refine lv_iconst (v := 0) hx hb dX6_shuts_122 (by decide) ?_
  exact w6_shuts_123 F hr hk k16 hk16 k28 hk28 v1 v2 v3 v5 t0 0 M _ _ ls hw (lv_sub hl [0, 1, 2, 3, 4] rfl) hf
def p6_shuts_75 (k16 : Int32 → Int32 → Int32 → SX → Option (Int32 × SX)) (k28 : Int32 → Int32 → Int32 → Int32 → Int32 → SX → Option (Int32 × SX)) (v1 : Int32) (v2 : Int32) (v3 : Int32) (v5 : Int32) (v6 : Int32) (t0 : Int32) (t1 : Int32) (M : SX) : Option (Int32 × SX) :=
  lt_ (t0 ||| t1) (fun x1 => if v6 = (-9 : Int32) then (p6_shuts_122 k16 k28 v1 v2 v3 v5 x1 M)
  else (bd (p6_has v2 v5 M) (fun r5 M4 => if r5 = 0 then (p6_shuts_122 k16 k28 v1 v2 v3 v5 x1 M4)
  else (bd (p6_dueIn v5 0 M4) (fun r9 M8 => gd (bIn (1 + v6) 3964) ( if r9 ≤ (M8.1 1 (Int32.toNatClampNeg (1 + v6))) then (p6_shuts_122 k16 k28 v1 v2 v3 v5 x1 M8)
  else (p6_shuts_123 k16 k28 v1 v2 v3 v5 x1 ((1 : Int32) <<< (v6 &&& 31)) M8)))))))
set_option maxHeartbeats 4000000 in
set_option maxRecDepth 100000 in
theorem w6_shuts_75 {G : XG} {p : Program} {l : Launch} {e : Env} {s : State} {m : MethodId} {args : Array Value} {below : List Frame} {meth : Method} {c : Code} (F : Fx G ZY p m c cX6_shuts 7 s args RX6) (hr : meth.sig.returnType = some .int) (hk : meth.locks = false) {r : Int32} {M' : SX} (k16 : Int32 → Int32 → Int32 → SX → Option (Int32 × SX)) (hk16 : ∀ (v1 : Int32) (v2 : Int32) (v3 : Int32) (M : SX) (H : Heap) (locs : List Loc) (ls : Array Slot), Wld G ZY M s.heap H locs → lv_has ls 7 [(0, .ref (G.2.1 0)), (1, .int v1), (2, .int v2), (3, .int v3)] → k16 v1 v2 v3 M = some (r, M') → WXi G ZY p l e 2 s m args below meth c r M' H locs (F0 m 16 ls [])) (k28 : Int32 → Int32 → Int32 → Int32 → Int32 → SX → Option (Int32 × SX)) (hk28 : ∀ (v1 : Int32) (v2 : Int32) (v3 : Int32) (v4 : Int32) (v5 : Int32) (M : SX) (H : Heap) (locs : List Loc) (ls : Array Slot), Wld G ZY M s.heap H locs → lv_has ls 7 [(0, .ref (G.2.1 0)), (1, .int v1), (2, .int v2), (3, .int v3), (4, .int v4), (5, .int v5)] → k28 v1 v2 v3 v4 v5 M = some (r, M') → WXi G ZY p l e 2 s m args below meth c r M' H locs (F0 m 28 ls [])) : ∀ (v1 : Int32) (v2 : Int32) (v3 : Int32) (v5 : Int32) (v6 : Int32) (t0 : Int32) (t1 : Int32) (M : SX) (H : Heap) (locs : List Loc) (ls : Array Slot), Wld G ZY M s.heap H locs → lv_has ls 7 [(0, .ref (G.2.1 0)), (1, .int v1), (2, .int v2), (3, .int v3), (5, .int v5), (6, .int v6)] → p6_shuts_75 k16 k28 v1 v2 v3 v5 v6 t0 t1 M = some (r, M') → WXi G ZY p l e 2 s m args below meth c r M' H locs (F0 m 75 ls [.int t1, .int t0]) := by
  intro v1 v2 v3 v5 v6 t0 t1 M H locs ls hw hl hf
  have hx := F.1.1
  have hb := F.1.2.1
  unfold p6_shuts_75 at hf
  refine lv_ior hx hb dX6_shuts_75 ?_
  obtain ⟨x1, ex1, hf⟩ := lt_elim hf
  refine x_let ex1 ?_
  refine lv_istore (lv' := [(4, .int x1), (0, .ref (G.2.1 0)), (1, .int v1), (2, .int v2), (3, .int v3), (5, .int v5), (6, .int v6)]) hx hb dX6_shuts_76 hl (by decide) rfl (fun ls hl => ?_)
  refine lv_iload hx hb dX6_shuts_78 (lv_at hl 0 rfl) ?_
  refine lv_iload hx hb dX6_shuts_80 (lv_at hl 6 rfl) ?_
  refine lv_bipush (v := (-9)) hx hb dX6_shuts_82 (by decide) ?_
  refine lv_icmp_eq (tgt := 122) hx hb dX6_shuts_84 (by decide) (fun c2 => ?_) (fun c2 => ?_)
  · have hf := it_t hf c2
    exact w6_shuts_122 F hr hk k16 hk16 k28 hk28 v1 v2 v3 v5 x1 M _ _ ls hw (lv_sub hl [1, 2, 3, 4, 5] rfl) hf
  · have hf := it_f hf c2
    refine lv_iload_n hx hb dX6_shuts_87 rfl (lv_at hl 3 rfl) ?_
    refine lv_iload hx hb dX6_shuts_88 (lv_at hl 5 rfl) ?_
    obtain ⟨r5, M4, hc3, hf⟩ := bd_some hf
    refine x_aftI hw (x_runS (rest := [.int x1]) F hw hl.1 sw_RX6_181 (c6_has v2 v5 hc3) rfl rfl (Nat.le_of_ble_eq_true rfl) ⟨Nat.le_of_ble_eq_true rfl, Nat.le_of_ble_eq_true rfl⟩ dX6_shuts_90) (fun H locs hw => ?_)
    refine lv_if_eq (tgt := 122) hx hb dX6_shuts_93 (by decide) (fun c6 => ?_) (fun c6 => ?_)
    · have hf := it_t hf c6
      exact w6_shuts_122 F hr hk k16 hk16 k28 hk28 v1 v2 v3 v5 x1 M4 _ _ ls hw (lv_sub hl [1, 2, 3, 4, 5] rfl) hf
    · have hf := it_f hf c6
      refine lv_aload_n hx hb dX6_shuts_96 rfl (lv_at hl 1 rfl) ?_
      refine lv_iload hx hb dX6_shuts_97 (lv_at hl 5 rfl) ?_
      refine lv_iconst (v := 0) hx hb dX6_shuts_99 (by decide) ?_
      obtain ⟨r9, M8, hc7, hf⟩ := bd_some hf
      refine x_aftI hw (x_runV (rest := [.int x1]) F hw hl.1 vw_RX6_146 (sM) rfl (c6_dueIn v5 0 hc7) rfl rfl (Nat.le_of_ble_eq_true rfl) ⟨Nat.le_of_ble_eq_true rfl, Nat.le_of_ble_eq_true rfl⟩ dX6_shuts_100) (fun H locs hw => ?_)
      refine lv_aload_n hx hb dX6_shuts_103 rfl (lv_at hl 1 rfl) ?_
      refine g6_0 F hw tw_610 dX6_shuts_104 ?_
      refine lv_iconst (v := 1) hx hb dX6_shuts_107 (by decide) ?_
      refine lv_iload hx hb dX6_shuts_108 (lv_at hl 6 rfl) ?_
      refine lv_iadd hx hb dX6_shuts_110 ?_
      obtain ⟨g10, hf⟩ := gd_some hf
      refine x_iald F hw sM1 g10 dX6_shuts_111 ?_
      refine lv_icmp_le (tgt := 122) hx hb dX6_shuts_112 (by decide) (fun c11 => ?_) (fun c11 => ?_)
      · have hf := it_t hf c11
        exact w6_shuts_122 F hr hk k16 hk16 k28 hk28 v1 v2 v3 v5 x1 M8 _ _ ls hw (lv_sub hl [1, 2, 3, 4, 5] rfl) hf
      · have hf := it_f hf c11
        refine lv_iconst (v := 1) hx hb dX6_shuts_115 (by decide) ?_
        refine lv_iload hx hb dX6_shuts_116 (lv_at hl 6 rfl) ?_
        refine lv_ishl hx hb dX6_shuts_118 ?_
        refine lv_goto (tgt := 123) hx hb dX6_shuts_119 (by decide) ?_
        exact w6_shuts_123 F hr hk k16 hk16 k28 hk28 v1 v2 v3 v5 x1 ((1 : Int32) <<< (v6 &&& 31)) M8 _ _ ls hw (lv_sub hl [1, 2, 3, 4, 5] rfl) hf
def p6_shuts_74 (k16 : Int32 → Int32 → Int32 → SX → Option (Int32 × SX)) (k28 : Int32 → Int32 → Int32 → Int32 → Int32 → SX → Option (Int32 × SX)) (v1 : Int32) (v2 : Int32) (v3 : Int32) (v5 : Int32) (v6 : Int32) (t0 : Int32) (M : SX) : Option (Int32 × SX) :=
  p6_shuts_75 k16 k28 v1 v2 v3 v5 v6 t0 0 M
set_option maxHeartbeats 4000000 in
set_option maxRecDepth 100000 in
theorem w6_shuts_74 {G : XG} {p : Program} {l : Launch} {e : Env} {s : State} {m : MethodId} {args : Array Value} {below : List Frame} {meth : Method} {c : Code} (F : Fx G ZY p m c cX6_shuts 7 s args RX6) (hr : meth.sig.returnType = some .int) (hk : meth.locks = false) {r : Int32} {M' : SX} (k16 : Int32 → Int32 → Int32 → SX → Option (Int32 × SX)) (hk16 : ∀ (v1 : Int32) (v2 : Int32) (v3 : Int32) (M : SX) (H : Heap) (locs : List Loc) (ls : Array Slot), Wld G ZY M s.heap H locs → lv_has ls 7 [(0, .ref (G.2.1 0)), (1, .int v1), (2, .int v2), (3, .int v3)] → k16 v1 v2 v3 M = some (r, M') → WXi G ZY p l e 2 s m args below meth c r M' H locs (F0 m 16 ls [])) (k28 : Int32 → Int32 → Int32 → Int32 → Int32 → SX → Option (Int32 × SX)) (hk28 : ∀ (v1 : Int32) (v2 : Int32) (v3 : Int32) (v4 : Int32) (v5 : Int32) (M : SX) (H : Heap) (locs : List Loc) (ls : Array Slot), Wld G ZY M s.heap H locs → lv_has ls 7 [(0, .ref (G.2.1 0)), (1, .int v1), (2, .int v2), (3, .int v3), (4, .int v4), (5, .int v5)] → k28 v1 v2 v3 v4 v5 M = some (r, M') → WXi G ZY p l e 2 s m args below meth c r M' H locs (F0 m 28 ls [])) : ∀ (v1 : Int32) (v2 : Int32) (v3 : Int32) (v5 : Int32) (v6 : Int32) (t0 : Int32) (M : SX) (H : Heap) (locs : List Loc) (ls : Array Slot), Wld G ZY M s.heap H locs → lv_has ls 7 [(0, .ref (G.2.1 0)), (1, .int v1), (2, .int v2), (3, .int v3), (5, .int v5), (6, .int v6)] → p6_shuts_74 k16 k28 v1 v2 v3 v5 v6 t0 M = some (r, M') → WXi G ZY p l e 2 s m args below meth c r M' H locs (F0 m 74 ls [.int t0]) := by
  intro v1 v2 v3 v5 v6 t0 M H locs ls hw hl hf
  have hx := F.1.1
  have hb := F.1.2.1
  unfold p6_shuts_74 at hf
  refine lv_iconst (v := 0) hx hb dX6_shuts_74 (by decide) ?_
  exact w6_shuts_75 F hr hk k16 hk16 k28 hk28 v1 v2 v3 v5 v6 t0 0 M _ _ ls hw (lv_sub hl [0, 1, 2, 3, 4, 5] rfl) hf
def p6_shuts_28 (k16 : Int32 → Int32 → Int32 → SX → Option (Int32 × SX)) (k28 : Int32 → Int32 → Int32 → Int32 → Int32 → SX → Option (Int32 × SX)) (v1 : Int32) (v2 : Int32) (v3 : Int32) (v4 : Int32) (v5 : Int32) (M : SX) : Option (Int32 × SX) :=
  if (M.1 0 1) ≤ v5 then (lt_ (v3 + 1) (fun x2 => k16 v1 v4 x2 M))
  else (gd (bIn (7 + v5) 3964) ( lt_ (M.1 1 (Int32.toNatClampNeg (7 + v5))) (fun x4 => if x4 = (-9 : Int32) then (p6_shuts_74 k16 k28 v1 v2 v3 v5 x4 v4 M)
  else (bd (p6_has v2 x4 M) (fun r8 M7 => if r8 = 0 then (p6_shuts_74 k16 k28 v1 v2 v3 v5 x4 v4 M7)
  else (p6_shuts_75 k16 k28 v1 v2 v3 v5 x4 v4 ((1 : Int32) <<< (v5 &&& 31)) M7))))))
set_option maxHeartbeats 4000000 in
set_option maxRecDepth 100000 in
theorem w6_shuts_28 {G : XG} {p : Program} {l : Launch} {e : Env} {s : State} {m : MethodId} {args : Array Value} {below : List Frame} {meth : Method} {c : Code} (F : Fx G ZY p m c cX6_shuts 7 s args RX6) (hr : meth.sig.returnType = some .int) (hk : meth.locks = false) {r : Int32} {M' : SX} (k16 : Int32 → Int32 → Int32 → SX → Option (Int32 × SX)) (hk16 : ∀ (v1 : Int32) (v2 : Int32) (v3 : Int32) (M : SX) (H : Heap) (locs : List Loc) (ls : Array Slot), Wld G ZY M s.heap H locs → lv_has ls 7 [(0, .ref (G.2.1 0)), (1, .int v1), (2, .int v2), (3, .int v3)] → k16 v1 v2 v3 M = some (r, M') → WXi G ZY p l e 2 s m args below meth c r M' H locs (F0 m 16 ls [])) (k28 : Int32 → Int32 → Int32 → Int32 → Int32 → SX → Option (Int32 × SX)) (hk28 : ∀ (v1 : Int32) (v2 : Int32) (v3 : Int32) (v4 : Int32) (v5 : Int32) (M : SX) (H : Heap) (locs : List Loc) (ls : Array Slot), Wld G ZY M s.heap H locs → lv_has ls 7 [(0, .ref (G.2.1 0)), (1, .int v1), (2, .int v2), (3, .int v3), (4, .int v4), (5, .int v5)] → k28 v1 v2 v3 v4 v5 M = some (r, M') → WXi G ZY p l e 2 s m args below meth c r M' H locs (F0 m 28 ls [])) : ∀ (v1 : Int32) (v2 : Int32) (v3 : Int32) (v4 : Int32) (v5 : Int32) (M : SX) (H : Heap) (locs : List Loc) (ls : Array Slot), Wld G ZY M s.heap H locs → lv_has ls 7 [(0, .ref (G.2.1 0)), (1, .int v1), (2, .int v2), (3, .int v3), (4, .int v4), (5, .int v5)] → p6_shuts_28 k16 k28 v1 v2 v3 v4 v5 M = some (r, M') → WXi G ZY p l e 2 s m args below meth c r M' H locs (F0 m 28 ls []) := by
  intro v1 v2 v3 v4 v5 M H locs ls hw hl hf
  have hx := F.1.1
  have hb := F.1.2.1
  unfold p6_shuts_28 at hf
  refine lv_iload hx hb dX6_shuts_28 (lv_at hl 5 rfl) ?_
  refine lv_aload_n hx hb dX6_shuts_30 rfl (lv_at hl 0 rfl) ?_
  refine g6_1 F hw tw_611 dX6_shuts_31 ?_
  refine lv_icmp_ge (tgt := 132) hx hb dX6_shuts_34 (by decide) (fun c1 => ?_) (fun c1 => ?_)
  · have hf := it_t hf c1
    refine lv_iload hx hb dX6_shuts_132 (lv_at hl 4 rfl) ?_
    refine lv_istore_n (lv' := [(2, .int v4), (0, .ref (G.2.1 0)), (1, .int v1), (3, .int v3), (4, .int v4), (5, .int v5)]) hx hb dX6_shuts_134 rfl hl (by decide) rfl (fun ls hl => ?_)
    obtain ⟨x2, ex2, hf⟩ := lt_elim hf
    refine lv_iinc (v := x2) (lv' := [(3, .int x2), (2, .int v4), (0, .ref (G.2.1 0)), (1, .int v1), (4, .int v4), (5, .int v5)]) hx hb dX6_shuts_135 hl (k := 3) rfl (by rw [ex2]; rfl) (by decide) rfl (fun ls hl => ?_)
    refine lv_goto (tgt := 16) hx hb dX6_shuts_138 (by decide) ?_
    exact hk16 v1 v4 x2 M _ _ ls hw (lv_sub hl [2, 3, 1, 0] rfl) hf
  · have hf := it_f hf c1
    refine lv_aload_n hx hb dX6_shuts_37 rfl (lv_at hl 0 rfl) ?_
    refine g6_0 F hw tw_610 dX6_shuts_38 ?_
    refine lv_bipush (v := 7) hx hb dX6_shuts_41 (by decide) ?_
    refine lv_iload hx hb dX6_shuts_43 (lv_at hl 5 rfl) ?_
    refine lv_iadd hx hb dX6_shuts_45 ?_
    obtain ⟨g3, hf⟩ := gd_some hf
    refine x_iald F hw sM1 g3 dX6_shuts_46 ?_
    obtain ⟨x4, ex4, hf⟩ := lt_elim hf
    refine x_let ex4 ?_
    refine lv_istore (lv' := [(6, .int x4), (0, .ref (G.2.1 0)), (1, .int v1), (2, .int v2), (3, .int v3), (4, .int v4), (5, .int v5)]) hx hb dX6_shuts_47 hl (by decide) rfl (fun ls hl => ?_)
    refine lv_iload hx hb dX6_shuts_49 (lv_at hl 5 rfl) ?_
    refine lv_iload hx hb dX6_shuts_51 (lv_at hl 0 rfl) ?_
    refine lv_bipush (v := (-9)) hx hb dX6_shuts_53 (by decide) ?_
    refine lv_icmp_eq (tgt := 74) hx hb dX6_shuts_55 (by decide) (fun c5 => ?_) (fun c5 => ?_)
    · have hf := it_t hf c5
      exact w6_shuts_74 F hr hk k16 hk16 k28 hk28 v1 v2 v3 v5 x4 v4 M _ _ ls hw (lv_sub hl [1, 2, 3, 4, 6, 0] rfl) hf
    · have hf := it_f hf c5
      refine lv_iload_n hx hb dX6_shuts_58 rfl (lv_at hl 3 rfl) ?_
      refine lv_iload hx hb dX6_shuts_59 (lv_at hl 0 rfl) ?_
      obtain ⟨r8, M7, hc6, hf⟩ := bd_some hf
      refine x_aftI hw (x_runS (rest := [.int v4]) F hw hl.1 sw_RX6_181 (c6_has v2 x4 hc6) rfl rfl (Nat.le_of_ble_eq_true rfl) ⟨Nat.le_of_ble_eq_true rfl, Nat.le_of_ble_eq_true rfl⟩ dX6_shuts_61) (fun H locs hw => ?_)
      refine lv_if_eq (tgt := 74) hx hb dX6_shuts_64 (by decide) (fun c9 => ?_) (fun c9 => ?_)
      · have hf := it_t hf c9
        exact w6_shuts_74 F hr hk k16 hk16 k28 hk28 v1 v2 v3 v5 x4 v4 M7 _ _ ls hw (lv_sub hl [1, 2, 3, 4, 6, 0] rfl) hf
      · have hf := it_f hf c9
        refine lv_iconst (v := 1) hx hb dX6_shuts_67 (by decide) ?_
        refine lv_iload hx hb dX6_shuts_68 (lv_at hl 6 rfl) ?_
        refine lv_ishl hx hb dX6_shuts_70 ?_
        refine lv_goto (tgt := 75) hx hb dX6_shuts_71 (by decide) ?_
        exact w6_shuts_75 F hr hk k16 hk16 k28 hk28 v1 v2 v3 v5 x4 v4 ((1 : Int32) <<< (v5 &&& 31)) M7 _ _ ls hw (lv_sub hl [1, 2, 3, 4, 6, 0] rfl) hf
theorem z6_shuts_28 {G : XG} {p : Program} {l : Launch} {e : Env} {s : State} {m : MethodId} {args : Array Value} {below : List Frame} {meth : Method} {c : Code} (F : Fx G ZY p m c cX6_shuts 7 s args RX6) (hr : meth.sig.returnType = some .int) (hk : meth.locks = false) {r : Int32} {M' : SX} (k16 : Int32 → Int32 → Int32 → SX → Option (Int32 × SX)) (hk16 : ∀ (v1 : Int32) (v2 : Int32) (v3 : Int32) (M : SX) (H : Heap) (locs : List Loc) (ls : Array Slot), Wld G ZY M s.heap H locs → lv_has ls 7 [(0, .ref (G.2.1 0)), (1, .int v1), (2, .int v2), (3, .int v3)] → k16 v1 v2 v3 M = some (r, M') → WXi G ZY p l e 2 s m args below meth c r M' H locs (F0 m 16 ls [])) : ∀ n : Nat, ∀ (v1 : Int32) (v2 : Int32) (v3 : Int32) (v4 : Int32) (v5 : Int32) (M : SX) (H : Heap) (locs : List Loc) (ls : Array Slot), Wld G ZY M s.heap H locs → lv_has ls 7 [(0, .ref (G.2.1 0)), (1, .int v1), (2, .int v2), (3, .int v3), (4, .int v4), (5, .int v5)] → xlp5 (p6_shuts_28 k16) n v1 v2 v3 v4 v5 M = some (r, M') → WXi G ZY p l e 2 s m args below meth c r M' H locs (F0 m 28 ls []) := by
  intro n
  induction n with
  | zero => intro _ _ _ _ _ _ _ _ _ _ _ hf; cases hf
  | succ n ih => exact w6_shuts_28 F hr hk k16 hk16 (xlp5 (p6_shuts_28 k16) n) ih
def p6_shuts_16 (k16 : Int32 → Int32 → Int32 → SX → Option (Int32 × SX)) (v1 : Int32) (v2 : Int32) (v3 : Int32) (M : SX) : Option (Int32 × SX) :=
  if (6 : Int32) ≤ v3 then (some (v2 &&& (((1 : Int32) <<< (v1 &&& 31)) ^^^ (-1)), M))
  else (xlp5 (p6_shuts_28 k16) FU v1 v2 v3 v2 0 M)
set_option maxHeartbeats 4000000 in
set_option maxRecDepth 100000 in
theorem w6_shuts_16 {G : XG} {p : Program} {l : Launch} {e : Env} {s : State} {m : MethodId} {args : Array Value} {below : List Frame} {meth : Method} {c : Code} (F : Fx G ZY p m c cX6_shuts 7 s args RX6) (hr : meth.sig.returnType = some .int) (hk : meth.locks = false) {r : Int32} {M' : SX} (k16 : Int32 → Int32 → Int32 → SX → Option (Int32 × SX)) (hk16 : ∀ (v1 : Int32) (v2 : Int32) (v3 : Int32) (M : SX) (H : Heap) (locs : List Loc) (ls : Array Slot), Wld G ZY M s.heap H locs → lv_has ls 7 [(0, .ref (G.2.1 0)), (1, .int v1), (2, .int v2), (3, .int v3)] → k16 v1 v2 v3 M = some (r, M') → WXi G ZY p l e 2 s m args below meth c r M' H locs (F0 m 16 ls [])) : ∀ (v1 : Int32) (v2 : Int32) (v3 : Int32) (M : SX) (H : Heap) (locs : List Loc) (ls : Array Slot), Wld G ZY M s.heap H locs → lv_has ls 7 [(0, .ref (G.2.1 0)), (1, .int v1), (2, .int v2), (3, .int v3)] → p6_shuts_16 k16 v1 v2 v3 M = some (r, M') → WXi G ZY p l e 2 s m args below meth c r M' H locs (F0 m 16 ls []) := by
  intro v1 v2 v3 M H locs ls hw hl hf
  have hx := F.1.1
  have hb := F.1.2.1
  unfold p6_shuts_16 at hf
  refine lv_iload_n hx hb dX6_shuts_16 rfl (lv_at hl 3 rfl) ?_
  refine lv_bipush (v := 6) hx hb dX6_shuts_17 (by decide) ?_
  refine lv_icmp_ge (tgt := 141) hx hb dX6_shuts_19 (by decide) (fun c1 => ?_) (fun c1 => ?_)
  · have hf := it_t hf c1
    refine lv_iload_n hx hb dX6_shuts_141 rfl (lv_at hl 2 rfl) ?_
    refine lv_iconst (v := 1) hx hb dX6_shuts_142 (by decide) ?_
    refine lv_iload_n hx hb dX6_shuts_143 rfl (lv_at hl 1 rfl) ?_
    refine lv_ishl hx hb dX6_shuts_144 ?_
    refine lv_iconst (v := (-1)) hx hb dX6_shuts_145 (by decide) ?_
    refine lv_ixor hx hb dX6_shuts_146 ?_
    refine lv_iand hx hb dX6_shuts_147 ?_
    exact x_iret F hw hr hk hf dX6_shuts_148
  · have hf := it_f hf c1
    refine lv_iload_n hx hb dX6_shuts_22 rfl (lv_at hl 2 rfl) ?_
    refine lv_istore (lv' := [(4, .int v2), (0, .ref (G.2.1 0)), (1, .int v1), (2, .int v2), (3, .int v3)]) hx hb dX6_shuts_23 hl (by decide) rfl (fun ls hl => ?_)
    refine lv_iconst (v := 0) hx hb dX6_shuts_25 (by decide) ?_
    refine lv_istore (lv' := [(5, .int 0), (4, .int v2), (0, .ref (G.2.1 0)), (1, .int v1), (2, .int v2), (3, .int v3)]) hx hb dX6_shuts_26 hl (by decide) rfl (fun ls hl => ?_)
    exact z6_shuts_28 F hr hk k16 hk16 FU v1 v2 v3 v2 0 M _ _ ls hw (lv_sub hl [2, 3, 4, 5, 1, 0] rfl) hf
theorem z6_shuts_16 {G : XG} {p : Program} {l : Launch} {e : Env} {s : State} {m : MethodId} {args : Array Value} {below : List Frame} {meth : Method} {c : Code} (F : Fx G ZY p m c cX6_shuts 7 s args RX6) (hr : meth.sig.returnType = some .int) (hk : meth.locks = false) {r : Int32} {M' : SX} : ∀ n : Nat, ∀ (v1 : Int32) (v2 : Int32) (v3 : Int32) (M : SX) (H : Heap) (locs : List Loc) (ls : Array Slot), Wld G ZY M s.heap H locs → lv_has ls 7 [(0, .ref (G.2.1 0)), (1, .int v1), (2, .int v2), (3, .int v3)] → xlp3 p6_shuts_16 n v1 v2 v3 M = some (r, M') → WXi G ZY p l e 2 s m args below meth c r M' H locs (F0 m 16 ls []) := by
  intro n
  induction n with
  | zero => intro _ _ _ _ _ _ _ _ _ hf; cases hf
  | succ n ih => exact w6_shuts_16 F hr hk (xlp3 p6_shuts_16 n) ih
def p6_shuts (a1 : Int32) (M : SX) : Option (Int32 × SX) :=
  bd (p6_isShop a1 M) (fun r3 M2 => if r3 = 0 then (some ((-1), M2))
  else (lt_ ((1 : Int32) <<< (a1 &&& 31)) (fun x5 => xlp3 p6_shuts_16 FU a1 x5 0 M2)))
set_option maxHeartbeats 4000000 in
set_option maxRecDepth 100000 in
theorem c6_shuts {l : Launch} {G : XG} {r : Int32} {M' : SX} {M : SX} (a1 : Int32) (hf : p6_shuts a1 M = some (r, M')) : Met l yX6_shuts (.code yX6_shuts cX6_shuts 7 (some .int) :: TBL) (rmX 2) (xPc G ZY M [.ref (G.2.1 0), .int a1]) (xQi G ZY r M') 0 0 (inA G ZY) := by
  refine x_met (cc := cX6_shuts) (by decide) (Nat.le_of_ble_eq_true rfl) ?_
  intro p e s m below meth c ls F hr hk hl hw
  have F : Fx G ZY p m c cX6_shuts 7 s [.ref (G.2.1 0), .int a1].toArray RX6 := F
  have hl : lv_has ls 7 [(0, .ref (G.2.1 0)), (1, .int a1)] := hl
  have hx := F.1.1
  have hb := F.1.2.1
  unfold p6_shuts at hf
  refine lv_aload_n hx hb dX6_shuts_0 rfl (lv_at hl 0 rfl) ?_
  refine lv_iload_n hx hb dX6_shuts_1 rfl (lv_at hl 1 rfl) ?_
  obtain ⟨r3, M2, hc1, hf⟩ := bd_some hf
  refine x_aftI hw (x_runV (rest := []) F hw hl.1 vw_RX6_152 (sM) rfl (c6_isShop a1 hc1) rfl rfl (Nat.le_of_ble_eq_true rfl) ⟨Nat.le_of_ble_eq_true rfl, Nat.le_of_ble_eq_true rfl⟩ dX6_shuts_2) (fun H locs hw => ?_)
  refine lv_if_ne (tgt := 10) hx hb dX6_shuts_5 (by decide) (fun c4 => ?_) (fun c4 => ?_)
  · have hf := it_f hf c4
    refine lv_iconst (v := 1) hx hb dX6_shuts_10 (by decide) ?_
    refine lv_iload_n hx hb dX6_shuts_11 rfl (lv_at hl 1 rfl) ?_
    refine lv_ishl hx hb dX6_shuts_12 ?_
    obtain ⟨x5, ex5, hf⟩ := lt_elim hf
    refine x_let ex5 ?_
    refine lv_istore_n (lv' := [(2, .int x5), (0, .ref (G.2.1 0)), (1, .int a1)]) hx hb dX6_shuts_13 rfl hl (by decide) rfl (fun ls hl => ?_)
    refine lv_iconst (v := 0) hx hb dX6_shuts_14 (by decide) ?_
    refine lv_istore_n (lv' := [(3, .int 0), (2, .int x5), (0, .ref (G.2.1 0)), (1, .int a1)]) hx hb dX6_shuts_15 rfl hl (by decide) rfl (fun ls hl => ?_)
    exact z6_shuts_16 F hr hk FU a1 x5 0 M2 _ _ ls hw (lv_sub hl [2, 3, 1, 0] rfl) hf
  · have hf := it_t hf c4
    refine lv_iconst (v := (-1)) hx hb dX6_shuts_8 (by decide) ?_
    exact x_iret F hw hr hk hf dX6_shuts_9
theorem dX6_lay_0 : decode cX6_lay 0 = .ok (.aload_n 0, 1) := by decide +kernel
theorem dX6_lay_1 : decode cX6_lay 1 = .ok (.iload_n 1, 1) := by decide +kernel
theorem dX6_lay_2 : decode cX6_lay 2 = .ok (.iload_n 2, 1) := by decide +kernel
theorem dX6_lay_3 : decode cX6_lay 3 = .ok (.invokevirtual 87, 3) := by decide +kernel
theorem dX6_lay_6 : decode cX6_lay 6 = .ok (.istore 4, 2) := by decide +kernel
theorem dX6_lay_8 : decode cX6_lay 8 = .ok (.iload 4, 2) := by decide +kernel
theorem dX6_lay_10 : decode cX6_lay 10 = .ok (.ifCond .eq 6, 3) := by decide +kernel
theorem dX6_lay_13 : decode cX6_lay 13 = .ok (.iload 4, 2) := by decide +kernel
theorem dX6_lay_15 : decode cX6_lay 15 = .ok (.ireturn, 1) := by decide +kernel
theorem dX6_lay_16 : decode cX6_lay 16 = .ok (.aload_n 0, 1) := by decide +kernel
theorem dX6_lay_17 : decode cX6_lay 17 = .ok (.getfield 19, 3) := by decide +kernel
theorem dX6_lay_20 : decode cX6_lay 20 = .ok (.bipush 40, 2) := by decide +kernel
theorem dX6_lay_22 : decode cX6_lay 22 = .ok (.iload_n 1, 1) := by decide +kernel
theorem dX6_lay_23 : decode cX6_lay 23 = .ok (.imul, 1) := by decide +kernel
theorem dX6_lay_24 : decode cX6_lay 24 = .ok (.iload_n 2, 1) := by decide +kernel
theorem dX6_lay_25 : decode cX6_lay 25 = .ok (.iadd, 1) := by decide +kernel
theorem dX6_lay_26 : decode cX6_lay 26 = .ok (.iaload, 1) := by decide +kernel
theorem dX6_lay_27 : decode cX6_lay 27 = .ok (.istore 5, 2) := by decide +kernel
theorem dX6_lay_29 : decode cX6_lay 29 = .ok (.aload_n 0, 1) := by decide +kernel
theorem dX6_lay_30 : decode cX6_lay 30 = .ok (.getfield 19, 3) := by decide +kernel
theorem dX6_lay_33 : decode cX6_lay 33 = .ok (.bipush 40, 2) := by decide +kernel
theorem dX6_lay_35 : decode cX6_lay 35 = .ok (.iload_n 1, 1) := by decide +kernel
theorem dX6_lay_36 : decode cX6_lay 36 = .ok (.imul, 1) := by decide +kernel
theorem dX6_lay_37 : decode cX6_lay 37 = .ok (.iload_n 2, 1) := by decide +kernel
theorem dX6_lay_38 : decode cX6_lay 38 = .ok (.iadd, 1) := by decide +kernel
theorem dX6_lay_39 : decode cX6_lay 39 = .ok (.iload_n 3, 1) := by decide +kernel
theorem dX6_lay_40 : decode cX6_lay 40 = .ok (.iastore, 1) := by decide +kernel
theorem dX6_lay_41 : decode cX6_lay 41 = .ok (.aload_n 0, 1) := by decide +kernel
theorem dX6_lay_42 : decode cX6_lay 42 = .ok (.iload 5, 2) := by decide +kernel
theorem dX6_lay_44 : decode cX6_lay 44 = .ok (.invokevirtual 91, 3) := by decide +kernel
theorem dX6_lay_47 : decode cX6_lay 47 = .ok (.ireturn, 1) := by decide +kernel
def p6_lay (a1 : Int32) (a2 : Int32) (a3 : Int32) (M : SX) : Option (Int32 × SX) :=
  bd (p6_refused a1 a2 M) (fun r3 M2 => if r3 = 0 then (gd (bIn ((40 * a1) + a2) 240) ( lt_ (M2.1 4 (Int32.toNatClampNeg ((40 * a1) + a2))) (fun x6 => lt_ (wI M2 4 (Int32.toNatClampNeg ((40 * a1) + a2)) a3) (fun M7 => bd (p6_tell x6 M7) (fun r10 M9 => some (r10, M9))))))
  else (some (r3, M2)))
set_option maxHeartbeats 4000000 in
set_option maxRecDepth 100000 in
theorem c6_lay {l : Launch} {G : XG} {r : Int32} {M' : SX} {M : SX} (a1 : Int32) (a2 : Int32) (a3 : Int32) (hf : p6_lay a1 a2 a3 M = some (r, M')) : Met l yX6_lay (.code yX6_lay cX6_lay 6 (some .int) :: TBL) (rmX 3) (xPc G ZY M [.ref (G.2.1 0), .int a1, .int a2, .int a3]) (xQi G ZY r M') 0 0 (inA G ZY) := by
  refine x_met (cc := cX6_lay) (by decide) (Nat.le_of_ble_eq_true rfl) ?_
  intro p e s m below meth c ls F hr hk hl hw
  have F : Fx G ZY p m c cX6_lay 6 s [.ref (G.2.1 0), .int a1, .int a2, .int a3].toArray RX6 := F
  have hl : lv_has ls 6 [(0, .ref (G.2.1 0)), (1, .int a1), (2, .int a2), (3, .int a3)] := hl
  have hx := F.1.1
  have hb := F.1.2.1
  unfold p6_lay at hf
  refine lv_aload_n hx hb dX6_lay_0 rfl (lv_at hl 0 rfl) ?_
  refine lv_iload_n hx hb dX6_lay_1 rfl (lv_at hl 1 rfl) ?_
  refine lv_iload_n hx hb dX6_lay_2 rfl (lv_at hl 2 rfl) ?_
  obtain ⟨r3, M2, hc1, hf⟩ := bd_some hf
  refine x_aftI hw (x_runV (rest := []) F hw hl.1 vw_RX6_87 (sM) rfl (c6_refused a1 a2 hc1) rfl rfl (Nat.le_of_ble_eq_true rfl) ⟨Nat.le_of_ble_eq_true rfl, Nat.le_of_ble_eq_true rfl⟩ dX6_lay_3) (fun H locs hw => ?_)
  refine lv_istore (lv' := [(4, .int r3), (0, .ref (G.2.1 0)), (1, .int a1), (2, .int a2), (3, .int a3)]) hx hb dX6_lay_6 hl (by decide) rfl (fun ls hl => ?_)
  refine lv_iload hx hb dX6_lay_8 (lv_at hl 0 rfl) ?_
  refine lv_if_eq (tgt := 16) hx hb dX6_lay_10 (by decide) (fun c4 => ?_) (fun c4 => ?_)
  · have hf := it_t hf c4
    refine lv_aload_n hx hb dX6_lay_16 rfl (lv_at hl 1 rfl) ?_
    refine g6_4 F hw tw_605 dX6_lay_17 ?_
    refine lv_bipush (v := 40) hx hb dX6_lay_20 (by decide) ?_
    refine lv_iload_n hx hb dX6_lay_22 rfl (lv_at hl 2 rfl) ?_
    refine lv_imul hx hb dX6_lay_23 ?_
    refine lv_iload_n hx hb dX6_lay_24 rfl (lv_at hl 3 rfl) ?_
    refine lv_iadd hx hb dX6_lay_25 ?_
    obtain ⟨g5, hf⟩ := gd_some hf
    refine x_iald F hw sM4 g5 dX6_lay_26 ?_
    obtain ⟨x6, ex6, hf⟩ := lt_elim hf
    refine x_let ex6 ?_
    refine lv_istore (lv' := [(5, .int x6), (4, .int r3), (0, .ref (G.2.1 0)), (1, .int a1), (2, .int a2), (3, .int a3)]) hx hb dX6_lay_27 hl (by decide) rfl (fun ls hl => ?_)
    refine lv_aload_n hx hb dX6_lay_29 rfl (lv_at hl 2 rfl) ?_
    refine g6_4 F hw tw_605 dX6_lay_30 ?_
    refine lv_bipush (v := 40) hx hb dX6_lay_33 (by decide) ?_
    refine lv_iload_n hx hb dX6_lay_35 rfl (lv_at hl 3 rfl) ?_
    refine lv_imul hx hb dX6_lay_36 ?_
    refine lv_iload_n hx hb dX6_lay_37 rfl (lv_at hl 4 rfl) ?_
    refine lv_iadd hx hb dX6_lay_38 ?_
    refine lv_iload_n hx hb dX6_lay_39 rfl (lv_at hl 5 rfl) ?_
    refine x_iast F hw sM4 g5 dX6_lay_40 (fun H locs hw => ?_)
    obtain ⟨M7, eM7, hf⟩ := lt_elim hf
    rw [← eM7] at hw
    refine lv_aload_n hx hb dX6_lay_41 rfl (lv_at hl 2 rfl) ?_
    refine lv_iload hx hb dX6_lay_42 (lv_at hl 0 rfl) ?_
    obtain ⟨r10, M9, hc8, hf⟩ := bd_some hf
    refine x_aftI hw (x_runV (rest := []) F hw hl.1 vw_RX6_91 (sM) rfl (c6_tell x6 hc8) rfl rfl (Nat.le_of_ble_eq_true rfl) ⟨Nat.le_of_ble_eq_true rfl, Nat.le_of_ble_eq_true rfl⟩ dX6_lay_44) (fun H locs hw => ?_)
    exact x_iret F hw hr hk hf dX6_lay_47
  · have hf := it_f hf c4
    refine lv_iload hx hb dX6_lay_13 (lv_at hl 0 rfl) ?_
    exact x_iret F hw hr hk hf dX6_lay_15
theorem dX6_at_0 : decode cX6_at 0 = .ok (.aload_n 0, 1) := by decide +kernel
theorem dX6_at_1 : decode cX6_at 1 = .ok (.iload_n 1, 1) := by decide +kernel
theorem dX6_at_2 : decode cX6_at 2 = .ok (.iload_n 2, 1) := by decide +kernel
theorem dX6_at_3 : decode cX6_at 3 = .ok (.invokevirtual 87, 3) := by decide +kernel
theorem dX6_at_6 : decode cX6_at 6 = .ok (.istore_n 3, 1) := by decide +kernel
theorem dX6_at_7 : decode cX6_at 7 = .ok (.iload_n 3, 1) := by decide +kernel
theorem dX6_at_8 : decode cX6_at 8 = .ok (.ifCond .eq 7, 3) := by decide +kernel
theorem dX6_at_11 : decode cX6_at 11 = .ok (.iload_n 3, 1) := by decide +kernel
theorem dX6_at_12 : decode cX6_at 12 = .ok (.goto 18, 3) := by decide +kernel
theorem dX6_at_15 : decode cX6_at 15 = .ok (.aload_n 0, 1) := by decide +kernel
theorem dX6_at_16 : decode cX6_at 16 = .ok (.aload_n 0, 1) := by decide +kernel
theorem dX6_at_17 : decode cX6_at 17 = .ok (.getfield 19, 3) := by decide +kernel
theorem dX6_at_20 : decode cX6_at 20 = .ok (.bipush 40, 2) := by decide +kernel
theorem dX6_at_22 : decode cX6_at 22 = .ok (.iload_n 1, 1) := by decide +kernel
theorem dX6_at_23 : decode cX6_at 23 = .ok (.imul, 1) := by decide +kernel
theorem dX6_at_24 : decode cX6_at 24 = .ok (.iload_n 2, 1) := by decide +kernel
theorem dX6_at_25 : decode cX6_at 25 = .ok (.iadd, 1) := by decide +kernel
theorem dX6_at_26 : decode cX6_at 26 = .ok (.iaload, 1) := by decide +kernel
theorem dX6_at_27 : decode cX6_at 27 = .ok (.invokevirtual 91, 3) := by decide +kernel
theorem dX6_at_30 : decode cX6_at 30 = .ok (.ireturn, 1) := by decide +kernel
def p6_at (a1 : Int32) (a2 : Int32) (M : SX) : Option (Int32 × SX) :=
  bd (p6_refused a1 a2 M) (fun r3 M2 => if r3 = 0 then (gd (bIn ((40 * a1) + a2) 240) ( bd (p6_tell (M2.1 4 (Int32.toNatClampNeg ((40 * a1) + a2))) M2) (fun r8 M7 => some (r8, M7))))
  else (some (r3, M2)))
set_option maxHeartbeats 4000000 in
set_option maxRecDepth 100000 in
theorem c6_at {l : Launch} {G : XG} {r : Int32} {M' : SX} {M : SX} (a1 : Int32) (a2 : Int32) (hf : p6_at a1 a2 M = some (r, M')) : Met l yX6_at (.code yX6_at cX6_at 4 (some .int) :: TBL) (rmX 3) (xPc G ZY M [.ref (G.2.1 0), .int a1, .int a2]) (xQi G ZY r M') 0 0 (inA G ZY) := by
  refine x_met (cc := cX6_at) (by decide) (Nat.le_of_ble_eq_true rfl) ?_
  intro p e s m below meth c ls F hr hk hl hw
  have F : Fx G ZY p m c cX6_at 4 s [.ref (G.2.1 0), .int a1, .int a2].toArray RX6 := F
  have hl : lv_has ls 4 [(0, .ref (G.2.1 0)), (1, .int a1), (2, .int a2)] := hl
  have hx := F.1.1
  have hb := F.1.2.1
  unfold p6_at at hf
  refine lv_aload_n hx hb dX6_at_0 rfl (lv_at hl 0 rfl) ?_
  refine lv_iload_n hx hb dX6_at_1 rfl (lv_at hl 1 rfl) ?_
  refine lv_iload_n hx hb dX6_at_2 rfl (lv_at hl 2 rfl) ?_
  obtain ⟨r3, M2, hc1, hf⟩ := bd_some hf
  refine x_aftI hw (x_runV (rest := []) F hw hl.1 vw_RX6_87 (sM) rfl (c6_refused a1 a2 hc1) rfl rfl (Nat.le_of_ble_eq_true rfl) ⟨Nat.le_of_ble_eq_true rfl, Nat.le_of_ble_eq_true rfl⟩ dX6_at_3) (fun H locs hw => ?_)
  refine lv_istore_n (lv' := [(3, .int r3), (0, .ref (G.2.1 0)), (1, .int a1), (2, .int a2)]) hx hb dX6_at_6 rfl hl (by decide) rfl (fun ls hl => ?_)
  refine lv_iload_n hx hb dX6_at_7 rfl (lv_at hl 0 rfl) ?_
  refine lv_if_eq (tgt := 15) hx hb dX6_at_8 (by decide) (fun c4 => ?_) (fun c4 => ?_)
  · have hf := it_t hf c4
    refine lv_aload_n hx hb dX6_at_15 rfl (lv_at hl 1 rfl) ?_
    refine lv_aload_n hx hb dX6_at_16 rfl (lv_at hl 1 rfl) ?_
    refine g6_4 F hw tw_605 dX6_at_17 ?_
    refine lv_bipush (v := 40) hx hb dX6_at_20 (by decide) ?_
    refine lv_iload_n hx hb dX6_at_22 rfl (lv_at hl 2 rfl) ?_
    refine lv_imul hx hb dX6_at_23 ?_
    refine lv_iload_n hx hb dX6_at_24 rfl (lv_at hl 3 rfl) ?_
    refine lv_iadd hx hb dX6_at_25 ?_
    obtain ⟨g5, hf⟩ := gd_some hf
    refine x_iald F hw sM4 g5 dX6_at_26 ?_
    obtain ⟨r8, M7, hc6, hf⟩ := bd_some hf
    refine x_aftI hw (x_runV (rest := []) F hw hl.1 vw_RX6_91 (sM) rfl (c6_tell (M2.1 4 (Int32.toNatClampNeg ((40 * a1) + a2))) hc6) rfl rfl (Nat.le_of_ble_eq_true rfl) ⟨Nat.le_of_ble_eq_true rfl, Nat.le_of_ble_eq_true rfl⟩ dX6_at_27) (fun H locs hw => ?_)
    exact x_iret F hw hr hk hf dX6_at_30
  · have hf := it_f hf c4
    refine lv_iload_n hx hb dX6_at_11 rfl (lv_at hl 0 rfl) ?_
    refine lv_goto (tgt := 30) hx hb dX6_at_12 (by decide) ?_
    exact x_iret F hw hr hk hf dX6_at_30
theorem dX6_faultOf_0 : decode cX6_faultOf 0 = .ok (.aload_n 0, 1) := by decide +kernel
theorem dX6_faultOf_1 : decode cX6_faultOf 1 = .ok (.bipush 60, 2) := by decide +kernel
theorem dX6_faultOf_3 : decode cX6_faultOf 3 = .ok (.iload_n 1, 1) := by decide +kernel
theorem dX6_faultOf_4 : decode cX6_faultOf 4 = .ok (.imul, 1) := by decide +kernel
theorem dX6_faultOf_5 : decode cX6_faultOf 5 = .ok (.putfield 101, 3) := by decide +kernel
theorem dX6_faultOf_8 : decode cX6_faultOf 8 = .ok (.aload_n 0, 1) := by decide +kernel
theorem dX6_faultOf_9 : decode cX6_faultOf 9 = .ok (.iconst 0, 1) := by decide +kernel
theorem dX6_faultOf_10 : decode cX6_faultOf 10 = .ok (.putfield 104, 3) := by decide +kernel
theorem dX6_faultOf_13 : decode cX6_faultOf 13 = .ok (.aload_n 0, 1) := by decide +kernel
theorem dX6_faultOf_14 : decode cX6_faultOf 14 = .ok (.aload_n 0, 1) := by decide +kernel
theorem dX6_faultOf_15 : decode cX6_faultOf 15 = .ok (.getfield 22, 3) := by decide +kernel
theorem dX6_faultOf_18 : decode cX6_faultOf 18 = .ok (.iload_n 1, 1) := by decide +kernel
theorem dX6_faultOf_19 : decode cX6_faultOf 19 = .ok (.iaload, 1) := by decide +kernel
theorem dX6_faultOf_20 : decode cX6_faultOf 20 = .ok (.putfield 107, 3) := by decide +kernel
theorem dX6_faultOf_23 : decode cX6_faultOf 23 = .ok (.aload_n 0, 1) := by decide +kernel
theorem dX6_faultOf_24 : decode cX6_faultOf 24 = .ok (.iconst 0, 1) := by decide +kernel
theorem dX6_faultOf_25 : decode cX6_faultOf 25 = .ok (.putfield 117, 3) := by decide +kernel
theorem dX6_faultOf_28 : decode cX6_faultOf 28 = .ok (.aload_n 0, 1) := by decide +kernel
theorem dX6_faultOf_29 : decode cX6_faultOf 29 = .ok (.iconst 0, 1) := by decide +kernel
theorem dX6_faultOf_30 : decode cX6_faultOf 30 = .ok (.putfield 120, 3) := by decide +kernel
theorem dX6_faultOf_33 : decode cX6_faultOf 33 = .ok (.aload_n 0, 1) := by decide +kernel
theorem dX6_faultOf_34 : decode cX6_faultOf 34 = .ok (.invokevirtual 127, 3) := by decide +kernel
theorem dX6_faultOf_37 : decode cX6_faultOf 37 = .ok (.iconst 1, 1) := by decide +kernel
theorem dX6_faultOf_38 : decode cX6_faultOf 38 = .ok (.istore_n 2, 1) := by decide +kernel
theorem dX6_faultOf_39 : decode cX6_faultOf 39 = .ok (.iload_n 2, 1) := by decide +kernel
theorem dX6_faultOf_40 : decode cX6_faultOf 40 = .ok (.ifCond .eq 46, 3) := by decide +kernel
theorem dX6_faultOf_43 : decode cX6_faultOf 43 = .ok (.aload_n 0, 1) := by decide +kernel
theorem dX6_faultOf_44 : decode cX6_faultOf 44 = .ok (.getfield 104, 3) := by decide +kernel
theorem dX6_faultOf_47 : decode cX6_faultOf 47 = .ok (.aload_n 0, 1) := by decide +kernel
theorem dX6_faultOf_48 : decode cX6_faultOf 48 = .ok (.getfield 107, 3) := by decide +kernel
theorem dX6_faultOf_51 : decode cX6_faultOf 51 = .ok (.if_icmp .ge 35, 3) := by decide +kernel
theorem dX6_faultOf_54 : decode cX6_faultOf 54 = .ok (.aload_n 0, 1) := by decide +kernel
theorem dX6_faultOf_55 : decode cX6_faultOf 55 = .ok (.invokevirtual 110, 3) := by decide +kernel
theorem dX6_faultOf_58 : decode cX6_faultOf 58 = .ok (.bipush 116, 2) := by decide +kernel
theorem dX6_faultOf_60 : decode cX6_faultOf 60 = .ok (.if_icmp .ne 10, 3) := by decide +kernel
theorem dX6_faultOf_63 : decode cX6_faultOf 63 = .ok (.aload_n 0, 1) := by decide +kernel
theorem dX6_faultOf_64 : decode cX6_faultOf 64 = .ok (.invokevirtual 130, 3) := by decide +kernel
theorem dX6_faultOf_67 : decode cX6_faultOf 67 = .ok (.goto 7, 3) := by decide +kernel
theorem dX6_faultOf_70 : decode cX6_faultOf 70 = .ok (.aload_n 0, 1) := by decide +kernel
theorem dX6_faultOf_71 : decode cX6_faultOf 71 = .ok (.invokevirtual 134, 3) := by decide +kernel
theorem dX6_faultOf_74 : decode cX6_faultOf 74 = .ok (.istore_n 2, 1) := by decide +kernel
theorem dX6_faultOf_75 : decode cX6_faultOf 75 = .ok (.iload_n 2, 1) := by decide +kernel
theorem dX6_faultOf_76 : decode cX6_faultOf 76 = .ok (.ifCond .eq (-37), 3) := by decide +kernel
theorem dX6_faultOf_79 : decode cX6_faultOf 79 = .ok (.aload_n 0, 1) := by decide +kernel
theorem dX6_faultOf_80 : decode cX6_faultOf 80 = .ok (.invokevirtual 127, 3) := by decide +kernel
theorem dX6_faultOf_83 : decode cX6_faultOf 83 = .ok (.goto (-44), 3) := by decide +kernel
theorem dX6_faultOf_86 : decode cX6_faultOf 86 = .ok (.iload_n 2, 1) := by decide +kernel
theorem dX6_faultOf_87 : decode cX6_faultOf 87 = .ok (.ifCond .eq 16, 3) := by decide +kernel
theorem dX6_faultOf_90 : decode cX6_faultOf 90 = .ok (.aload_n 0, 1) := by decide +kernel
theorem dX6_faultOf_91 : decode cX6_faultOf 91 = .ok (.getfield 117, 3) := by decide +kernel
theorem dX6_faultOf_94 : decode cX6_faultOf 94 = .ok (.iconst 1, 1) := by decide +kernel
theorem dX6_faultOf_95 : decode cX6_faultOf 95 = .ok (.if_icmp .le 8, 3) := by decide +kernel
theorem dX6_faultOf_98 : decode cX6_faultOf 98 = .ok (.bipush (-9), 2) := by decide +kernel
theorem dX6_faultOf_100 : decode cX6_faultOf 100 = .ok (.goto 7, 3) := by decide +kernel
theorem dX6_faultOf_103 : decode cX6_faultOf 103 = .ok (.aload_n 0, 1) := by decide +kernel
theorem dX6_faultOf_104 : decode cX6_faultOf 104 = .ok (.getfield 104, 3) := by decide +kernel
theorem dX6_faultOf_107 : decode cX6_faultOf 107 = .ok (.ireturn, 1) := by decide +kernel
def p6_faultOf_103 (M : SX) : Option (Int32 × SX) :=
  some (M.1 0 13, M)
set_option maxHeartbeats 4000000 in
set_option maxRecDepth 100000 in
theorem w6_faultOf_103 {G : XG} {p : Program} {l : Launch} {e : Env} {s : State} {m : MethodId} {args : Array Value} {below : List Frame} {meth : Method} {c : Code} (F : Fx G ZY p m c cX6_faultOf 3 s args RX6) (hr : meth.sig.returnType = some .int) (hk : meth.locks = false) {r : Int32} {M' : SX} : ∀ (M : SX) (H : Heap) (locs : List Loc) (ls : Array Slot), Wld G ZY M s.heap H locs → lv_has ls 3 [(0, .ref (G.2.1 0))] → p6_faultOf_103 M = some (r, M') → WXi G ZY p l e 3 s m args below meth c r M' H locs (F0 m 103 ls []) := by
  intro M H locs ls hw hl hf
  have hx := F.1.1
  have hb := F.1.2.1
  unfold p6_faultOf_103 at hf
  refine lv_aload_n hx hb dX6_faultOf_103 rfl (lv_at hl 0 rfl) ?_
  refine g6_13 F hw tw_609 dX6_faultOf_104 ?_
  exact x_iret F hw hr hk hf dX6_faultOf_107
def p6_faultOf_86 (v2 : Int32) (M : SX) : Option (Int32 × SX) :=
  if v2 = 0 then (p6_faultOf_103 M)
  else (if (M.1 0 16) ≤ (1 : Int32) then (p6_faultOf_103 M)
  else (some ((-9), M)))
set_option maxHeartbeats 4000000 in
set_option maxRecDepth 100000 in
theorem w6_faultOf_86 {G : XG} {p : Program} {l : Launch} {e : Env} {s : State} {m : MethodId} {args : Array Value} {below : List Frame} {meth : Method} {c : Code} (F : Fx G ZY p m c cX6_faultOf 3 s args RX6) (hr : meth.sig.returnType = some .int) (hk : meth.locks = false) {r : Int32} {M' : SX} : ∀ (v2 : Int32) (M : SX) (H : Heap) (locs : List Loc) (ls : Array Slot), Wld G ZY M s.heap H locs → lv_has ls 3 [(0, .ref (G.2.1 0)), (2, .int v2)] → p6_faultOf_86 v2 M = some (r, M') → WXi G ZY p l e 3 s m args below meth c r M' H locs (F0 m 86 ls []) := by
  intro v2 M H locs ls hw hl hf
  have hx := F.1.1
  have hb := F.1.2.1
  unfold p6_faultOf_86 at hf
  refine lv_iload_n hx hb dX6_faultOf_86 rfl (lv_at hl 1 rfl) ?_
  refine lv_if_eq (tgt := 103) hx hb dX6_faultOf_87 (by decide) (fun c1 => ?_) (fun c1 => ?_)
  · have hf := it_t hf c1
    exact w6_faultOf_103 F hr hk M _ _ ls hw (lv_sub hl [0] rfl) hf
  · have hf := it_f hf c1
    refine lv_aload_n hx hb dX6_faultOf_90 rfl (lv_at hl 0 rfl) ?_
    refine g6_16 F hw tw_684 dX6_faultOf_91 ?_
    refine lv_iconst (v := 1) hx hb dX6_faultOf_94 (by decide) ?_
    refine lv_icmp_le (tgt := 103) hx hb dX6_faultOf_95 (by decide) (fun c2 => ?_) (fun c2 => ?_)
    · have hf := it_t hf c2
      exact w6_faultOf_103 F hr hk M _ _ ls hw (lv_sub hl [0] rfl) hf
    · have hf := it_f hf c2
      refine lv_bipush (v := (-9)) hx hb dX6_faultOf_98 (by decide) ?_
      refine lv_goto (tgt := 107) hx hb dX6_faultOf_100 (by decide) ?_
      exact x_iret F hw hr hk hf dX6_faultOf_107
def p6_faultOf_74 (k39 : Int32 → SX → Option (Int32 × SX)) (t0 : Int32) (M : SX) : Option (Int32 × SX) :=
  if t0 = 0 then (k39 t0 M)
  else (bv (p6_skip M) (fun M3 => k39 t0 M3))
set_option maxHeartbeats 4000000 in
set_option maxRecDepth 100000 in
theorem w6_faultOf_74 {G : XG} {p : Program} {l : Launch} {e : Env} {s : State} {m : MethodId} {args : Array Value} {below : List Frame} {meth : Method} {c : Code} (F : Fx G ZY p m c cX6_faultOf 3 s args RX6) (hr : meth.sig.returnType = some .int) (hk : meth.locks = false) {r : Int32} {M' : SX} (k39 : Int32 → SX → Option (Int32 × SX)) (hk39 : ∀ (v2 : Int32) (M : SX) (H : Heap) (locs : List Loc) (ls : Array Slot), Wld G ZY M s.heap H locs → lv_has ls 3 [(0, .ref (G.2.1 0)), (2, .int v2)] → k39 v2 M = some (r, M') → WXi G ZY p l e 3 s m args below meth c r M' H locs (F0 m 39 ls [])) : ∀ (t0 : Int32) (M : SX) (H : Heap) (locs : List Loc) (ls : Array Slot), Wld G ZY M s.heap H locs → lv_has ls 3 [(0, .ref (G.2.1 0))] → p6_faultOf_74 k39 t0 M = some (r, M') → WXi G ZY p l e 3 s m args below meth c r M' H locs (F0 m 74 ls [.int t0]) := by
  intro t0 M H locs ls hw hl hf
  have hx := F.1.1
  have hb := F.1.2.1
  unfold p6_faultOf_74 at hf
  refine lv_istore_n (lv' := [(2, .int t0), (0, .ref (G.2.1 0))]) hx hb dX6_faultOf_74 rfl hl (by decide) rfl (fun ls hl => ?_)
  refine lv_iload_n hx hb dX6_faultOf_75 rfl (lv_at hl 0 rfl) ?_
  refine lv_if_eq (tgt := 39) hx hb dX6_faultOf_76 (by decide) (fun c1 => ?_) (fun c1 => ?_)
  · have hf := it_t hf c1
    exact hk39 t0 M _ _ ls hw (lv_sub hl [1, 0] rfl) hf
  · have hf := it_f hf c1
    refine lv_aload_n hx hb dX6_faultOf_79 rfl (lv_at hl 1 rfl) ?_
    obtain ⟨M3, hc2, hf⟩ := bv_some hf
    refine x_aftV hw (x_runV (rest := []) F hw hl.1 vw_RX6_127 (sM) rfl (c6_skip hc2) rfl rfl (Nat.le_of_ble_eq_true rfl) ⟨Nat.le_of_ble_eq_true rfl, Nat.le_of_ble_eq_true rfl⟩ dX6_faultOf_80) (fun H locs hw => ?_)
    refine lv_goto (tgt := 39) hx hb dX6_faultOf_83 (by decide) ?_
    exact hk39 t0 M3 _ _ ls hw (lv_sub hl [1, 0] rfl) hf
def p6_faultOf_39 (k39 : Int32 → SX → Option (Int32 × SX)) (v2 : Int32) (M : SX) : Option (Int32 × SX) :=
  if v2 = 0 then (p6_faultOf_86 v2 M)
  else (if (M.1 0 14) ≤ (M.1 0 13) then (p6_faultOf_86 v2 M)
  else (bd (p6_here M) (fun r5 M4 => if r5 = (116 : Int32) then (bd (p6_readsTicket M4) (fun r12 M11 => p6_faultOf_74 k39 r12 M11))
  else (bd (p6_readsShop M4) (fun r9 M8 => p6_faultOf_74 k39 r9 M8)))))
set_option maxHeartbeats 4000000 in
set_option maxRecDepth 100000 in
theorem w6_faultOf_39 {G : XG} {p : Program} {l : Launch} {e : Env} {s : State} {m : MethodId} {args : Array Value} {below : List Frame} {meth : Method} {c : Code} (F : Fx G ZY p m c cX6_faultOf 3 s args RX6) (hr : meth.sig.returnType = some .int) (hk : meth.locks = false) {r : Int32} {M' : SX} (k39 : Int32 → SX → Option (Int32 × SX)) (hk39 : ∀ (v2 : Int32) (M : SX) (H : Heap) (locs : List Loc) (ls : Array Slot), Wld G ZY M s.heap H locs → lv_has ls 3 [(0, .ref (G.2.1 0)), (2, .int v2)] → k39 v2 M = some (r, M') → WXi G ZY p l e 3 s m args below meth c r M' H locs (F0 m 39 ls [])) : ∀ (v2 : Int32) (M : SX) (H : Heap) (locs : List Loc) (ls : Array Slot), Wld G ZY M s.heap H locs → lv_has ls 3 [(0, .ref (G.2.1 0)), (2, .int v2)] → p6_faultOf_39 k39 v2 M = some (r, M') → WXi G ZY p l e 3 s m args below meth c r M' H locs (F0 m 39 ls []) := by
  intro v2 M H locs ls hw hl hf
  have hx := F.1.1
  have hb := F.1.2.1
  unfold p6_faultOf_39 at hf
  refine lv_iload_n hx hb dX6_faultOf_39 rfl (lv_at hl 1 rfl) ?_
  refine lv_if_eq (tgt := 86) hx hb dX6_faultOf_40 (by decide) (fun c1 => ?_) (fun c1 => ?_)
  · have hf := it_t hf c1
    exact w6_faultOf_86 F hr hk v2 M _ _ ls hw (lv_sub hl [0, 1] rfl) hf
  · have hf := it_f hf c1
    refine lv_aload_n hx hb dX6_faultOf_43 rfl (lv_at hl 0 rfl) ?_
    refine g6_13 F hw tw_609 dX6_faultOf_44 ?_
    refine lv_aload_n hx hb dX6_faultOf_47 rfl (lv_at hl 0 rfl) ?_
    refine g6_14 F hw tw_623 dX6_faultOf_48 ?_
    refine lv_icmp_ge (tgt := 86) hx hb dX6_faultOf_51 (by decide) (fun c2 => ?_) (fun c2 => ?_)
    · have hf := it_t hf c2
      exact w6_faultOf_86 F hr hk v2 M _ _ ls hw (lv_sub hl [0, 1] rfl) hf
    · have hf := it_f hf c2
      refine lv_aload_n hx hb dX6_faultOf_54 rfl (lv_at hl 0 rfl) ?_
      obtain ⟨r5, M4, hc3, hf⟩ := bd_some hf
      refine x_aftI hw (x_runV (rest := []) F hw hl.1 vw_RX6_110 (sM) rfl (c6_here hc3) rfl rfl (Nat.le_of_ble_eq_true rfl) ⟨Nat.le_of_ble_eq_true rfl, Nat.le_of_ble_eq_true rfl⟩ dX6_faultOf_55) (fun H locs hw => ?_)
      refine lv_bipush (v := 116) hx hb dX6_faultOf_58 (by decide) ?_
      refine lv_icmp_ne (tgt := 70) hx hb dX6_faultOf_60 (by decide) (fun c6 => ?_) (fun c6 => ?_)
      · have hf := it_f hf c6
        refine lv_aload_n hx hb dX6_faultOf_70 rfl (lv_at hl 0 rfl) ?_
        obtain ⟨r9, M8, hc7, hf⟩ := bd_some hf
        refine x_aftI hw (x_runV (rest := []) F hw hl.1 vw_RX6_134 (sM) rfl (c6_readsShop hc7) rfl rfl (Nat.le_of_ble_eq_true rfl) ⟨Nat.le_of_ble_eq_true rfl, Nat.le_of_ble_eq_true rfl⟩ dX6_faultOf_71) (fun H locs hw => ?_)
        exact w6_faultOf_74 F hr hk k39 hk39 r9 M8 _ _ ls hw (lv_sub hl [0] rfl) hf
      · have hf := it_t hf c6
        refine lv_aload_n hx hb dX6_faultOf_63 rfl (lv_at hl 0 rfl) ?_
        obtain ⟨r12, M11, hc10, hf⟩ := bd_some hf
        refine x_aftI hw (x_runV (rest := []) F hw hl.1 vw_RX6_130 (sM) rfl (c6_readsTicket hc10) rfl rfl (Nat.le_of_ble_eq_true rfl) ⟨Nat.le_of_ble_eq_true rfl, Nat.le_of_ble_eq_true rfl⟩ dX6_faultOf_64) (fun H locs hw => ?_)
        refine lv_goto (tgt := 74) hx hb dX6_faultOf_67 (by decide) ?_
        exact w6_faultOf_74 F hr hk k39 hk39 r12 M11 _ _ ls hw (lv_sub hl [0] rfl) hf
theorem z6_faultOf_39 {G : XG} {p : Program} {l : Launch} {e : Env} {s : State} {m : MethodId} {args : Array Value} {below : List Frame} {meth : Method} {c : Code} (F : Fx G ZY p m c cX6_faultOf 3 s args RX6) (hr : meth.sig.returnType = some .int) (hk : meth.locks = false) {r : Int32} {M' : SX} : ∀ n : Nat, ∀ (v2 : Int32) (M : SX) (H : Heap) (locs : List Loc) (ls : Array Slot), Wld G ZY M s.heap H locs → lv_has ls 3 [(0, .ref (G.2.1 0)), (2, .int v2)] → xlp1 p6_faultOf_39 n v2 M = some (r, M') → WXi G ZY p l e 3 s m args below meth c r M' H locs (F0 m 39 ls []) := by
  intro n
  induction n with
  | zero => intro _ _ _ _ _ _ _ hf; cases hf
  | succ n ih => exact w6_faultOf_39 F hr hk (xlp1 p6_faultOf_39 n) ih
def p6_faultOf (a1 : Int32) (M : SX) : Option (Int32 × SX) :=
  lt_ (wI M 0 12 (60 * a1)) (fun M1 => lt_ (wI M1 0 13 0) (fun M2 => gd (bIn a1 4) ( lt_ (wI M2 0 14 (M2.1 5 (Int32.toNatClampNeg a1))) (fun M4 => lt_ (wI M4 0 16 0) (fun M5 => lt_ (wI M5 0 17 0) (fun M6 => bv (p6_skip M6) (fun M8 => xlp1 p6_faultOf_39 FU 1 M8)))))))
set_option maxHeartbeats 4000000 in
set_option maxRecDepth 100000 in
theorem c6_faultOf {l : Launch} {G : XG} {r : Int32} {M' : SX} {M : SX} (a1 : Int32) (hf : p6_faultOf a1 M = some (r, M')) : Met l yX6_faultOf (.code yX6_faultOf cX6_faultOf 3 (some .int) :: TBL) (rmX 3) (xPc G ZY M [.ref (G.2.1 0), .int a1]) (xQi G ZY r M') 0 0 (inA G ZY) := by
  refine x_met (cc := cX6_faultOf) (by decide) (Nat.le_of_ble_eq_true rfl) ?_
  intro p e s m below meth c ls F hr hk hl hw
  have F : Fx G ZY p m c cX6_faultOf 3 s [.ref (G.2.1 0), .int a1].toArray RX6 := F
  have hl : lv_has ls 3 [(0, .ref (G.2.1 0)), (1, .int a1)] := hl
  have hx := F.1.1
  have hb := F.1.2.1
  unfold p6_faultOf at hf
  refine lv_aload_n hx hb dX6_faultOf_0 rfl (lv_at hl 0 rfl) ?_
  refine lv_bipush (v := 60) hx hb dX6_faultOf_1 (by decide) ?_
  refine lv_iload_n hx hb dX6_faultOf_3 rfl (lv_at hl 1 rfl) ?_
  refine lv_imul hx hb dX6_faultOf_4 ?_
  refine s6_12 F hw tw_608 dX6_faultOf_5 (fun H locs hw => ?_)
  obtain ⟨M1, eM1, hf⟩ := lt_elim hf
  rw [← eM1] at hw
  refine lv_aload_n hx hb dX6_faultOf_8 rfl (lv_at hl 0 rfl) ?_
  refine lv_iconst (v := 0) hx hb dX6_faultOf_9 (by decide) ?_
  refine s6_13 F hw tw_609 dX6_faultOf_10 (fun H locs hw => ?_)
  obtain ⟨M2, eM2, hf⟩ := lt_elim hf
  rw [← eM2] at hw
  refine lv_aload_n hx hb dX6_faultOf_13 rfl (lv_at hl 0 rfl) ?_
  refine lv_aload_n hx hb dX6_faultOf_14 rfl (lv_at hl 0 rfl) ?_
  refine g6_5 F hw tw_615 dX6_faultOf_15 ?_
  refine lv_iload_n hx hb dX6_faultOf_18 rfl (lv_at hl 1 rfl) ?_
  obtain ⟨g3, hf⟩ := gd_some hf
  refine x_iald F hw sM5 g3 dX6_faultOf_19 ?_
  refine s6_14 F hw tw_623 dX6_faultOf_20 (fun H locs hw => ?_)
  obtain ⟨M4, eM4, hf⟩ := lt_elim hf
  rw [← eM4] at hw
  refine lv_aload_n hx hb dX6_faultOf_23 rfl (lv_at hl 0 rfl) ?_
  refine lv_iconst (v := 0) hx hb dX6_faultOf_24 (by decide) ?_
  refine s6_16 F hw tw_684 dX6_faultOf_25 (fun H locs hw => ?_)
  obtain ⟨M5, eM5, hf⟩ := lt_elim hf
  rw [← eM5] at hw
  refine lv_aload_n hx hb dX6_faultOf_28 rfl (lv_at hl 0 rfl) ?_
  refine lv_iconst (v := 0) hx hb dX6_faultOf_29 (by decide) ?_
  refine s6_17 F hw tw_690 dX6_faultOf_30 (fun H locs hw => ?_)
  obtain ⟨M6, eM6, hf⟩ := lt_elim hf
  rw [← eM6] at hw
  refine lv_aload_n hx hb dX6_faultOf_33 rfl (lv_at hl 0 rfl) ?_
  obtain ⟨M8, hc7, hf⟩ := bv_some hf
  refine x_aftV hw (x_runV (rest := []) F hw hl.1 vw_RX6_127 (sM) rfl (c6_skip hc7) rfl rfl (Nat.le_of_ble_eq_true rfl) ⟨Nat.le_of_ble_eq_true rfl, Nat.le_of_ble_eq_true rfl⟩ dX6_faultOf_34) (fun H locs hw => ?_)
  refine lv_iconst (v := 1) hx hb dX6_faultOf_37 (by decide) ?_
  refine lv_istore_n (lv' := [(2, .int 1), (0, .ref (G.2.1 0)), (1, .int a1)]) hx hb dX6_faultOf_38 rfl hl (by decide) rfl (fun ls hl => ?_)
  exact z6_faultOf_39 F hr hk FU 1 M8 _ _ ls hw (lv_sub hl [1, 0] rfl) hf
theorem dX6_shop_0 : decode cX6_shop 0 = .ok (.aload_n 0, 1) := by decide +kernel
theorem dX6_shop_1 : decode cX6_shop 1 = .ok (.iload_n 1, 1) := by decide +kernel
theorem dX6_shop_2 : decode cX6_shop 2 = .ok (.invokevirtual 152, 3) := by decide +kernel
theorem dX6_shop_5 : decode cX6_shop 5 = .ok (.ifCond .eq 28, 3) := by decide +kernel
theorem dX6_shop_8 : decode cX6_shop 8 = .ok (.iload_n 2, 1) := by decide +kernel
theorem dX6_shop_9 : decode cX6_shop 9 = .ok (.i2l, 1) := by decide +kernel
theorem dX6_shop_10 : decode cX6_shop 10 = .ok (.lconst 0, 1) := by decide +kernel
theorem dX6_shop_11 : decode cX6_shop 11 = .ok (.ldc2_w 155, 3) := by decide +kernel
theorem dX6_shop_14 : decode cX6_shop 14 = .ok (.invokestatic 69, 3) := by decide +kernel
theorem dX6_shop_17 : decode cX6_shop 17 = .ok (.ifCond .eq 16, 3) := by decide +kernel
theorem dX6_shop_20 : decode cX6_shop 20 = .ok (.aload_n 0, 1) := by decide +kernel
theorem dX6_shop_21 : decode cX6_shop 21 = .ok (.aload_n 0, 1) := by decide +kernel
theorem dX6_shop_22 : decode cX6_shop 22 = .ok (.iload_n 1, 1) := by decide +kernel
theorem dX6_shop_23 : decode cX6_shop 23 = .ok (.iload_n 2, 1) := by decide +kernel
theorem dX6_shop_24 : decode cX6_shop 24 = .ok (.invokevirtual 157, 3) := by decide +kernel
theorem dX6_shop_27 : decode cX6_shop 27 = .ok (.invokevirtual 91, 3) := by decide +kernel
theorem dX6_shop_30 : decode cX6_shop 30 = .ok (.goto 4, 3) := by decide +kernel
theorem dX6_shop_33 : decode cX6_shop 33 = .ok (.iconst (-1), 1) := by decide +kernel
theorem dX6_shop_34 : decode cX6_shop 34 = .ok (.ireturn, 1) := by decide +kernel
def p6_shop (a1 : Int32) (a2 : Int32) (M : SX) : Option (Int32 × SX) :=
  bd (p6_isShop a1 M) (fun r3 M2 => if r3 = 0 then (some ((-1), M2))
  else (bd (p6_in (Int32.toInt64 a2) 0 6 M2) (fun r7 M6 => if r7 = 0 then (some ((-1), M6))
  else (bd (p6_toldOf a1 a2 M6) (fun r11 M10 => bd (p6_tell r11 M10) (fun r14 M13 => some (r14, M13)))))))
set_option maxHeartbeats 4000000 in
set_option maxRecDepth 100000 in
theorem c6_shop {l : Launch} {G : XG} {r : Int32} {M' : SX} {M : SX} (a1 : Int32) (a2 : Int32) (hf : p6_shop a1 a2 M = some (r, M')) : Met l yX6_shop (.code yX6_shop cX6_shop 3 (some .int) :: TBL) (rmX 3) (xPc G ZY M [.ref (G.2.1 0), .int a1, .int a2]) (xQi G ZY r M') 0 0 (inA G ZY) := by
  refine x_met (cc := cX6_shop) (by decide) (Nat.le_of_ble_eq_true rfl) ?_
  intro p e s m below meth c ls F hr hk hl hw
  have F : Fx G ZY p m c cX6_shop 3 s [.ref (G.2.1 0), .int a1, .int a2].toArray RX6 := F
  have hl : lv_has ls 3 [(0, .ref (G.2.1 0)), (1, .int a1), (2, .int a2)] := hl
  have hx := F.1.1
  have hb := F.1.2.1
  unfold p6_shop at hf
  refine lv_aload_n hx hb dX6_shop_0 rfl (lv_at hl 0 rfl) ?_
  refine lv_iload_n hx hb dX6_shop_1 rfl (lv_at hl 1 rfl) ?_
  obtain ⟨r3, M2, hc1, hf⟩ := bd_some hf
  refine x_aftI hw (x_runV (rest := []) F hw hl.1 vw_RX6_152 (sM) rfl (c6_isShop a1 hc1) rfl rfl (Nat.le_of_ble_eq_true rfl) ⟨Nat.le_of_ble_eq_true rfl, Nat.le_of_ble_eq_true rfl⟩ dX6_shop_2) (fun H locs hw => ?_)
  refine lv_if_eq (tgt := 33) hx hb dX6_shop_5 (by decide) (fun c4 => ?_) (fun c4 => ?_)
  · have hf := it_t hf c4
    refine lv_iconst (v := (-1)) hx hb dX6_shop_33 (by decide) ?_
    exact x_iret F hw hr hk hf dX6_shop_34
  · have hf := it_f hf c4
    refine lv_iload_n hx hb dX6_shop_8 rfl (lv_at hl 2 rfl) ?_
    refine lv_i2l (v := Int32.toInt64 a2) hx hb dX6_shop_9 rfl ?_
    refine lv_lconst (v := 0) hx hb dX6_shop_10 (by decide) ?_
    refine lv_ldc2 (v := 6) hx hb F.1.2.2.2.1 (F.1.2.2.2.2 _ tw_744) dX6_shop_11 ?_
    obtain ⟨r7, M6, hc5, hf⟩ := bd_some hf
    refine x_aftI hw (x_runS (rest := []) F hw hl.1 sw_RX6_69 (c6_in (Int32.toInt64 a2) 0 6 hc5) rfl rfl (Nat.le_of_ble_eq_true rfl) ⟨Nat.le_of_ble_eq_true rfl, Nat.le_of_ble_eq_true rfl⟩ dX6_shop_14) (fun H locs hw => ?_)
    refine lv_if_eq (tgt := 33) hx hb dX6_shop_17 (by decide) (fun c8 => ?_) (fun c8 => ?_)
    · have hf := it_t hf c8
      refine lv_iconst (v := (-1)) hx hb dX6_shop_33 (by decide) ?_
      exact x_iret F hw hr hk hf dX6_shop_34
    · have hf := it_f hf c8
      refine lv_aload_n hx hb dX6_shop_20 rfl (lv_at hl 0 rfl) ?_
      refine lv_aload_n hx hb dX6_shop_21 rfl (lv_at hl 0 rfl) ?_
      refine lv_iload_n hx hb dX6_shop_22 rfl (lv_at hl 1 rfl) ?_
      refine lv_iload_n hx hb dX6_shop_23 rfl (lv_at hl 2 rfl) ?_
      obtain ⟨r11, M10, hc9, hf⟩ := bd_some hf
      refine x_aftI hw (x_runV (rest := [.ref (G.2.1 0)]) F hw hl.1 vw_RX6_157 (sM) rfl (c6_toldOf a1 a2 hc9) rfl rfl (Nat.le_of_ble_eq_true rfl) ⟨Nat.le_of_ble_eq_true rfl, Nat.le_of_ble_eq_true rfl⟩ dX6_shop_24) (fun H locs hw => ?_)
      obtain ⟨r14, M13, hc12, hf⟩ := bd_some hf
      refine x_aftI hw (x_runV (rest := []) F hw hl.1 vw_RX6_91 (sM) rfl (c6_tell r11 hc12) rfl rfl (Nat.le_of_ble_eq_true rfl) ⟨Nat.le_of_ble_eq_true rfl, Nat.le_of_ble_eq_true rfl⟩ dX6_shop_27) (fun H locs hw => ?_)
      refine lv_goto (tgt := 34) hx hb dX6_shop_30 (by decide) ?_
      exact x_iret F hw hr hk hf dX6_shop_34
theorem dX6_mark_0 : decode cX6_mark 0 = .ok (.aload_n 0, 1) := by decide +kernel
theorem dX6_mark_1 : decode cX6_mark 1 = .ok (.iload_n 1, 1) := by decide +kernel
theorem dX6_mark_2 : decode cX6_mark 2 = .ok (.invokevirtual 152, 3) := by decide +kernel
theorem dX6_mark_5 : decode cX6_mark 5 = .ok (.ifCond .eq 15, 3) := by decide +kernel
theorem dX6_mark_8 : decode cX6_mark 8 = .ok (.iload_n 2, 1) := by decide +kernel
theorem dX6_mark_9 : decode cX6_mark 9 = .ok (.i2l, 1) := by decide +kernel
theorem dX6_mark_10 : decode cX6_mark 10 = .ok (.lconst 1, 1) := by decide +kernel
theorem dX6_mark_11 : decode cX6_mark 11 = .ok (.ldc2_w 67, 3) := by decide +kernel
theorem dX6_mark_14 : decode cX6_mark 14 = .ok (.invokestatic 69, 3) := by decide +kernel
theorem dX6_mark_17 : decode cX6_mark 17 = .ok (.ifCond .ne 5, 3) := by decide +kernel
theorem dX6_mark_20 : decode cX6_mark 20 = .ok (.iconst (-1), 1) := by decide +kernel
theorem dX6_mark_21 : decode cX6_mark 21 = .ok (.ireturn, 1) := by decide +kernel
theorem dX6_mark_22 : decode cX6_mark 22 = .ok (.aload_n 0, 1) := by decide +kernel
theorem dX6_mark_23 : decode cX6_mark 23 = .ok (.iload_n 1, 1) := by decide +kernel
theorem dX6_mark_24 : decode cX6_mark 24 = .ok (.iload_n 2, 1) := by decide +kernel
theorem dX6_mark_25 : decode cX6_mark 25 = .ok (.invokevirtual 160, 3) := by decide +kernel
theorem dX6_mark_28 : decode cX6_mark 28 = .ok (.ifCond .ne 9, 3) := by decide +kernel
theorem dX6_mark_31 : decode cX6_mark 31 = .ok (.aload_n 0, 1) := by decide +kernel
theorem dX6_mark_32 : decode cX6_mark 32 = .ok (.iconst 3, 1) := by decide +kernel
theorem dX6_mark_33 : decode cX6_mark 33 = .ok (.invokevirtual 79, 3) := by decide +kernel
theorem dX6_mark_36 : decode cX6_mark 36 = .ok (.ireturn, 1) := by decide +kernel
theorem dX6_mark_37 : decode cX6_mark 37 = .ok (.iload_n 2, 1) := by decide +kernel
theorem dX6_mark_38 : decode cX6_mark 38 = .ok (.tableswitch 72 1 4 #[30, 36, 50, 59], 30) := by decide +kernel
theorem dX6_mark_68 : decode cX6_mark 68 = .ok (.aload_n 0, 1) := by decide +kernel
theorem dX6_mark_69 : decode cX6_mark 69 = .ok (.iload_n 1, 1) := by decide +kernel
theorem dX6_mark_70 : decode cX6_mark 70 = .ok (.invokevirtual 164, 3) := by decide +kernel
theorem dX6_mark_73 : decode cX6_mark 73 = .ok (.ireturn, 1) := by decide +kernel
theorem dX6_mark_74 : decode cX6_mark 74 = .ok (.aload_n 0, 1) := by decide +kernel
theorem dX6_mark_75 : decode cX6_mark 75 = .ok (.iload_n 1, 1) := by decide +kernel
theorem dX6_mark_76 : decode cX6_mark 76 = .ok (.iconst 1, 1) := by decide +kernel
theorem dX6_mark_77 : decode cX6_mark 77 = .ok (.invokevirtual 167, 3) := by decide +kernel
theorem dX6_mark_80 : decode cX6_mark 80 = .ok (.aload_n 0, 1) := by decide +kernel
theorem dX6_mark_81 : decode cX6_mark 81 = .ok (.iload_n 1, 1) := by decide +kernel
theorem dX6_mark_82 : decode cX6_mark 82 = .ok (.iconst 0, 1) := by decide +kernel
theorem dX6_mark_83 : decode cX6_mark 83 = .ok (.invokevirtual 167, 3) := by decide +kernel
theorem dX6_mark_86 : decode cX6_mark 86 = .ok (.isub, 1) := by decide +kernel
theorem dX6_mark_87 : decode cX6_mark 87 = .ok (.ireturn, 1) := by decide +kernel
theorem dX6_mark_88 : decode cX6_mark 88 = .ok (.aload_n 0, 1) := by decide +kernel
theorem dX6_mark_89 : decode cX6_mark 89 = .ok (.iload_n 1, 1) := by decide +kernel
theorem dX6_mark_90 : decode cX6_mark 90 = .ok (.invokevirtual 149, 3) := by decide +kernel
theorem dX6_mark_93 : decode cX6_mark 93 = .ok (.invokestatic 170, 3) := by decide +kernel
theorem dX6_mark_96 : decode cX6_mark 96 = .ok (.ireturn, 1) := by decide +kernel
theorem dX6_mark_97 : decode cX6_mark 97 = .ok (.aload_n 0, 1) := by decide +kernel
theorem dX6_mark_98 : decode cX6_mark 98 = .ok (.iload_n 1, 1) := by decide +kernel
theorem dX6_mark_99 : decode cX6_mark 99 = .ok (.invokevirtual 164, 3) := by decide +kernel
theorem dX6_mark_102 : decode cX6_mark 102 = .ok (.aload_n 0, 1) := by decide +kernel
theorem dX6_mark_103 : decode cX6_mark 103 = .ok (.iload_n 1, 1) := by decide +kernel
theorem dX6_mark_104 : decode cX6_mark 104 = .ok (.iconst 0, 1) := by decide +kernel
theorem dX6_mark_105 : decode cX6_mark 105 = .ok (.invokevirtual 167, 3) := by decide +kernel
theorem dX6_mark_108 : decode cX6_mark 108 = .ok (.isub, 1) := by decide +kernel
theorem dX6_mark_109 : decode cX6_mark 109 = .ok (.ireturn, 1) := by decide +kernel
theorem dX6_mark_110 : decode cX6_mark 110 = .ok (.aload_n 0, 1) := by decide +kernel
theorem dX6_mark_111 : decode cX6_mark 111 = .ok (.iload_n 1, 1) := by decide +kernel
theorem dX6_mark_112 : decode cX6_mark 112 = .ok (.invokevirtual 149, 3) := by decide +kernel
theorem dX6_mark_115 : decode cX6_mark 115 = .ok (.aload_n 0, 1) := by decide +kernel
theorem dX6_mark_116 : decode cX6_mark 116 = .ok (.invokevirtual 173, 3) := by decide +kernel
theorem dX6_mark_119 : decode cX6_mark 119 = .ok (.iand, 1) := by decide +kernel
theorem dX6_mark_120 : decode cX6_mark 120 = .ok (.invokestatic 170, 3) := by decide +kernel
theorem dX6_mark_123 : decode cX6_mark 123 = .ok (.ireturn, 1) := by decide +kernel
def p6_mark (a1 : Int32) (a2 : Int32) (M : SX) : Option (Int32 × SX) :=
  bd (p6_isShop a1 M) (fun r3 M2 => if r3 = 0 then (some ((-1), M2))
  else (bd (p6_in (Int32.toInt64 a2) 1 5 M2) (fun r7 M6 => if r7 = 0 then (some ((-1), M6))
  else (bd (p6_isOf a1 a2 M6) (fun r11 M10 => if r11 = 0 then (bd (p6_find 3 M10) (fun r49 M48 => some (r49, M48)))
  else (if a2 = 1 then (bd (p6_loansTo a1 M10) (fun r16 M15 => some (r16, M15)))
  else (if a2 = 2 then (bd (p6_dueTo a1 1 M10) (fun r20 M19 => bd (p6_dueTo a1 0 M19) (fun r23 M22 => some (r20 - r23, M22))))
  else (if a2 = 3 then (bd (p6_heldBy a1 M10) (fun r27 M26 => bd (p6_bits r27 M26) (fun r30 M29 => some (r30, M29))))
  else (if a2 = 4 then (bd (p6_loansTo a1 M10) (fun r34 M33 => bd (p6_dueTo a1 0 M33) (fun r37 M36 => some (r34 - r37, M36))))
  else (bd (p6_heldBy a1 M10) (fun r40 M39 => bd (p6_canNow M39) (fun r43 M42 => bd (p6_bits (r40 &&& r43) M42) (fun r46 M45 => some (r46, M45))))))))))))))
set_option maxHeartbeats 4000000 in
set_option maxRecDepth 100000 in
theorem c6_mark {l : Launch} {G : XG} {r : Int32} {M' : SX} {M : SX} (a1 : Int32) (a2 : Int32) (hf : p6_mark a1 a2 M = some (r, M')) : Met l yX6_mark (.code yX6_mark cX6_mark 3 (some .int) :: TBL) (rmX 3) (xPc G ZY M [.ref (G.2.1 0), .int a1, .int a2]) (xQi G ZY r M') 0 0 (inA G ZY) := by
  refine x_met (cc := cX6_mark) (by decide) (Nat.le_of_ble_eq_true rfl) ?_
  intro p e s m below meth c ls F hr hk hl hw
  have F : Fx G ZY p m c cX6_mark 3 s [.ref (G.2.1 0), .int a1, .int a2].toArray RX6 := F
  have hl : lv_has ls 3 [(0, .ref (G.2.1 0)), (1, .int a1), (2, .int a2)] := hl
  have hx := F.1.1
  have hb := F.1.2.1
  unfold p6_mark at hf
  refine lv_aload_n hx hb dX6_mark_0 rfl (lv_at hl 0 rfl) ?_
  refine lv_iload_n hx hb dX6_mark_1 rfl (lv_at hl 1 rfl) ?_
  obtain ⟨r3, M2, hc1, hf⟩ := bd_some hf
  refine x_aftI hw (x_runV (rest := []) F hw hl.1 vw_RX6_152 (sM) rfl (c6_isShop a1 hc1) rfl rfl (Nat.le_of_ble_eq_true rfl) ⟨Nat.le_of_ble_eq_true rfl, Nat.le_of_ble_eq_true rfl⟩ dX6_mark_2) (fun H locs hw => ?_)
  refine lv_if_eq (tgt := 20) hx hb dX6_mark_5 (by decide) (fun c4 => ?_) (fun c4 => ?_)
  · have hf := it_t hf c4
    refine lv_iconst (v := (-1)) hx hb dX6_mark_20 (by decide) ?_
    exact x_iret F hw hr hk hf dX6_mark_21
  · have hf := it_f hf c4
    refine lv_iload_n hx hb dX6_mark_8 rfl (lv_at hl 2 rfl) ?_
    refine lv_i2l (v := Int32.toInt64 a2) hx hb dX6_mark_9 rfl ?_
    refine lv_lconst (v := 1) hx hb dX6_mark_10 (by decide) ?_
    refine lv_ldc2 (v := 5) hx hb F.1.2.2.2.1 (F.1.2.2.2.2 _ tw_616) dX6_mark_11 ?_
    obtain ⟨r7, M6, hc5, hf⟩ := bd_some hf
    refine x_aftI hw (x_runS (rest := []) F hw hl.1 sw_RX6_69 (c6_in (Int32.toInt64 a2) 1 5 hc5) rfl rfl (Nat.le_of_ble_eq_true rfl) ⟨Nat.le_of_ble_eq_true rfl, Nat.le_of_ble_eq_true rfl⟩ dX6_mark_14) (fun H locs hw => ?_)
    refine lv_if_ne (tgt := 22) hx hb dX6_mark_17 (by decide) (fun c8 => ?_) (fun c8 => ?_)
    · have hf := it_f hf c8
      refine lv_aload_n hx hb dX6_mark_22 rfl (lv_at hl 0 rfl) ?_
      refine lv_iload_n hx hb dX6_mark_23 rfl (lv_at hl 1 rfl) ?_
      refine lv_iload_n hx hb dX6_mark_24 rfl (lv_at hl 2 rfl) ?_
      obtain ⟨r11, M10, hc9, hf⟩ := bd_some hf
      refine x_aftI hw (x_runV (rest := []) F hw hl.1 vw_RX6_160 (sM) rfl (c6_isOf a1 a2 hc9) rfl rfl (Nat.le_of_ble_eq_true rfl) ⟨Nat.le_of_ble_eq_true rfl, Nat.le_of_ble_eq_true rfl⟩ dX6_mark_25) (fun H locs hw => ?_)
      refine lv_if_ne (tgt := 37) hx hb dX6_mark_28 (by decide) (fun c12 => ?_) (fun c12 => ?_)
      · have hf := it_f hf c12
        refine lv_iload_n hx hb dX6_mark_37 rfl (lv_at hl 2 rfl) ?_
        by_cases c13 : a2 = 1
        · have hf := it_t hf c13
          refine lv_tableIn (tgt := 68) hx hb dX6_mark_38 (by rw [c13]; decide) (by rw [c13]; decide) (by rw [c13]; rfl) (by decide) ?_
          refine lv_aload_n hx hb dX6_mark_68 rfl (lv_at hl 0 rfl) ?_
          refine lv_iload_n hx hb dX6_mark_69 rfl (lv_at hl 1 rfl) ?_
          obtain ⟨r16, M15, hc14, hf⟩ := bd_some hf
          refine x_aftI hw (x_runV (rest := []) F hw hl.1 vw_RX6_164 (sM) rfl (c6_loansTo a1 hc14) rfl rfl (Nat.le_of_ble_eq_true rfl) ⟨Nat.le_of_ble_eq_true rfl, Nat.le_of_ble_eq_true rfl⟩ dX6_mark_70) (fun H locs hw => ?_)
          exact x_iret F hw hr hk hf dX6_mark_73
        · have hf := it_f hf c13
          by_cases c17 : a2 = 2
          · have hf := it_t hf c17
            refine lv_tableIn (tgt := 74) hx hb dX6_mark_38 (by rw [c17]; decide) (by rw [c17]; decide) (by rw [c17]; rfl) (by decide) ?_
            refine lv_aload_n hx hb dX6_mark_74 rfl (lv_at hl 0 rfl) ?_
            refine lv_iload_n hx hb dX6_mark_75 rfl (lv_at hl 1 rfl) ?_
            refine lv_iconst (v := 1) hx hb dX6_mark_76 (by decide) ?_
            obtain ⟨r20, M19, hc18, hf⟩ := bd_some hf
            refine x_aftI hw (x_runV (rest := []) F hw hl.1 vw_RX6_167 (sM) rfl (c6_dueTo a1 1 hc18) rfl rfl (Nat.le_of_ble_eq_true rfl) ⟨Nat.le_of_ble_eq_true rfl, Nat.le_of_ble_eq_true rfl⟩ dX6_mark_77) (fun H locs hw => ?_)
            refine lv_aload_n hx hb dX6_mark_80 rfl (lv_at hl 0 rfl) ?_
            refine lv_iload_n hx hb dX6_mark_81 rfl (lv_at hl 1 rfl) ?_
            refine lv_iconst (v := 0) hx hb dX6_mark_82 (by decide) ?_
            obtain ⟨r23, M22, hc21, hf⟩ := bd_some hf
            refine x_aftI hw (x_runV (rest := [.int r20]) F hw hl.1 vw_RX6_167 (sM) rfl (c6_dueTo a1 0 hc21) rfl rfl (Nat.le_of_ble_eq_true rfl) ⟨Nat.le_of_ble_eq_true rfl, Nat.le_of_ble_eq_true rfl⟩ dX6_mark_83) (fun H locs hw => ?_)
            refine lv_isub hx hb dX6_mark_86 ?_
            exact x_iret F hw hr hk hf dX6_mark_87
          · have hf := it_f hf c17
            by_cases c24 : a2 = 3
            · have hf := it_t hf c24
              refine lv_tableIn (tgt := 88) hx hb dX6_mark_38 (by rw [c24]; decide) (by rw [c24]; decide) (by rw [c24]; rfl) (by decide) ?_
              refine lv_aload_n hx hb dX6_mark_88 rfl (lv_at hl 0 rfl) ?_
              refine lv_iload_n hx hb dX6_mark_89 rfl (lv_at hl 1 rfl) ?_
              obtain ⟨r27, M26, hc25, hf⟩ := bd_some hf
              refine x_aftI hw (x_runV (rest := []) F hw hl.1 vw_RX6_149 (sM) rfl (c6_heldBy a1 hc25) rfl rfl (Nat.le_of_ble_eq_true rfl) ⟨Nat.le_of_ble_eq_true rfl, Nat.le_of_ble_eq_true rfl⟩ dX6_mark_90) (fun H locs hw => ?_)
              obtain ⟨r30, M29, hc28, hf⟩ := bd_some hf
              refine x_aftI hw (x_runS (rest := []) F hw hl.1 sw_RX6_170 (c6_bits r27 hc28) rfl rfl (Nat.le_of_ble_eq_true rfl) ⟨Nat.le_of_ble_eq_true rfl, Nat.le_of_ble_eq_true rfl⟩ dX6_mark_93) (fun H locs hw => ?_)
              exact x_iret F hw hr hk hf dX6_mark_96
            · have hf := it_f hf c24
              by_cases c31 : a2 = 4
              · have hf := it_t hf c31
                refine lv_tableIn (tgt := 97) hx hb dX6_mark_38 (by rw [c31]; decide) (by rw [c31]; decide) (by rw [c31]; rfl) (by decide) ?_
                refine lv_aload_n hx hb dX6_mark_97 rfl (lv_at hl 0 rfl) ?_
                refine lv_iload_n hx hb dX6_mark_98 rfl (lv_at hl 1 rfl) ?_
                obtain ⟨r34, M33, hc32, hf⟩ := bd_some hf
                refine x_aftI hw (x_runV (rest := []) F hw hl.1 vw_RX6_164 (sM) rfl (c6_loansTo a1 hc32) rfl rfl (Nat.le_of_ble_eq_true rfl) ⟨Nat.le_of_ble_eq_true rfl, Nat.le_of_ble_eq_true rfl⟩ dX6_mark_99) (fun H locs hw => ?_)
                refine lv_aload_n hx hb dX6_mark_102 rfl (lv_at hl 0 rfl) ?_
                refine lv_iload_n hx hb dX6_mark_103 rfl (lv_at hl 1 rfl) ?_
                refine lv_iconst (v := 0) hx hb dX6_mark_104 (by decide) ?_
                obtain ⟨r37, M36, hc35, hf⟩ := bd_some hf
                refine x_aftI hw (x_runV (rest := [.int r34]) F hw hl.1 vw_RX6_167 (sM) rfl (c6_dueTo a1 0 hc35) rfl rfl (Nat.le_of_ble_eq_true rfl) ⟨Nat.le_of_ble_eq_true rfl, Nat.le_of_ble_eq_true rfl⟩ dX6_mark_105) (fun H locs hw => ?_)
                refine lv_isub hx hb dX6_mark_108 ?_
                exact x_iret F hw hr hk hf dX6_mark_109
              · have hf := it_f hf c31
                have nc13 := x_ne (k := 1) (1) rfl c13
                have nc17 := x_ne (k := 2) (2) rfl c17
                have nc24 := x_ne (k := 3) (3) rfl c24
                have nc31 := x_ne (k := 4) (4) rfl c31
                refine lv_tableOut (tgt := 110) hx hb dX6_mark_38 (by omega) (by decide) ?_
                refine lv_aload_n hx hb dX6_mark_110 rfl (lv_at hl 0 rfl) ?_
                refine lv_iload_n hx hb dX6_mark_111 rfl (lv_at hl 1 rfl) ?_
                obtain ⟨r40, M39, hc38, hf⟩ := bd_some hf
                refine x_aftI hw (x_runV (rest := []) F hw hl.1 vw_RX6_149 (sM) rfl (c6_heldBy a1 hc38) rfl rfl (Nat.le_of_ble_eq_true rfl) ⟨Nat.le_of_ble_eq_true rfl, Nat.le_of_ble_eq_true rfl⟩ dX6_mark_112) (fun H locs hw => ?_)
                refine lv_aload_n hx hb dX6_mark_115 rfl (lv_at hl 0 rfl) ?_
                obtain ⟨r43, M42, hc41, hf⟩ := bd_some hf
                refine x_aftI hw (x_runV (rest := [.int r40]) F hw hl.1 vw_RX6_173 (sM) rfl (c6_canNow hc41) rfl rfl (Nat.le_of_ble_eq_true rfl) ⟨Nat.le_of_ble_eq_true rfl, Nat.le_of_ble_eq_true rfl⟩ dX6_mark_116) (fun H locs hw => ?_)
                refine lv_iand hx hb dX6_mark_119 ?_
                obtain ⟨r46, M45, hc44, hf⟩ := bd_some hf
                refine x_aftI hw (x_runS (rest := []) F hw hl.1 sw_RX6_170 (c6_bits (r40 &&& r43) hc44) rfl rfl (Nat.le_of_ble_eq_true rfl) ⟨Nat.le_of_ble_eq_true rfl, Nat.le_of_ble_eq_true rfl⟩ dX6_mark_120) (fun H locs hw => ?_)
                exact x_iret F hw hr hk hf dX6_mark_123
      · have hf := it_t hf c12
        refine lv_aload_n hx hb dX6_mark_31 rfl (lv_at hl 0 rfl) ?_
        refine lv_iconst (v := 3) hx hb dX6_mark_32 (by decide) ?_
        obtain ⟨r49, M48, hc47, hf⟩ := bd_some hf
        refine x_aftI hw (x_runV (rest := []) F hw hl.1 vw_RX6_79 (sM) rfl (c6_find 3 hc47) rfl rfl (Nat.le_of_ble_eq_true rfl) ⟨Nat.le_of_ble_eq_true rfl, Nat.le_of_ble_eq_true rfl⟩ dX6_mark_33) (fun H locs hw => ?_)
        exact x_iret F hw hr hk hf dX6_mark_36
    · have hf := it_t hf c8
      refine lv_iconst (v := (-1)) hx hb dX6_mark_20 (by decide) ?_
      exact x_iret F hw hr hk hf dX6_mark_21
theorem dX6_redeem_0 : decode cX6_redeem 0 = .ok (.aload_n 0, 1) := by decide +kernel
theorem dX6_redeem_1 : decode cX6_redeem 1 = .ok (.iload_n 1, 1) := by decide +kernel
theorem dX6_redeem_2 : decode cX6_redeem 2 = .ok (.invokevirtual 152, 3) := by decide +kernel
theorem dX6_redeem_5 : decode cX6_redeem 5 = .ok (.ifCond .ne 5, 3) := by decide +kernel
theorem dX6_redeem_8 : decode cX6_redeem 8 = .ok (.iconst (-1), 1) := by decide +kernel
theorem dX6_redeem_9 : decode cX6_redeem 9 = .ok (.ireturn, 1) := by decide +kernel
theorem dX6_redeem_10 : decode cX6_redeem 10 = .ok (.aload_n 0, 1) := by decide +kernel
theorem dX6_redeem_11 : decode cX6_redeem 11 = .ok (.invokevirtual 173, 3) := by decide +kernel
theorem dX6_redeem_14 : decode cX6_redeem 14 = .ok (.iload_n 1, 1) := by decide +kernel
theorem dX6_redeem_15 : decode cX6_redeem 15 = .ok (.invokestatic 181, 3) := by decide +kernel
theorem dX6_redeem_18 : decode cX6_redeem 18 = .ok (.ifCond .ne 6, 3) := by decide +kernel
theorem dX6_redeem_21 : decode cX6_redeem 21 = .ok (.bipush (-4), 2) := by decide +kernel
theorem dX6_redeem_23 : decode cX6_redeem 23 = .ok (.ireturn, 1) := by decide +kernel
theorem dX6_redeem_24 : decode cX6_redeem 24 = .ok (.aload_n 0, 1) := by decide +kernel
theorem dX6_redeem_25 : decode cX6_redeem 25 = .ok (.getfield 7, 3) := by decide +kernel
theorem dX6_redeem_28 : decode cX6_redeem 28 = .ok (.iconst 0, 1) := by decide +kernel
theorem dX6_redeem_29 : decode cX6_redeem 29 = .ok (.iaload, 1) := by decide +kernel
theorem dX6_redeem_30 : decode cX6_redeem 30 = .ok (.bipush 40, 2) := by decide +kernel
theorem dX6_redeem_32 : decode cX6_redeem 32 = .ok (.if_icmp .ne 8, 3) := by decide +kernel
theorem dX6_redeem_35 : decode cX6_redeem 35 = .ok (.bipush (-2), 2) := by decide +kernel
theorem dX6_redeem_37 : decode cX6_redeem 37 = .ok (.goto 8, 3) := by decide +kernel
theorem dX6_redeem_40 : decode cX6_redeem 40 = .ok (.aload_n 0, 1) := by decide +kernel
theorem dX6_redeem_41 : decode cX6_redeem 41 = .ok (.iload_n 1, 1) := by decide +kernel
theorem dX6_redeem_42 : decode cX6_redeem 42 = .ok (.invokevirtual 184, 3) := by decide +kernel
theorem dX6_redeem_45 : decode cX6_redeem 45 = .ok (.ireturn, 1) := by decide +kernel
def p6_redeem (a1 : Int32) (M : SX) : Option (Int32 × SX) :=
  bd (p6_isShop a1 M) (fun r3 M2 => if r3 = 0 then (some ((-1), M2))
  else (bd (p6_canNow M2) (fun r7 M6 => bd (p6_has r7 a1 M6) (fun r10 M9 => if r10 = 0 then (some ((-4), M9))
  else (gd (bIn 0 3964) ( if (M9.1 1 (Int32.toNatClampNeg 0)) = (40 : Int32) then (some ((-2), M9))
  else (bd (p6_doRedeem a1 M9) (fun r16 M15 => some (r16, M15)))))))))
set_option maxHeartbeats 4000000 in
set_option maxRecDepth 100000 in
theorem c6_redeem {l : Launch} {G : XG} {r : Int32} {M' : SX} {M : SX} (a1 : Int32) (hf : p6_redeem a1 M = some (r, M')) : Met l yX6_redeem (.code yX6_redeem cX6_redeem 2 (some .int) :: TBL) (rmX 3) (xPc G ZY M [.ref (G.2.1 0), .int a1]) (xQi G ZY r M') 0 0 (inA G ZY) := by
  refine x_met (cc := cX6_redeem) (by decide) (Nat.le_of_ble_eq_true rfl) ?_
  intro p e s m below meth c ls F hr hk hl hw
  have F : Fx G ZY p m c cX6_redeem 2 s [.ref (G.2.1 0), .int a1].toArray RX6 := F
  have hl : lv_has ls 2 [(0, .ref (G.2.1 0)), (1, .int a1)] := hl
  have hx := F.1.1
  have hb := F.1.2.1
  unfold p6_redeem at hf
  refine lv_aload_n hx hb dX6_redeem_0 rfl (lv_at hl 0 rfl) ?_
  refine lv_iload_n hx hb dX6_redeem_1 rfl (lv_at hl 1 rfl) ?_
  obtain ⟨r3, M2, hc1, hf⟩ := bd_some hf
  refine x_aftI hw (x_runV (rest := []) F hw hl.1 vw_RX6_152 (sM) rfl (c6_isShop a1 hc1) rfl rfl (Nat.le_of_ble_eq_true rfl) ⟨Nat.le_of_ble_eq_true rfl, Nat.le_of_ble_eq_true rfl⟩ dX6_redeem_2) (fun H locs hw => ?_)
  refine lv_if_ne (tgt := 10) hx hb dX6_redeem_5 (by decide) (fun c4 => ?_) (fun c4 => ?_)
  · have hf := it_f hf c4
    refine lv_aload_n hx hb dX6_redeem_10 rfl (lv_at hl 0 rfl) ?_
    obtain ⟨r7, M6, hc5, hf⟩ := bd_some hf
    refine x_aftI hw (x_runV (rest := []) F hw hl.1 vw_RX6_173 (sM) rfl (c6_canNow hc5) rfl rfl (Nat.le_of_ble_eq_true rfl) ⟨Nat.le_of_ble_eq_true rfl, Nat.le_of_ble_eq_true rfl⟩ dX6_redeem_11) (fun H locs hw => ?_)
    refine lv_iload_n hx hb dX6_redeem_14 rfl (lv_at hl 1 rfl) ?_
    obtain ⟨r10, M9, hc8, hf⟩ := bd_some hf
    refine x_aftI hw (x_runS (rest := []) F hw hl.1 sw_RX6_181 (c6_has r7 a1 hc8) rfl rfl (Nat.le_of_ble_eq_true rfl) ⟨Nat.le_of_ble_eq_true rfl, Nat.le_of_ble_eq_true rfl⟩ dX6_redeem_15) (fun H locs hw => ?_)
    refine lv_if_ne (tgt := 24) hx hb dX6_redeem_18 (by decide) (fun c11 => ?_) (fun c11 => ?_)
    · have hf := it_f hf c11
      refine lv_aload_n hx hb dX6_redeem_24 rfl (lv_at hl 0 rfl) ?_
      refine g6_0 F hw tw_610 dX6_redeem_25 ?_
      refine lv_iconst (v := 0) hx hb dX6_redeem_28 (by decide) ?_
      obtain ⟨g12, hf⟩ := gd_some hf
      refine x_iald F hw sM1 g12 dX6_redeem_29 ?_
      refine lv_bipush (v := 40) hx hb dX6_redeem_30 (by decide) ?_
      refine lv_icmp_ne (tgt := 40) hx hb dX6_redeem_32 (by decide) (fun c13 => ?_) (fun c13 => ?_)
      · have hf := it_f hf c13
        refine lv_aload_n hx hb dX6_redeem_40 rfl (lv_at hl 0 rfl) ?_
        refine lv_iload_n hx hb dX6_redeem_41 rfl (lv_at hl 1 rfl) ?_
        obtain ⟨r16, M15, hc14, hf⟩ := bd_some hf
        refine x_aftI hw (x_runV (rest := []) F hw hl.1 vw_RX6_184 (sM) rfl (c6_doRedeem a1 hc14) rfl rfl (Nat.le_of_ble_eq_true rfl) ⟨Nat.le_of_ble_eq_true rfl, Nat.le_of_ble_eq_true rfl⟩ dX6_redeem_42) (fun H locs hw => ?_)
        exact x_iret F hw hr hk hf dX6_redeem_45
      · have hf := it_t hf c13
        refine lv_bipush (v := (-2)) hx hb dX6_redeem_35 (by decide) ?_
        refine lv_goto (tgt := 45) hx hb dX6_redeem_37 (by decide) ?_
        exact x_iret F hw hr hk hf dX6_redeem_45
    · have hf := it_t hf c11
      refine lv_bipush (v := (-4)) hx hb dX6_redeem_21 (by decide) ?_
      exact x_iret F hw hr hk hf dX6_redeem_23
  · have hf := it_t hf c4
    refine lv_iconst (v := (-1)) hx hb dX6_redeem_8 (by decide) ?_
    exact x_iret F hw hr hk hf dX6_redeem_9
theorem dX6_week_0 : decode cX6_week 0 = .ok (.aload_n 0, 1) := by decide +kernel
theorem dX6_week_1 : decode cX6_week 1 = .ok (.getfield 140, 3) := by decide +kernel
theorem dX6_week_4 : decode cX6_week 4 = .ok (.ifCond .eq 10, 3) := by decide +kernel
theorem dX6_week_7 : decode cX6_week 7 = .ok (.aload_n 0, 1) := by decide +kernel
theorem dX6_week_8 : decode cX6_week 8 = .ok (.invokevirtual 194, 3) := by decide +kernel
theorem dX6_week_11 : decode cX6_week 11 = .ok (.ifCond .eq 6, 3) := by decide +kernel
theorem dX6_week_14 : decode cX6_week 14 = .ok (.bipush (-4), 2) := by decide +kernel
theorem dX6_week_16 : decode cX6_week 16 = .ok (.ireturn, 1) := by decide +kernel
theorem dX6_week_17 : decode cX6_week 17 = .ok (.aload_n 0, 1) := by decide +kernel
theorem dX6_week_18 : decode cX6_week 18 = .ok (.getfield 7, 3) := by decide +kernel
theorem dX6_week_21 : decode cX6_week 21 = .ok (.iconst 0, 1) := by decide +kernel
theorem dX6_week_22 : decode cX6_week 22 = .ok (.iaload, 1) := by decide +kernel
theorem dX6_week_23 : decode cX6_week 23 = .ok (.bipush 40, 2) := by decide +kernel
theorem dX6_week_25 : decode cX6_week 25 = .ok (.if_icmp .ne 6, 3) := by decide +kernel
theorem dX6_week_28 : decode cX6_week 28 = .ok (.bipush (-2), 2) := by decide +kernel
theorem dX6_week_30 : decode cX6_week 30 = .ok (.ireturn, 1) := by decide +kernel
theorem dX6_week_31 : decode cX6_week 31 = .ok (.aload_n 0, 1) := by decide +kernel
theorem dX6_week_32 : decode cX6_week 32 = .ok (.invokevirtual 197, 3) := by decide +kernel
theorem dX6_week_35 : decode cX6_week 35 = .ok (.aload_n 0, 1) := by decide +kernel
theorem dX6_week_36 : decode cX6_week 36 = .ok (.invokevirtual 200, 3) := by decide +kernel
theorem dX6_week_39 : decode cX6_week 39 = .ok (.ireturn, 1) := by decide +kernel
def p6_week (M : SX) : Option (Int32 × SX) :=
  if (M.1 0 1) = 0 then (some ((-4), M))
  else (bd (p6_isOld M) (fun r4 M3 => if r4 = 0 then (gd (bIn 0 3964) ( if (M3.1 1 (Int32.toNatClampNeg 0)) = (40 : Int32) then (some ((-2), M3))
  else (bv (p6_doWeek M3) (fun M9 => bd (p6_dueInAll M9) (fun r12 M11 => some (r12, M11))))))
  else (some ((-4), M3))))
set_option maxHeartbeats 4000000 in
set_option maxRecDepth 100000 in
theorem c6_week {l : Launch} {G : XG} {r : Int32} {M' : SX} {M : SX} (hf : p6_week M = some (r, M')) : Met l yX6_week (.code yX6_week cX6_week 1 (some .int) :: TBL) (rmX 3) (xPc G ZY M [.ref (G.2.1 0)]) (xQi G ZY r M') 0 0 (inA G ZY) := by
  refine x_met (cc := cX6_week) (by decide) (Nat.le_of_ble_eq_true rfl) ?_
  intro p e s m below meth c ls F hr hk hl hw
  have F : Fx G ZY p m c cX6_week 1 s [.ref (G.2.1 0)].toArray RX6 := F
  have hl : lv_has ls 1 [(0, .ref (G.2.1 0))] := hl
  have hx := F.1.1
  have hb := F.1.2.1
  unfold p6_week at hf
  refine lv_aload_n hx hb dX6_week_0 rfl (lv_at hl 0 rfl) ?_
  refine g6_1 F hw tw_611 dX6_week_1 ?_
  refine lv_if_eq (tgt := 14) hx hb dX6_week_4 (by decide) (fun c1 => ?_) (fun c1 => ?_)
  · have hf := it_t hf c1
    refine lv_bipush (v := (-4)) hx hb dX6_week_14 (by decide) ?_
    exact x_iret F hw hr hk hf dX6_week_16
  · have hf := it_f hf c1
    refine lv_aload_n hx hb dX6_week_7 rfl (lv_at hl 0 rfl) ?_
    obtain ⟨r4, M3, hc2, hf⟩ := bd_some hf
    refine x_aftI hw (x_runV (rest := []) F hw hl.1 vw_RX6_194 (sM) rfl (c6_isOld hc2) rfl rfl (Nat.le_of_ble_eq_true rfl) ⟨Nat.le_of_ble_eq_true rfl, Nat.le_of_ble_eq_true rfl⟩ dX6_week_8) (fun H locs hw => ?_)
    refine lv_if_eq (tgt := 17) hx hb dX6_week_11 (by decide) (fun c5 => ?_) (fun c5 => ?_)
    · have hf := it_t hf c5
      refine lv_aload_n hx hb dX6_week_17 rfl (lv_at hl 0 rfl) ?_
      refine g6_0 F hw tw_610 dX6_week_18 ?_
      refine lv_iconst (v := 0) hx hb dX6_week_21 (by decide) ?_
      obtain ⟨g6, hf⟩ := gd_some hf
      refine x_iald F hw sM1 g6 dX6_week_22 ?_
      refine lv_bipush (v := 40) hx hb dX6_week_23 (by decide) ?_
      refine lv_icmp_ne (tgt := 31) hx hb dX6_week_25 (by decide) (fun c7 => ?_) (fun c7 => ?_)
      · have hf := it_f hf c7
        refine lv_aload_n hx hb dX6_week_31 rfl (lv_at hl 0 rfl) ?_
        obtain ⟨M9, hc8, hf⟩ := bv_some hf
        refine x_aftV hw (x_runV (rest := []) F hw hl.1 vw_RX6_197 (sM) rfl (c6_doWeek hc8) rfl rfl (Nat.le_of_ble_eq_true rfl) ⟨Nat.le_of_ble_eq_true rfl, Nat.le_of_ble_eq_true rfl⟩ dX6_week_32) (fun H locs hw => ?_)
        refine lv_aload_n hx hb dX6_week_35 rfl (lv_at hl 0 rfl) ?_
        obtain ⟨r12, M11, hc10, hf⟩ := bd_some hf
        refine x_aftI hw (x_runV (rest := []) F hw hl.1 vw_RX6_200 (sM) rfl (c6_dueInAll hc10) rfl rfl (Nat.le_of_ble_eq_true rfl) ⟨Nat.le_of_ble_eq_true rfl, Nat.le_of_ble_eq_true rfl⟩ dX6_week_36) (fun H locs hw => ?_)
        exact x_iret F hw hr hk hf dX6_week_39
      · have hf := it_t hf c7
        refine lv_bipush (v := (-2)) hx hb dX6_week_28 (by decide) ?_
        exact x_iret F hw hr hk hf dX6_week_30
    · have hf := it_f hf c5
      refine lv_bipush (v := (-4)) hx hb dX6_week_14 (by decide) ?_
      exact x_iret F hw hr hk hf dX6_week_16
theorem dX6_worth_0 : decode cX6_worth 0 = .ok (.aload_n 0, 1) := by decide +kernel
theorem dX6_worth_1 : decode cX6_worth 1 = .ok (.iload_n 1, 1) := by decide +kernel
theorem dX6_worth_2 : decode cX6_worth 2 = .ok (.invokevirtual 152, 3) := by decide +kernel
theorem dX6_worth_5 : decode cX6_worth 5 = .ok (.ifCond .eq 42, 3) := by decide +kernel
theorem dX6_worth_8 : decode cX6_worth 8 = .ok (.sipush 1000, 3) := by decide +kernel
theorem dX6_worth_11 : decode cX6_worth 11 = .ok (.aload_n 0, 1) := by decide +kernel
theorem dX6_worth_12 : decode cX6_worth 12 = .ok (.getfield 7, 3) := by decide +kernel
theorem dX6_worth_15 : decode cX6_worth 15 = .ok (.iconst 1, 1) := by decide +kernel
theorem dX6_worth_16 : decode cX6_worth 16 = .ok (.iload_n 1, 1) := by decide +kernel
theorem dX6_worth_17 : decode cX6_worth 17 = .ok (.iadd, 1) := by decide +kernel
theorem dX6_worth_18 : decode cX6_worth 18 = .ok (.iaload, 1) := by decide +kernel
theorem dX6_worth_19 : decode cX6_worth 19 = .ok (.iadd, 1) := by decide +kernel
theorem dX6_worth_20 : decode cX6_worth 20 = .ok (.aload_n 0, 1) := by decide +kernel
theorem dX6_worth_21 : decode cX6_worth 21 = .ok (.getfield 7, 3) := by decide +kernel
theorem dX6_worth_24 : decode cX6_worth 24 = .ok (.bipush 25, 2) := by decide +kernel
theorem dX6_worth_26 : decode cX6_worth 26 = .ok (.iload_n 1, 1) := by decide +kernel
theorem dX6_worth_27 : decode cX6_worth 27 = .ok (.iadd, 1) := by decide +kernel
theorem dX6_worth_28 : decode cX6_worth 28 = .ok (.iaload, 1) := by decide +kernel
theorem dX6_worth_29 : decode cX6_worth 29 = .ok (.iadd, 1) := by decide +kernel
theorem dX6_worth_30 : decode cX6_worth 30 = .ok (.aload_n 0, 1) := by decide +kernel
theorem dX6_worth_31 : decode cX6_worth 31 = .ok (.iload_n 1, 1) := by decide +kernel
theorem dX6_worth_32 : decode cX6_worth 32 = .ok (.iconst 0, 1) := by decide +kernel
theorem dX6_worth_33 : decode cX6_worth 33 = .ok (.invokevirtual 167, 3) := by decide +kernel
theorem dX6_worth_36 : decode cX6_worth 36 = .ok (.iadd, 1) := by decide +kernel
theorem dX6_worth_37 : decode cX6_worth 37 = .ok (.aload_n 0, 1) := by decide +kernel
theorem dX6_worth_38 : decode cX6_worth 38 = .ok (.iload_n 1, 1) := by decide +kernel
theorem dX6_worth_39 : decode cX6_worth 39 = .ok (.iconst 0, 1) := by decide +kernel
theorem dX6_worth_40 : decode cX6_worth 40 = .ok (.invokevirtual 146, 3) := by decide +kernel
theorem dX6_worth_43 : decode cX6_worth 43 = .ok (.isub, 1) := by decide +kernel
theorem dX6_worth_44 : decode cX6_worth 44 = .ok (.goto 4, 3) := by decide +kernel
theorem dX6_worth_47 : decode cX6_worth 47 = .ok (.iconst (-1), 1) := by decide +kernel
theorem dX6_worth_48 : decode cX6_worth 48 = .ok (.ireturn, 1) := by decide +kernel
def p6_worth (a1 : Int32) (M : SX) : Option (Int32 × SX) :=
  bd (p6_isShop a1 M) (fun r3 M2 => if r3 = 0 then (some ((-1), M2))
  else (gd (bIn (1 + a1) 3964) ( gd (bIn (25 + a1) 3964) ( bd (p6_dueTo a1 0 M2) (fun r9 M8 => bd (p6_dueIn a1 0 M8) (fun r12 M11 => some ((((1000 + (M2.1 1 (Int32.toNatClampNeg (1 + a1)))) + (M2.1 1 (Int32.toNatClampNeg (25 + a1)))) + r9) - r12, M11)))))))
set_option maxHeartbeats 4000000 in
set_option maxRecDepth 100000 in
theorem c6_worth {l : Launch} {G : XG} {r : Int32} {M' : SX} {M : SX} (a1 : Int32) (hf : p6_worth a1 M = some (r, M')) : Met l yX6_worth (.code yX6_worth cX6_worth 2 (some .int) :: TBL) (rmX 3) (xPc G ZY M [.ref (G.2.1 0), .int a1]) (xQi G ZY r M') 0 0 (inA G ZY) := by
  refine x_met (cc := cX6_worth) (by decide) (Nat.le_of_ble_eq_true rfl) ?_
  intro p e s m below meth c ls F hr hk hl hw
  have F : Fx G ZY p m c cX6_worth 2 s [.ref (G.2.1 0), .int a1].toArray RX6 := F
  have hl : lv_has ls 2 [(0, .ref (G.2.1 0)), (1, .int a1)] := hl
  have hx := F.1.1
  have hb := F.1.2.1
  unfold p6_worth at hf
  refine lv_aload_n hx hb dX6_worth_0 rfl (lv_at hl 0 rfl) ?_
  refine lv_iload_n hx hb dX6_worth_1 rfl (lv_at hl 1 rfl) ?_
  obtain ⟨r3, M2, hc1, hf⟩ := bd_some hf
  refine x_aftI hw (x_runV (rest := []) F hw hl.1 vw_RX6_152 (sM) rfl (c6_isShop a1 hc1) rfl rfl (Nat.le_of_ble_eq_true rfl) ⟨Nat.le_of_ble_eq_true rfl, Nat.le_of_ble_eq_true rfl⟩ dX6_worth_2) (fun H locs hw => ?_)
  refine lv_if_eq (tgt := 47) hx hb dX6_worth_5 (by decide) (fun c4 => ?_) (fun c4 => ?_)
  · have hf := it_t hf c4
    refine lv_iconst (v := (-1)) hx hb dX6_worth_47 (by decide) ?_
    exact x_iret F hw hr hk hf dX6_worth_48
  · have hf := it_f hf c4
    refine lv_sipush (v := 1000) hx hb dX6_worth_8 (by decide) ?_
    refine lv_aload_n hx hb dX6_worth_11 rfl (lv_at hl 0 rfl) ?_
    refine g6_0 F hw tw_610 dX6_worth_12 ?_
    refine lv_iconst (v := 1) hx hb dX6_worth_15 (by decide) ?_
    refine lv_iload_n hx hb dX6_worth_16 rfl (lv_at hl 1 rfl) ?_
    refine lv_iadd hx hb dX6_worth_17 ?_
    obtain ⟨g5, hf⟩ := gd_some hf
    refine x_iald F hw sM1 g5 dX6_worth_18 ?_
    refine lv_iadd hx hb dX6_worth_19 ?_
    refine lv_aload_n hx hb dX6_worth_20 rfl (lv_at hl 0 rfl) ?_
    refine g6_0 F hw tw_610 dX6_worth_21 ?_
    refine lv_bipush (v := 25) hx hb dX6_worth_24 (by decide) ?_
    refine lv_iload_n hx hb dX6_worth_26 rfl (lv_at hl 1 rfl) ?_
    refine lv_iadd hx hb dX6_worth_27 ?_
    obtain ⟨g6, hf⟩ := gd_some hf
    refine x_iald F hw sM1 g6 dX6_worth_28 ?_
    refine lv_iadd hx hb dX6_worth_29 ?_
    refine lv_aload_n hx hb dX6_worth_30 rfl (lv_at hl 0 rfl) ?_
    refine lv_iload_n hx hb dX6_worth_31 rfl (lv_at hl 1 rfl) ?_
    refine lv_iconst (v := 0) hx hb dX6_worth_32 (by decide) ?_
    obtain ⟨r9, M8, hc7, hf⟩ := bd_some hf
    refine x_aftI hw (x_runV (rest := [.int ((1000 + (M2.1 1 (Int32.toNatClampNeg (1 + a1)))) + (M2.1 1 (Int32.toNatClampNeg (25 + a1))))]) F hw hl.1 vw_RX6_167 (sM) rfl (c6_dueTo a1 0 hc7) rfl rfl (Nat.le_of_ble_eq_true rfl) ⟨Nat.le_of_ble_eq_true rfl, Nat.le_of_ble_eq_true rfl⟩ dX6_worth_33) (fun H locs hw => ?_)
    refine lv_iadd hx hb dX6_worth_36 ?_
    refine lv_aload_n hx hb dX6_worth_37 rfl (lv_at hl 0 rfl) ?_
    refine lv_iload_n hx hb dX6_worth_38 rfl (lv_at hl 1 rfl) ?_
    refine lv_iconst (v := 0) hx hb dX6_worth_39 (by decide) ?_
    obtain ⟨r12, M11, hc10, hf⟩ := bd_some hf
    refine x_aftI hw (x_runV (rest := [.int (((1000 + (M2.1 1 (Int32.toNatClampNeg (1 + a1)))) + (M2.1 1 (Int32.toNatClampNeg (25 + a1)))) + r9)]) F hw hl.1 vw_RX6_146 (sM) rfl (c6_dueIn a1 0 hc10) rfl rfl (Nat.le_of_ble_eq_true rfl) ⟨Nat.le_of_ble_eq_true rfl, Nat.le_of_ble_eq_true rfl⟩ dX6_worth_40) (fun H locs hw => ?_)
    refine lv_isub hx hb dX6_worth_43 ?_
    refine lv_goto (tgt := 48) hx hb dX6_worth_44 (by decide) ?_
    exact x_iret F hw hr hk hf dX6_worth_48
