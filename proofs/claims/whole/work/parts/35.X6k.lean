theorem dX6_till_0 : decode cX6_till 0 = .ok (.aload_n 0, 1) := by decide +kernel
theorem dX6_till_1 : decode cX6_till 1 = .ok (.getfield 140, 3) := by decide +kernel
theorem dX6_till_4 : decode cX6_till 4 = .ok (.ifCond .ne 6, 3) := by decide +kernel
theorem dX6_till_7 : decode cX6_till 7 = .ok (.bipush (-4), 2) := by decide +kernel
theorem dX6_till_9 : decode cX6_till 9 = .ok (.ireturn, 1) := by decide +kernel
theorem dX6_till_10 : decode cX6_till 10 = .ok (.bipush 20, 2) := by decide +kernel
theorem dX6_till_12 : decode cX6_till 12 = .ok (.istore_n 1, 1) := by decide +kernel
theorem dX6_till_13 : decode cX6_till 13 = .ok (.iload_n 1, 1) := by decide +kernel
theorem dX6_till_14 : decode cX6_till 14 = .ok (.ifCond .lt 24, 3) := by decide +kernel
theorem dX6_till_17 : decode cX6_till 17 = .ok (.aload_n 0, 1) := by decide +kernel
theorem dX6_till_18 : decode cX6_till 18 = .ok (.iload_n 1, 1) := by decide +kernel
theorem dX6_till_19 : decode cX6_till 19 = .ok (.iconst 0, 1) := by decide +kernel
theorem dX6_till_20 : decode cX6_till 20 = .ok (.invokevirtual 231, 3) := by decide +kernel
theorem dX6_till_23 : decode cX6_till 23 = .ok (.aload_n 0, 1) := by decide +kernel
theorem dX6_till_24 : decode cX6_till 24 = .ok (.invokevirtual 244, 3) := by decide +kernel
theorem dX6_till_27 : decode cX6_till 27 = .ok (.ifCond .eq 5, 3) := by decide +kernel
theorem dX6_till_30 : decode cX6_till 30 = .ok (.iload_n 1, 1) := by decide +kernel
theorem dX6_till_31 : decode cX6_till 31 = .ok (.ireturn, 1) := by decide +kernel
theorem dX6_till_32 : decode cX6_till 32 = .ok (.iinc 1 (-1), 3) := by decide +kernel
theorem dX6_till_35 : decode cX6_till 35 = .ok (.goto (-22), 3) := by decide +kernel
theorem dX6_till_38 : decode cX6_till 38 = .ok (.bipush (-9), 2) := by decide +kernel
theorem dX6_till_40 : decode cX6_till 40 = .ok (.ireturn, 1) := by decide +kernel
def p6_till_13 (k13 : Int32 → SX → Option (Int32 × SX)) (v1 : Int32) (M : SX) : Option (Int32 × SX) :=
  if v1 < 0 then (some ((-9), M))
  else (bv (p6_layTried v1 0 M) (fun M3 => bd (p6_canAll M3) (fun r6 M5 => if r6 = 0 then (lt_ (v1 + (-1)) (fun x8 => k13 x8 M5))
  else (some (v1, M5)))))
set_option maxHeartbeats 4000000 in
set_option maxRecDepth 100000 in
theorem w6_till_13 {G : XG} {p : Program} {l : Launch} {e : Env} {s : State} {m : MethodId} {args : Array Value} {below : List Frame} {meth : Method} {c : Code} (F : Fx G ZY p m c cX6_till 2 s args RX6) (hr : meth.sig.returnType = some .int) (hk : meth.locks = false) {r : Int32} {M' : SX} (k13 : Int32 → SX → Option (Int32 × SX)) (hk13 : ∀ (v1 : Int32) (M : SX) (H : Heap) (locs : List Loc) (ls : Array Slot), Wld G ZY M s.heap H locs → lv_has ls 2 [(0, .ref (G.2.1 0)), (1, .int v1)] → k13 v1 M = some (r, M') → WXi G ZY p l e 5 s m args below meth c r M' H locs (F0 m 13 ls [])) : ∀ (v1 : Int32) (M : SX) (H : Heap) (locs : List Loc) (ls : Array Slot), Wld G ZY M s.heap H locs → lv_has ls 2 [(0, .ref (G.2.1 0)), (1, .int v1)] → p6_till_13 k13 v1 M = some (r, M') → WXi G ZY p l e 5 s m args below meth c r M' H locs (F0 m 13 ls []) := by
  intro v1 M H locs ls hw hl hf
  have hx := F.1.1
  have hb := F.1.2.1
  unfold p6_till_13 at hf
  refine lv_iload_n hx hb dX6_till_13 rfl (lv_at hl 1 rfl) ?_
  refine lv_if_lt (tgt := 38) hx hb dX6_till_14 (by decide) (fun c1 => ?_) (fun c1 => ?_)
  · have hf := it_t hf c1
    refine lv_bipush (v := (-9)) hx hb dX6_till_38 (by decide) ?_
    exact x_iret F hw hr hk hf dX6_till_40
  · have hf := it_f hf c1
    refine lv_aload_n hx hb dX6_till_17 rfl (lv_at hl 0 rfl) ?_
    refine lv_iload_n hx hb dX6_till_18 rfl (lv_at hl 1 rfl) ?_
    refine lv_iconst (v := 0) hx hb dX6_till_19 (by decide) ?_
    obtain ⟨M3, hc2, hf⟩ := bv_some hf
    refine x_aftV hw (x_runV (rest := []) F hw hl.1 vw_RX6_231 (sM) rfl (c6_layTried v1 0 hc2) rfl rfl (Nat.le_of_ble_eq_true rfl) ⟨Nat.le_of_ble_eq_true rfl, Nat.le_of_ble_eq_true rfl⟩ dX6_till_20) (fun H locs hw => ?_)
    refine lv_aload_n hx hb dX6_till_23 rfl (lv_at hl 0 rfl) ?_
    obtain ⟨r6, M5, hc4, hf⟩ := bd_some hf
    refine x_aftI hw (x_runV (rest := []) F hw hl.1 vw_RX6_244 (sM) rfl (c6_canAll hc4) rfl rfl (Nat.le_of_ble_eq_true rfl) ⟨Nat.le_of_ble_eq_true rfl, Nat.le_of_ble_eq_true rfl⟩ dX6_till_24) (fun H locs hw => ?_)
    refine lv_if_eq (tgt := 32) hx hb dX6_till_27 (by decide) (fun c7 => ?_) (fun c7 => ?_)
    · have hf := it_t hf c7
      obtain ⟨x8, ex8, hf⟩ := lt_elim hf
      refine lv_iinc (v := x8) (lv' := [(1, .int x8), (0, .ref (G.2.1 0))]) hx hb dX6_till_32 hl (k := 1) rfl (by rw [ex8]; rfl) (by decide) rfl (fun ls hl => ?_)
      refine lv_goto (tgt := 13) hx hb dX6_till_35 (by decide) ?_
      exact hk13 x8 M5 _ _ ls hw (lv_sub hl [1, 0] rfl) hf
    · have hf := it_f hf c7
      refine lv_iload_n hx hb dX6_till_30 rfl (lv_at hl 1 rfl) ?_
      exact x_iret F hw hr hk hf dX6_till_31
theorem z6_till_13 {G : XG} {p : Program} {l : Launch} {e : Env} {s : State} {m : MethodId} {args : Array Value} {below : List Frame} {meth : Method} {c : Code} (F : Fx G ZY p m c cX6_till 2 s args RX6) (hr : meth.sig.returnType = some .int) (hk : meth.locks = false) {r : Int32} {M' : SX} : ∀ n : Nat, ∀ (v1 : Int32) (M : SX) (H : Heap) (locs : List Loc) (ls : Array Slot), Wld G ZY M s.heap H locs → lv_has ls 2 [(0, .ref (G.2.1 0)), (1, .int v1)] → xlp1 p6_till_13 n v1 M = some (r, M') → WXi G ZY p l e 5 s m args below meth c r M' H locs (F0 m 13 ls []) := by
  intro n
  induction n with
  | zero => intro _ _ _ _ _ _ _ hf; cases hf
  | succ n ih => exact w6_till_13 F hr hk (xlp1 p6_till_13 n) ih
def p6_till (M : SX) : Option (Int32 × SX) :=
  if (M.1 0 1) = 0 then (some ((-4), M))
  else (xlp1 p6_till_13 FU 20 M)
set_option maxHeartbeats 4000000 in
set_option maxRecDepth 100000 in
theorem c6_till {l : Launch} {G : XG} {r : Int32} {M' : SX} {M : SX} (hf : p6_till M = some (r, M')) : Met l yX6_till (.code yX6_till cX6_till 2 (some .int) :: TBL) (rmX 5) (xPc G ZY M [.ref (G.2.1 0)]) (xQi G ZY r M') 0 0 (inA G ZY) := by
  refine x_met (cc := cX6_till) (by decide) (Nat.le_of_ble_eq_true rfl) ?_
  intro p e s m below meth c ls F hr hk hl hw
  have F : Fx G ZY p m c cX6_till 2 s [.ref (G.2.1 0)].toArray RX6 := F
  have hl : lv_has ls 2 [(0, .ref (G.2.1 0))] := hl
  have hx := F.1.1
  have hb := F.1.2.1
  unfold p6_till at hf
  refine lv_aload_n hx hb dX6_till_0 rfl (lv_at hl 0 rfl) ?_
  refine g6_1 F hw tw_611 dX6_till_1 ?_
  refine lv_if_ne (tgt := 10) hx hb dX6_till_4 (by decide) (fun c1 => ?_) (fun c1 => ?_)
  · have hf := it_f hf c1
    refine lv_bipush (v := 20) hx hb dX6_till_10 (by decide) ?_
    refine lv_istore_n (lv' := [(1, .int 20), (0, .ref (G.2.1 0))]) hx hb dX6_till_12 rfl hl (by decide) rfl (fun ls hl => ?_)
    exact z6_till_13 F hr hk FU 20 M _ _ ls hw (lv_sub hl [1, 0] rfl) hf
  · have hf := it_t hf c1
    refine lv_bipush (v := (-4)) hx hb dX6_till_7 (by decide) ?_
    exact x_iret F hw hr hk hf dX6_till_9
theorem dX6_odds_0 : decode cX6_odds 0 = .ok (.iload_n 1, 1) := by decide +kernel
theorem dX6_odds_1 : decode cX6_odds 1 = .ok (.i2l, 1) := by decide +kernel
theorem dX6_odds_2 : decode cX6_odds 2 = .ok (.lconst 0, 1) := by decide +kernel
theorem dX6_odds_3 : decode cX6_odds 3 = .ok (.ldc2_w 250, 3) := by decide +kernel
theorem dX6_odds_6 : decode cX6_odds 6 = .ok (.invokestatic 69, 3) := by decide +kernel
theorem dX6_odds_9 : decode cX6_odds 9 = .ok (.ifCond .ne 5, 3) := by decide +kernel
theorem dX6_odds_12 : decode cX6_odds 12 = .ok (.iconst (-1), 1) := by decide +kernel
theorem dX6_odds_13 : decode cX6_odds 13 = .ok (.ireturn, 1) := by decide +kernel
theorem dX6_odds_14 : decode cX6_odds 14 = .ok (.aload_n 0, 1) := by decide +kernel
theorem dX6_odds_15 : decode cX6_odds 15 = .ok (.getfield 140, 3) := by decide +kernel
theorem dX6_odds_18 : decode cX6_odds 18 = .ok (.ifCond .ne 6, 3) := by decide +kernel
theorem dX6_odds_21 : decode cX6_odds 21 = .ok (.bipush (-4), 2) := by decide +kernel
theorem dX6_odds_23 : decode cX6_odds 23 = .ok (.ireturn, 1) := by decide +kernel
theorem dX6_odds_24 : decode cX6_odds 24 = .ok (.aload_n 0, 1) := by decide +kernel
theorem dX6_odds_25 : decode cX6_odds 25 = .ok (.invokevirtual 191, 3) := by decide +kernel
theorem dX6_odds_28 : decode cX6_odds 28 = .ok (.istore_n 2, 1) := by decide +kernel
theorem dX6_odds_29 : decode cX6_odds 29 = .ok (.lconst 0, 1) := by decide +kernel
theorem dX6_odds_30 : decode cX6_odds 30 = .ok (.lstore_n 3, 1) := by decide +kernel
theorem dX6_odds_31 : decode cX6_odds 31 = .ok (.lconst 0, 1) := by decide +kernel
theorem dX6_odds_32 : decode cX6_odds 32 = .ok (.lstore 5, 2) := by decide +kernel
theorem dX6_odds_34 : decode cX6_odds 34 = .ok (.iconst 0, 1) := by decide +kernel
theorem dX6_odds_35 : decode cX6_odds 35 = .ok (.istore 7, 2) := by decide +kernel
theorem dX6_odds_37 : decode cX6_odds 37 = .ok (.iload 7, 2) := by decide +kernel
theorem dX6_odds_39 : decode cX6_odds 39 = .ok (.bipush 64, 2) := by decide +kernel
theorem dX6_odds_41 : decode cX6_odds 41 = .ok (.if_icmp .ge 107, 3) := by decide +kernel
theorem dX6_odds_44 : decode cX6_odds 44 = .ok (.iload 7, 2) := by decide +kernel
theorem dX6_odds_46 : decode cX6_odds 46 = .ok (.iload_n 2, 1) := by decide +kernel
theorem dX6_odds_47 : decode cX6_odds 47 = .ok (.iconst (-1), 1) := by decide +kernel
theorem dX6_odds_48 : decode cX6_odds 48 = .ok (.ixor, 1) := by decide +kernel
theorem dX6_odds_49 : decode cX6_odds 49 = .ok (.iand, 1) := by decide +kernel
theorem dX6_odds_50 : decode cX6_odds 50 = .ok (.ifCond .ne 92, 3) := by decide +kernel
theorem dX6_odds_53 : decode cX6_odds 53 = .ok (.lconst 1, 1) := by decide +kernel
theorem dX6_odds_54 : decode cX6_odds 54 = .ok (.lstore 8, 2) := by decide +kernel
theorem dX6_odds_56 : decode cX6_odds 56 = .ok (.iconst 0, 1) := by decide +kernel
theorem dX6_odds_57 : decode cX6_odds 57 = .ok (.istore 10, 2) := by decide +kernel
theorem dX6_odds_59 : decode cX6_odds 59 = .ok (.iload 10, 2) := by decide +kernel
theorem dX6_odds_61 : decode cX6_odds 61 = .ok (.aload_n 0, 1) := by decide +kernel
theorem dX6_odds_62 : decode cX6_odds 62 = .ok (.getfield 140, 3) := by decide +kernel
theorem dX6_odds_65 : decode cX6_odds 65 = .ok (.if_icmp .ge 47, 3) := by decide +kernel
theorem dX6_odds_68 : decode cX6_odds 68 = .ok (.lload 8, 2) := by decide +kernel
theorem dX6_odds_70 : decode cX6_odds 70 = .ok (.iload_n 2, 1) := by decide +kernel
theorem dX6_odds_71 : decode cX6_odds 71 = .ok (.iload 10, 2) := by decide +kernel
theorem dX6_odds_73 : decode cX6_odds 73 = .ok (.invokestatic 181, 3) := by decide +kernel
theorem dX6_odds_76 : decode cX6_odds 76 = .ok (.ifCond .ne 7, 3) := by decide +kernel
theorem dX6_odds_79 : decode cX6_odds 79 = .ok (.lconst 1, 1) := by decide +kernel
theorem dX6_odds_80 : decode cX6_odds 80 = .ok (.goto 23, 3) := by decide +kernel
theorem dX6_odds_83 : decode cX6_odds 83 = .ok (.iload 7, 2) := by decide +kernel
theorem dX6_odds_85 : decode cX6_odds 85 = .ok (.iload 10, 2) := by decide +kernel
theorem dX6_odds_87 : decode cX6_odds 87 = .ok (.invokestatic 181, 3) := by decide +kernel
theorem dX6_odds_90 : decode cX6_odds 90 = .ok (.ifCond .eq 8, 3) := by decide +kernel
theorem dX6_odds_93 : decode cX6_odds 93 = .ok (.iload_n 1, 1) := by decide +kernel
theorem dX6_odds_94 : decode cX6_odds 94 = .ok (.i2l, 1) := by decide +kernel
theorem dX6_odds_95 : decode cX6_odds 95 = .ok (.goto 8, 3) := by decide +kernel
theorem dX6_odds_98 : decode cX6_odds 98 = .ok (.bipush 12, 2) := by decide +kernel
theorem dX6_odds_100 : decode cX6_odds 100 = .ok (.iload_n 1, 1) := by decide +kernel
theorem dX6_odds_101 : decode cX6_odds 101 = .ok (.isub, 1) := by decide +kernel
theorem dX6_odds_102 : decode cX6_odds 102 = .ok (.i2l, 1) := by decide +kernel
theorem dX6_odds_103 : decode cX6_odds 103 = .ok (.lmul, 1) := by decide +kernel
theorem dX6_odds_104 : decode cX6_odds 104 = .ok (.lstore 8, 2) := by decide +kernel
theorem dX6_odds_106 : decode cX6_odds 106 = .ok (.iinc 10 1, 3) := by decide +kernel
theorem dX6_odds_109 : decode cX6_odds 109 = .ok (.goto (-50), 3) := by decide +kernel
theorem dX6_odds_112 : decode cX6_odds 112 = .ok (.aload_n 0, 1) := by decide +kernel
theorem dX6_odds_113 : decode cX6_odds 113 = .ok (.iconst 0, 1) := by decide +kernel
theorem dX6_odds_114 : decode cX6_odds 114 = .ok (.iload 7, 2) := by decide +kernel
theorem dX6_odds_116 : decode cX6_odds 116 = .ok (.invokevirtual 231, 3) := by decide +kernel
theorem dX6_odds_119 : decode cX6_odds 119 = .ok (.lload_n 3, 1) := by decide +kernel
theorem dX6_odds_120 : decode cX6_odds 120 = .ok (.aload_n 0, 1) := by decide +kernel
theorem dX6_odds_121 : decode cX6_odds 121 = .ok (.invokevirtual 244, 3) := by decide +kernel
theorem dX6_odds_124 : decode cX6_odds 124 = .ok (.ifCond .eq 8, 3) := by decide +kernel
theorem dX6_odds_127 : decode cX6_odds 127 = .ok (.lload 8, 2) := by decide +kernel
theorem dX6_odds_129 : decode cX6_odds 129 = .ok (.goto 4, 3) := by decide +kernel
theorem dX6_odds_132 : decode cX6_odds 132 = .ok (.lconst 0, 1) := by decide +kernel
theorem dX6_odds_133 : decode cX6_odds 133 = .ok (.ladd, 1) := by decide +kernel
theorem dX6_odds_134 : decode cX6_odds 134 = .ok (.lstore_n 3, 1) := by decide +kernel
theorem dX6_odds_135 : decode cX6_odds 135 = .ok (.lload 5, 2) := by decide +kernel
theorem dX6_odds_137 : decode cX6_odds 137 = .ok (.lload 8, 2) := by decide +kernel
theorem dX6_odds_139 : decode cX6_odds 139 = .ok (.ladd, 1) := by decide +kernel
theorem dX6_odds_140 : decode cX6_odds 140 = .ok (.lstore 5, 2) := by decide +kernel
theorem dX6_odds_142 : decode cX6_odds 142 = .ok (.iinc 7 1, 3) := by decide +kernel
theorem dX6_odds_145 : decode cX6_odds 145 = .ok (.goto (-108), 3) := by decide +kernel
theorem dX6_odds_148 : decode cX6_odds 148 = .ok (.aload_n 0, 1) := by decide +kernel
theorem dX6_odds_149 : decode cX6_odds 149 = .ok (.lload_n 3, 1) := by decide +kernel
theorem dX6_odds_150 : decode cX6_odds 150 = .ok (.lload 5, 2) := by decide +kernel
theorem dX6_odds_152 : decode cX6_odds 152 = .ok (.invokevirtual 252, 3) := by decide +kernel
theorem dX6_odds_155 : decode cX6_odds 155 = .ok (.ireturn, 1) := by decide +kernel
def p6_odds_142 (k37 : Int32 → Int32 → Int64 → Int64 → Int32 → SX → Option (Int32 × SX)) (v1 : Int32) (v2 : Int32) (v3 : Int64) (v5 : Int64) (v7 : Int32) (M : SX) : Option (Int32 × SX) :=
  lt_ (v7 + 1) (fun x1 => k37 v1 v2 v3 v5 x1 M)
set_option maxHeartbeats 4000000 in
set_option maxRecDepth 100000 in
theorem w6_odds_142 {G : XG} {p : Program} {l : Launch} {e : Env} {s : State} {m : MethodId} {args : Array Value} {below : List Frame} {meth : Method} {c : Code} (F : Fx G ZY p m c cX6_odds 11 s args RX6) (hr : meth.sig.returnType = some .int) (hk : meth.locks = false) {r : Int32} {M' : SX} (k37 : Int32 → Int32 → Int64 → Int64 → Int32 → SX → Option (Int32 × SX)) (hk37 : ∀ (v1 : Int32) (v2 : Int32) (v3 : Int64) (v5 : Int64) (v7 : Int32) (M : SX) (H : Heap) (locs : List Loc) (ls : Array Slot), Wld G ZY M s.heap H locs → lv_has ls 11 [(0, .ref (G.2.1 0)), (1, .int v1), (2, .int v2), (3, .long v3), (5, .long v5), (7, .int v7)] → k37 v1 v2 v3 v5 v7 M = some (r, M') → WXi G ZY p l e 5 s m args below meth c r M' H locs (F0 m 37 ls [])) : ∀ (v1 : Int32) (v2 : Int32) (v3 : Int64) (v5 : Int64) (v7 : Int32) (M : SX) (H : Heap) (locs : List Loc) (ls : Array Slot), Wld G ZY M s.heap H locs → lv_has ls 11 [(0, .ref (G.2.1 0)), (1, .int v1), (2, .int v2), (3, .long v3), (5, .long v5), (7, .int v7)] → p6_odds_142 k37 v1 v2 v3 v5 v7 M = some (r, M') → WXi G ZY p l e 5 s m args below meth c r M' H locs (F0 m 142 ls []) := by
  intro v1 v2 v3 v5 v7 M H locs ls hw hl hf
  have hx := F.1.1
  have hb := F.1.2.1
  unfold p6_odds_142 at hf
  obtain ⟨x1, ex1, hf⟩ := lt_elim hf
  refine lv_iinc (v := x1) (lv' := [(7, .int x1), (0, .ref (G.2.1 0)), (1, .int v1), (2, .int v2), (3, .long v3), (5, .long v5)]) hx hb dX6_odds_142 hl (k := 5) rfl (by rw [ex1]; rfl) (by decide) rfl (fun ls hl => ?_)
  refine lv_goto (tgt := 37) hx hb dX6_odds_145 (by decide) ?_
  exact hk37 v1 v2 v3 v5 x1 M _ _ ls hw (lv_sub hl [1, 2, 3, 4, 5, 0] rfl) hf
def p6_odds_133 (k37 : Int32 → Int32 → Int64 → Int64 → Int32 → SX → Option (Int32 × SX)) (v1 : Int32) (v2 : Int32) (v5 : Int64) (v7 : Int32) (v8 : Int64) (t0 : Int64) (t1 : Int64) (M : SX) : Option (Int32 × SX) :=
  lt_ (t0 + t1) (fun x1 => lt_ (v5 + v8) (fun x2 => p6_odds_142 k37 v1 v2 x1 x2 v7 M))
set_option maxHeartbeats 4000000 in
set_option maxRecDepth 100000 in
theorem w6_odds_133 {G : XG} {p : Program} {l : Launch} {e : Env} {s : State} {m : MethodId} {args : Array Value} {below : List Frame} {meth : Method} {c : Code} (F : Fx G ZY p m c cX6_odds 11 s args RX6) (hr : meth.sig.returnType = some .int) (hk : meth.locks = false) {r : Int32} {M' : SX} (k37 : Int32 → Int32 → Int64 → Int64 → Int32 → SX → Option (Int32 × SX)) (hk37 : ∀ (v1 : Int32) (v2 : Int32) (v3 : Int64) (v5 : Int64) (v7 : Int32) (M : SX) (H : Heap) (locs : List Loc) (ls : Array Slot), Wld G ZY M s.heap H locs → lv_has ls 11 [(0, .ref (G.2.1 0)), (1, .int v1), (2, .int v2), (3, .long v3), (5, .long v5), (7, .int v7)] → k37 v1 v2 v3 v5 v7 M = some (r, M') → WXi G ZY p l e 5 s m args below meth c r M' H locs (F0 m 37 ls [])) : ∀ (v1 : Int32) (v2 : Int32) (v5 : Int64) (v7 : Int32) (v8 : Int64) (t0 : Int64) (t1 : Int64) (M : SX) (H : Heap) (locs : List Loc) (ls : Array Slot), Wld G ZY M s.heap H locs → lv_has ls 11 [(0, .ref (G.2.1 0)), (1, .int v1), (2, .int v2), (5, .long v5), (7, .int v7), (8, .long v8)] → p6_odds_133 k37 v1 v2 v5 v7 v8 t0 t1 M = some (r, M') → WXi G ZY p l e 5 s m args below meth c r M' H locs (F0 m 133 ls [.long t1, .long t0]) := by
  intro v1 v2 v5 v7 v8 t0 t1 M H locs ls hw hl hf
  have hx := F.1.1
  have hb := F.1.2.1
  unfold p6_odds_133 at hf
  refine lv_ladd hx hb dX6_odds_133 ?_
  obtain ⟨x1, ex1, hf⟩ := lt_elim hf
  refine x_letL ex1 ?_
  refine lv_lstore_n (lv' := [(3, .long x1), (0, .ref (G.2.1 0)), (1, .int v1), (2, .int v2), (5, .long v5), (7, .int v7), (8, .long v8)]) hx hb dX6_odds_134 rfl hl (by decide) rfl (fun ls hl => ?_)
  refine lv_lload hx hb dX6_odds_135 (lv_at hl 4 rfl) ?_
  refine lv_lload hx hb dX6_odds_137 (lv_at hl 6 rfl) ?_
  refine lv_ladd hx hb dX6_odds_139 ?_
  obtain ⟨x2, ex2, hf⟩ := lt_elim hf
  refine x_letL ex2 ?_
  refine lv_lstore (lv' := [(5, .long x2), (3, .long x1), (0, .ref (G.2.1 0)), (1, .int v1), (2, .int v2), (7, .int v7), (8, .long v8)]) hx hb dX6_odds_140 hl (by decide) rfl (fun ls hl => ?_)
  exact w6_odds_142 F hr hk k37 hk37 v1 v2 x1 x2 v7 M _ _ ls hw (lv_sub hl [2, 3, 4, 1, 0, 5] rfl) hf
def p6_odds_103 (k37 : Int32 → Int32 → Int64 → Int64 → Int32 → SX → Option (Int32 × SX)) (k59 : Int32 → Int32 → Int64 → Int64 → Int32 → Int64 → Int32 → SX → Option (Int32 × SX)) (v1 : Int32) (v2 : Int32) (v3 : Int64) (v5 : Int64) (v7 : Int32) (v10 : Int32) (t0 : Int64) (t1 : Int64) (M : SX) : Option (Int32 × SX) :=
  lt_ (t0 * t1) (fun x1 => lt_ (v10 + 1) (fun x2 => k59 v1 v2 v3 v5 v7 x1 x2 M))
set_option maxHeartbeats 4000000 in
set_option maxRecDepth 100000 in
theorem w6_odds_103 {G : XG} {p : Program} {l : Launch} {e : Env} {s : State} {m : MethodId} {args : Array Value} {below : List Frame} {meth : Method} {c : Code} (F : Fx G ZY p m c cX6_odds 11 s args RX6) (hr : meth.sig.returnType = some .int) (hk : meth.locks = false) {r : Int32} {M' : SX} (k37 : Int32 → Int32 → Int64 → Int64 → Int32 → SX → Option (Int32 × SX)) (hk37 : ∀ (v1 : Int32) (v2 : Int32) (v3 : Int64) (v5 : Int64) (v7 : Int32) (M : SX) (H : Heap) (locs : List Loc) (ls : Array Slot), Wld G ZY M s.heap H locs → lv_has ls 11 [(0, .ref (G.2.1 0)), (1, .int v1), (2, .int v2), (3, .long v3), (5, .long v5), (7, .int v7)] → k37 v1 v2 v3 v5 v7 M = some (r, M') → WXi G ZY p l e 5 s m args below meth c r M' H locs (F0 m 37 ls [])) (k59 : Int32 → Int32 → Int64 → Int64 → Int32 → Int64 → Int32 → SX → Option (Int32 × SX)) (hk59 : ∀ (v1 : Int32) (v2 : Int32) (v3 : Int64) (v5 : Int64) (v7 : Int32) (v8 : Int64) (v10 : Int32) (M : SX) (H : Heap) (locs : List Loc) (ls : Array Slot), Wld G ZY M s.heap H locs → lv_has ls 11 [(0, .ref (G.2.1 0)), (1, .int v1), (2, .int v2), (3, .long v3), (5, .long v5), (7, .int v7), (8, .long v8), (10, .int v10)] → k59 v1 v2 v3 v5 v7 v8 v10 M = some (r, M') → WXi G ZY p l e 5 s m args below meth c r M' H locs (F0 m 59 ls [])) : ∀ (v1 : Int32) (v2 : Int32) (v3 : Int64) (v5 : Int64) (v7 : Int32) (v10 : Int32) (t0 : Int64) (t1 : Int64) (M : SX) (H : Heap) (locs : List Loc) (ls : Array Slot), Wld G ZY M s.heap H locs → lv_has ls 11 [(0, .ref (G.2.1 0)), (1, .int v1), (2, .int v2), (3, .long v3), (5, .long v5), (7, .int v7), (10, .int v10)] → p6_odds_103 k37 k59 v1 v2 v3 v5 v7 v10 t0 t1 M = some (r, M') → WXi G ZY p l e 5 s m args below meth c r M' H locs (F0 m 103 ls [.long t1, .long t0]) := by
  intro v1 v2 v3 v5 v7 v10 t0 t1 M H locs ls hw hl hf
  have hx := F.1.1
  have hb := F.1.2.1
  unfold p6_odds_103 at hf
  refine lv_lmul hx hb dX6_odds_103 ?_
  obtain ⟨x1, ex1, hf⟩ := lt_elim hf
  refine x_letL ex1 ?_
  refine lv_lstore (lv' := [(8, .long x1), (0, .ref (G.2.1 0)), (1, .int v1), (2, .int v2), (3, .long v3), (5, .long v5), (7, .int v7), (10, .int v10)]) hx hb dX6_odds_104 hl (by decide) rfl (fun ls hl => ?_)
  obtain ⟨x2, ex2, hf⟩ := lt_elim hf
  refine lv_iinc (v := x2) (lv' := [(10, .int x2), (8, .long x1), (0, .ref (G.2.1 0)), (1, .int v1), (2, .int v2), (3, .long v3), (5, .long v5), (7, .int v7)]) hx hb dX6_odds_106 hl (k := 7) rfl (by rw [ex2]; rfl) (by decide) rfl (fun ls hl => ?_)
  refine lv_goto (tgt := 59) hx hb dX6_odds_109 (by decide) ?_
  exact hk59 v1 v2 v3 v5 v7 x1 x2 M _ _ ls hw (lv_sub hl [2, 3, 4, 5, 6, 7, 1, 0] rfl) hf
def p6_odds_59 (k37 : Int32 → Int32 → Int64 → Int64 → Int32 → SX → Option (Int32 × SX)) (k59 : Int32 → Int32 → Int64 → Int64 → Int32 → Int64 → Int32 → SX → Option (Int32 × SX)) (v1 : Int32) (v2 : Int32) (v3 : Int64) (v5 : Int64) (v7 : Int32) (v8 : Int64) (v10 : Int32) (M : SX) : Option (Int32 × SX) :=
  if (M.1 0 1) ≤ v10 then (bv (p6_layTried 0 v7 M) (fun M3 => bd (p6_canAll M3) (fun r6 M5 => if r6 = 0 then (p6_odds_133 k37 v1 v2 v5 v7 v8 v3 0 M5)
  else (p6_odds_133 k37 v1 v2 v5 v7 v8 v3 v8 M5))))
  else (bd (p6_has v2 v10 M) (fun r10 M9 => if r10 = 0 then (p6_odds_103 k37 k59 v1 v2 v3 v5 v7 v10 v8 1 M9)
  else (bd (p6_has v7 v10 M9) (fun r14 M13 => if r14 = 0 then (p6_odds_103 k37 k59 v1 v2 v3 v5 v7 v10 v8 (Int32.toInt64 (12 - v1)) M13)
  else (p6_odds_103 k37 k59 v1 v2 v3 v5 v7 v10 v8 (Int32.toInt64 v1) M13)))))
set_option maxHeartbeats 4000000 in
set_option maxRecDepth 100000 in
theorem w6_odds_59 {G : XG} {p : Program} {l : Launch} {e : Env} {s : State} {m : MethodId} {args : Array Value} {below : List Frame} {meth : Method} {c : Code} (F : Fx G ZY p m c cX6_odds 11 s args RX6) (hr : meth.sig.returnType = some .int) (hk : meth.locks = false) {r : Int32} {M' : SX} (k37 : Int32 → Int32 → Int64 → Int64 → Int32 → SX → Option (Int32 × SX)) (hk37 : ∀ (v1 : Int32) (v2 : Int32) (v3 : Int64) (v5 : Int64) (v7 : Int32) (M : SX) (H : Heap) (locs : List Loc) (ls : Array Slot), Wld G ZY M s.heap H locs → lv_has ls 11 [(0, .ref (G.2.1 0)), (1, .int v1), (2, .int v2), (3, .long v3), (5, .long v5), (7, .int v7)] → k37 v1 v2 v3 v5 v7 M = some (r, M') → WXi G ZY p l e 5 s m args below meth c r M' H locs (F0 m 37 ls [])) (k59 : Int32 → Int32 → Int64 → Int64 → Int32 → Int64 → Int32 → SX → Option (Int32 × SX)) (hk59 : ∀ (v1 : Int32) (v2 : Int32) (v3 : Int64) (v5 : Int64) (v7 : Int32) (v8 : Int64) (v10 : Int32) (M : SX) (H : Heap) (locs : List Loc) (ls : Array Slot), Wld G ZY M s.heap H locs → lv_has ls 11 [(0, .ref (G.2.1 0)), (1, .int v1), (2, .int v2), (3, .long v3), (5, .long v5), (7, .int v7), (8, .long v8), (10, .int v10)] → k59 v1 v2 v3 v5 v7 v8 v10 M = some (r, M') → WXi G ZY p l e 5 s m args below meth c r M' H locs (F0 m 59 ls [])) : ∀ (v1 : Int32) (v2 : Int32) (v3 : Int64) (v5 : Int64) (v7 : Int32) (v8 : Int64) (v10 : Int32) (M : SX) (H : Heap) (locs : List Loc) (ls : Array Slot), Wld G ZY M s.heap H locs → lv_has ls 11 [(0, .ref (G.2.1 0)), (1, .int v1), (2, .int v2), (3, .long v3), (5, .long v5), (7, .int v7), (8, .long v8), (10, .int v10)] → p6_odds_59 k37 k59 v1 v2 v3 v5 v7 v8 v10 M = some (r, M') → WXi G ZY p l e 5 s m args below meth c r M' H locs (F0 m 59 ls []) := by
  intro v1 v2 v3 v5 v7 v8 v10 M H locs ls hw hl hf
  have hx := F.1.1
  have hb := F.1.2.1
  unfold p6_odds_59 at hf
  refine lv_iload hx hb dX6_odds_59 (lv_at hl 7 rfl) ?_
  refine lv_aload_n hx hb dX6_odds_61 rfl (lv_at hl 0 rfl) ?_
  refine g6_1 F hw tw_611 dX6_odds_62 ?_
  refine lv_icmp_ge (tgt := 112) hx hb dX6_odds_65 (by decide) (fun c1 => ?_) (fun c1 => ?_)
  · have hf := it_t hf c1
    refine lv_aload_n hx hb dX6_odds_112 rfl (lv_at hl 0 rfl) ?_
    refine lv_iconst (v := 0) hx hb dX6_odds_113 (by decide) ?_
    refine lv_iload hx hb dX6_odds_114 (lv_at hl 5 rfl) ?_
    obtain ⟨M3, hc2, hf⟩ := bv_some hf
    refine x_aftV hw (x_runV (rest := []) F hw hl.1 vw_RX6_231 (sM) rfl (c6_layTried 0 v7 hc2) rfl rfl (Nat.le_of_ble_eq_true rfl) ⟨Nat.le_of_ble_eq_true rfl, Nat.le_of_ble_eq_true rfl⟩ dX6_odds_116) (fun H locs hw => ?_)
    refine lv_lload_n hx hb dX6_odds_119 rfl (lv_at hl 3 rfl) ?_
    refine lv_aload_n hx hb dX6_odds_120 rfl (lv_at hl 0 rfl) ?_
    obtain ⟨r6, M5, hc4, hf⟩ := bd_some hf
    refine x_aftI hw (x_runV (rest := [.long v3]) F hw hl.1 vw_RX6_244 (sM) rfl (c6_canAll hc4) rfl rfl (Nat.le_of_ble_eq_true rfl) ⟨Nat.le_of_ble_eq_true rfl, Nat.le_of_ble_eq_true rfl⟩ dX6_odds_121) (fun H locs hw => ?_)
    refine lv_if_eq (tgt := 132) hx hb dX6_odds_124 (by decide) (fun c7 => ?_) (fun c7 => ?_)
    · have hf := it_t hf c7
      refine lv_lconst (v := 0) hx hb dX6_odds_132 (by decide) ?_
      exact w6_odds_133 F hr hk k37 hk37 v1 v2 v5 v7 v8 v3 0 M5 _ _ ls hw (lv_sub hl [0, 1, 2, 4, 5, 6] rfl) hf
    · have hf := it_f hf c7
      refine lv_lload hx hb dX6_odds_127 (lv_at hl 6 rfl) ?_
      refine lv_goto (tgt := 133) hx hb dX6_odds_129 (by decide) ?_
      exact w6_odds_133 F hr hk k37 hk37 v1 v2 v5 v7 v8 v3 v8 M5 _ _ ls hw (lv_sub hl [0, 1, 2, 4, 5, 6] rfl) hf
  · have hf := it_f hf c1
    refine lv_lload hx hb dX6_odds_68 (lv_at hl 6 rfl) ?_
    refine lv_iload_n hx hb dX6_odds_70 rfl (lv_at hl 2 rfl) ?_
    refine lv_iload hx hb dX6_odds_71 (lv_at hl 7 rfl) ?_
    obtain ⟨r10, M9, hc8, hf⟩ := bd_some hf
    refine x_aftI hw (x_runS (rest := [.long v8]) F hw hl.1 sw_RX6_181 (c6_has v2 v10 hc8) rfl rfl (Nat.le_of_ble_eq_true rfl) ⟨Nat.le_of_ble_eq_true rfl, Nat.le_of_ble_eq_true rfl⟩ dX6_odds_73) (fun H locs hw => ?_)
    refine lv_if_ne (tgt := 83) hx hb dX6_odds_76 (by decide) (fun c11 => ?_) (fun c11 => ?_)
    · have hf := it_f hf c11
      refine lv_iload hx hb dX6_odds_83 (lv_at hl 5 rfl) ?_
      refine lv_iload hx hb dX6_odds_85 (lv_at hl 7 rfl) ?_
      obtain ⟨r14, M13, hc12, hf⟩ := bd_some hf
      refine x_aftI hw (x_runS (rest := [.long v8]) F hw hl.1 sw_RX6_181 (c6_has v7 v10 hc12) rfl rfl (Nat.le_of_ble_eq_true rfl) ⟨Nat.le_of_ble_eq_true rfl, Nat.le_of_ble_eq_true rfl⟩ dX6_odds_87) (fun H locs hw => ?_)
      refine lv_if_eq (tgt := 98) hx hb dX6_odds_90 (by decide) (fun c15 => ?_) (fun c15 => ?_)
      · have hf := it_t hf c15
        refine lv_bipush (v := 12) hx hb dX6_odds_98 (by decide) ?_
        refine lv_iload_n hx hb dX6_odds_100 rfl (lv_at hl 1 rfl) ?_
        refine lv_isub hx hb dX6_odds_101 ?_
        refine lv_i2l (v := Int32.toInt64 (12 - v1)) hx hb dX6_odds_102 rfl ?_
        exact w6_odds_103 F hr hk k37 hk37 k59 hk59 v1 v2 v3 v5 v7 v10 v8 (Int32.toInt64 (12 - v1)) M13 _ _ ls hw (lv_sub hl [0, 1, 2, 3, 4, 5, 7] rfl) hf
      · have hf := it_f hf c15
        refine lv_iload_n hx hb dX6_odds_93 rfl (lv_at hl 1 rfl) ?_
        refine lv_i2l (v := Int32.toInt64 v1) hx hb dX6_odds_94 rfl ?_
        refine lv_goto (tgt := 103) hx hb dX6_odds_95 (by decide) ?_
        exact w6_odds_103 F hr hk k37 hk37 k59 hk59 v1 v2 v3 v5 v7 v10 v8 (Int32.toInt64 v1) M13 _ _ ls hw (lv_sub hl [0, 1, 2, 3, 4, 5, 7] rfl) hf
    · have hf := it_t hf c11
      refine lv_lconst (v := 1) hx hb dX6_odds_79 (by decide) ?_
      refine lv_goto (tgt := 103) hx hb dX6_odds_80 (by decide) ?_
      exact w6_odds_103 F hr hk k37 hk37 k59 hk59 v1 v2 v3 v5 v7 v10 v8 1 M9 _ _ ls hw (lv_sub hl [0, 1, 2, 3, 4, 5, 7] rfl) hf
theorem z6_odds_59 {G : XG} {p : Program} {l : Launch} {e : Env} {s : State} {m : MethodId} {args : Array Value} {below : List Frame} {meth : Method} {c : Code} (F : Fx G ZY p m c cX6_odds 11 s args RX6) (hr : meth.sig.returnType = some .int) (hk : meth.locks = false) {r : Int32} {M' : SX} (k37 : Int32 → Int32 → Int64 → Int64 → Int32 → SX → Option (Int32 × SX)) (hk37 : ∀ (v1 : Int32) (v2 : Int32) (v3 : Int64) (v5 : Int64) (v7 : Int32) (M : SX) (H : Heap) (locs : List Loc) (ls : Array Slot), Wld G ZY M s.heap H locs → lv_has ls 11 [(0, .ref (G.2.1 0)), (1, .int v1), (2, .int v2), (3, .long v3), (5, .long v5), (7, .int v7)] → k37 v1 v2 v3 v5 v7 M = some (r, M') → WXi G ZY p l e 5 s m args below meth c r M' H locs (F0 m 37 ls [])) : ∀ n : Nat, ∀ (v1 : Int32) (v2 : Int32) (v3 : Int64) (v5 : Int64) (v7 : Int32) (v8 : Int64) (v10 : Int32) (M : SX) (H : Heap) (locs : List Loc) (ls : Array Slot), Wld G ZY M s.heap H locs → lv_has ls 11 [(0, .ref (G.2.1 0)), (1, .int v1), (2, .int v2), (3, .long v3), (5, .long v5), (7, .int v7), (8, .long v8), (10, .int v10)] → xlp7 (p6_odds_59 k37) n v1 v2 v3 v5 v7 v8 v10 M = some (r, M') → WXi G ZY p l e 5 s m args below meth c r M' H locs (F0 m 59 ls []) := by
  intro n
  induction n with
  | zero => intro _ _ _ _ _ _ _ _ _ _ _ _ _ hf; cases hf
  | succ n ih => exact w6_odds_59 F hr hk k37 hk37 (xlp7 (p6_odds_59 k37) n) ih
def p6_odds_37 (k37 : Int32 → Int32 → Int64 → Int64 → Int32 → SX → Option (Int32 × SX)) (v1 : Int32) (v2 : Int32) (v3 : Int64) (v5 : Int64) (v7 : Int32) (M : SX) : Option (Int32 × SX) :=
  if (64 : Int32) ≤ v7 then (bd (p6_tellParts v3 v5 M) (fun r4 M3 => some (r4, M3)))
  else (if (v7 &&& (v2 ^^^ (-1))) = 0 then (xlp7 (p6_odds_59 k37) FU v1 v2 v3 v5 v7 1 0 M)
  else (p6_odds_142 k37 v1 v2 v3 v5 v7 M))
set_option maxHeartbeats 4000000 in
set_option maxRecDepth 100000 in
theorem w6_odds_37 {G : XG} {p : Program} {l : Launch} {e : Env} {s : State} {m : MethodId} {args : Array Value} {below : List Frame} {meth : Method} {c : Code} (F : Fx G ZY p m c cX6_odds 11 s args RX6) (hr : meth.sig.returnType = some .int) (hk : meth.locks = false) {r : Int32} {M' : SX} (k37 : Int32 → Int32 → Int64 → Int64 → Int32 → SX → Option (Int32 × SX)) (hk37 : ∀ (v1 : Int32) (v2 : Int32) (v3 : Int64) (v5 : Int64) (v7 : Int32) (M : SX) (H : Heap) (locs : List Loc) (ls : Array Slot), Wld G ZY M s.heap H locs → lv_has ls 11 [(0, .ref (G.2.1 0)), (1, .int v1), (2, .int v2), (3, .long v3), (5, .long v5), (7, .int v7)] → k37 v1 v2 v3 v5 v7 M = some (r, M') → WXi G ZY p l e 5 s m args below meth c r M' H locs (F0 m 37 ls [])) : ∀ (v1 : Int32) (v2 : Int32) (v3 : Int64) (v5 : Int64) (v7 : Int32) (M : SX) (H : Heap) (locs : List Loc) (ls : Array Slot), Wld G ZY M s.heap H locs → lv_has ls 11 [(0, .ref (G.2.1 0)), (1, .int v1), (2, .int v2), (3, .long v3), (5, .long v5), (7, .int v7)] → p6_odds_37 k37 v1 v2 v3 v5 v7 M = some (r, M') → WXi G ZY p l e 5 s m args below meth c r M' H locs (F0 m 37 ls []) := by
  intro v1 v2 v3 v5 v7 M H locs ls hw hl hf
  have hx := F.1.1
  have hb := F.1.2.1
  unfold p6_odds_37 at hf
  refine lv_iload hx hb dX6_odds_37 (lv_at hl 5 rfl) ?_
  refine lv_bipush (v := 64) hx hb dX6_odds_39 (by decide) ?_
  refine lv_icmp_ge (tgt := 148) hx hb dX6_odds_41 (by decide) (fun c1 => ?_) (fun c1 => ?_)
  · have hf := it_t hf c1
    refine lv_aload_n hx hb dX6_odds_148 rfl (lv_at hl 0 rfl) ?_
    refine lv_lload_n hx hb dX6_odds_149 rfl (lv_at hl 3 rfl) ?_
    refine lv_lload hx hb dX6_odds_150 (lv_at hl 4 rfl) ?_
    obtain ⟨r4, M3, hc2, hf⟩ := bd_some hf
    refine x_aftI hw (x_runV (rest := []) F hw hl.1 vw_RX6_252 (sM) rfl (c6_tellParts v3 v5 hc2) rfl rfl (Nat.le_of_ble_eq_true rfl) ⟨Nat.le_of_ble_eq_true rfl, Nat.le_of_ble_eq_true rfl⟩ dX6_odds_152) (fun H locs hw => ?_)
    exact x_iret F hw hr hk hf dX6_odds_155
  · have hf := it_f hf c1
    refine lv_iload hx hb dX6_odds_44 (lv_at hl 5 rfl) ?_
    refine lv_iload_n hx hb dX6_odds_46 rfl (lv_at hl 2 rfl) ?_
    refine lv_iconst (v := (-1)) hx hb dX6_odds_47 (by decide) ?_
    refine lv_ixor hx hb dX6_odds_48 ?_
    refine lv_iand hx hb dX6_odds_49 ?_
    refine lv_if_ne (tgt := 142) hx hb dX6_odds_50 (by decide) (fun c5 => ?_) (fun c5 => ?_)
    · have hf := it_f hf c5
      exact w6_odds_142 F hr hk k37 hk37 v1 v2 v3 v5 v7 M _ _ ls hw (lv_sub hl [0, 1, 2, 3, 4, 5] rfl) hf
    · have hf := it_t hf c5
      refine lv_lconst (v := 1) hx hb dX6_odds_53 (by decide) ?_
      refine lv_lstore (lv' := [(8, .long 1), (0, .ref (G.2.1 0)), (1, .int v1), (2, .int v2), (3, .long v3), (5, .long v5), (7, .int v7)]) hx hb dX6_odds_54 hl (by decide) rfl (fun ls hl => ?_)
      refine lv_iconst (v := 0) hx hb dX6_odds_56 (by decide) ?_
      refine lv_istore (lv' := [(10, .int 0), (8, .long 1), (0, .ref (G.2.1 0)), (1, .int v1), (2, .int v2), (3, .long v3), (5, .long v5), (7, .int v7)]) hx hb dX6_odds_57 hl (by decide) rfl (fun ls hl => ?_)
      exact z6_odds_59 F hr hk k37 hk37 FU v1 v2 v3 v5 v7 1 0 M _ _ ls hw (lv_sub hl [2, 3, 4, 5, 6, 7, 1, 0] rfl) hf
theorem z6_odds_37 {G : XG} {p : Program} {l : Launch} {e : Env} {s : State} {m : MethodId} {args : Array Value} {below : List Frame} {meth : Method} {c : Code} (F : Fx G ZY p m c cX6_odds 11 s args RX6) (hr : meth.sig.returnType = some .int) (hk : meth.locks = false) {r : Int32} {M' : SX} : ∀ n : Nat, ∀ (v1 : Int32) (v2 : Int32) (v3 : Int64) (v5 : Int64) (v7 : Int32) (M : SX) (H : Heap) (locs : List Loc) (ls : Array Slot), Wld G ZY M s.heap H locs → lv_has ls 11 [(0, .ref (G.2.1 0)), (1, .int v1), (2, .int v2), (3, .long v3), (5, .long v5), (7, .int v7)] → xlp5 p6_odds_37 n v1 v2 v3 v5 v7 M = some (r, M') → WXi G ZY p l e 5 s m args below meth c r M' H locs (F0 m 37 ls []) := by
  intro n
  induction n with
  | zero => intro _ _ _ _ _ _ _ _ _ _ _ hf; cases hf
  | succ n ih => exact w6_odds_37 F hr hk (xlp5 p6_odds_37 n) ih
def p6_odds (a1 : Int32) (M : SX) : Option (Int32 × SX) :=
  bd (p6_in (Int32.toInt64 a1) 0 12 M) (fun r3 M2 => if r3 = 0 then (some ((-1), M2))
  else (if (M2.1 0 1) = 0 then (some ((-4), M2))
  else (bd (p6_pawned M2) (fun r8 M7 => xlp5 p6_odds_37 FU a1 r8 0 0 0 M7))))
set_option maxHeartbeats 4000000 in
set_option maxRecDepth 100000 in
theorem c6_odds {l : Launch} {G : XG} {r : Int32} {M' : SX} {M : SX} (a1 : Int32) (hf : p6_odds a1 M = some (r, M')) : Met l yX6_odds (.code yX6_odds cX6_odds 11 (some .int) :: TBL) (rmX 5) (xPc G ZY M [.ref (G.2.1 0), .int a1]) (xQi G ZY r M') 0 0 (inA G ZY) := by
  refine x_met (cc := cX6_odds) (by decide) (Nat.le_of_ble_eq_true rfl) ?_
  intro p e s m below meth c ls F hr hk hl hw
  have F : Fx G ZY p m c cX6_odds 11 s [.ref (G.2.1 0), .int a1].toArray RX6 := F
  have hl : lv_has ls 11 [(0, .ref (G.2.1 0)), (1, .int a1)] := hl
  have hx := F.1.1
  have hb := F.1.2.1
  unfold p6_odds at hf
  refine lv_iload_n hx hb dX6_odds_0 rfl (lv_at hl 1 rfl) ?_
  refine lv_i2l (v := Int32.toInt64 a1) hx hb dX6_odds_1 rfl ?_
  refine lv_lconst (v := 0) hx hb dX6_odds_2 (by decide) ?_
  refine lv_ldc2 (v := 12) hx hb F.1.2.2.2.1 (F.1.2.2.2.2 _ tw_893) dX6_odds_3 ?_
  obtain ⟨r3, M2, hc1, hf⟩ := bd_some hf
  refine x_aftI hw (x_runS (rest := []) F hw hl.1 sw_RX6_69 (c6_in (Int32.toInt64 a1) 0 12 hc1) rfl rfl (Nat.le_of_ble_eq_true rfl) ⟨Nat.le_of_ble_eq_true rfl, Nat.le_of_ble_eq_true rfl⟩ dX6_odds_6) (fun H locs hw => ?_)
  refine lv_if_ne (tgt := 14) hx hb dX6_odds_9 (by decide) (fun c4 => ?_) (fun c4 => ?_)
  · have hf := it_f hf c4
    refine lv_aload_n hx hb dX6_odds_14 rfl (lv_at hl 0 rfl) ?_
    refine g6_1 F hw tw_611 dX6_odds_15 ?_
    refine lv_if_ne (tgt := 24) hx hb dX6_odds_18 (by decide) (fun c5 => ?_) (fun c5 => ?_)
    · have hf := it_f hf c5
      refine lv_aload_n hx hb dX6_odds_24 rfl (lv_at hl 0 rfl) ?_
      obtain ⟨r8, M7, hc6, hf⟩ := bd_some hf
      refine x_aftI hw (x_runV (rest := []) F hw hl.1 vw_RX6_191 (sM) rfl (c6_pawned hc6) rfl rfl (Nat.le_of_ble_eq_true rfl) ⟨Nat.le_of_ble_eq_true rfl, Nat.le_of_ble_eq_true rfl⟩ dX6_odds_25) (fun H locs hw => ?_)
      refine lv_istore_n (lv' := [(2, .int r8), (0, .ref (G.2.1 0)), (1, .int a1)]) hx hb dX6_odds_28 rfl hl (by decide) rfl (fun ls hl => ?_)
      refine lv_lconst (v := 0) hx hb dX6_odds_29 (by decide) ?_
      refine lv_lstore_n (lv' := [(3, .long 0), (2, .int r8), (0, .ref (G.2.1 0)), (1, .int a1)]) hx hb dX6_odds_30 rfl hl (by decide) rfl (fun ls hl => ?_)
      refine lv_lconst (v := 0) hx hb dX6_odds_31 (by decide) ?_
      refine lv_lstore (lv' := [(5, .long 0), (3, .long 0), (2, .int r8), (0, .ref (G.2.1 0)), (1, .int a1)]) hx hb dX6_odds_32 hl (by decide) rfl (fun ls hl => ?_)
      refine lv_iconst (v := 0) hx hb dX6_odds_34 (by decide) ?_
      refine lv_istore (lv' := [(7, .int 0), (5, .long 0), (3, .long 0), (2, .int r8), (0, .ref (G.2.1 0)), (1, .int a1)]) hx hb dX6_odds_35 hl (by decide) rfl (fun ls hl => ?_)
      exact z6_odds_37 F hr hk FU a1 r8 0 0 0 M7 _ _ ls hw (lv_sub hl [4, 5, 3, 2, 1, 0] rfl) hf
    · have hf := it_t hf c5
      refine lv_bipush (v := (-4)) hx hb dX6_odds_21 (by decide) ?_
      exact x_iret F hw hr hk hf dX6_odds_23
  · have hf := it_t hf c4
    refine lv_iconst (v := (-1)) hx hb dX6_odds_12 (by decide) ?_
    exact x_iret F hw hr hk hf dX6_odds_13
