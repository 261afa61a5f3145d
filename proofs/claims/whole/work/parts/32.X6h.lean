theorem dX6_layWays_0 : decode cX6_layWays 0 = .ok (.iconst 0, 1) := by decide +kernel
theorem dX6_layWays_1 : decode cX6_layWays 1 = .ok (.istore_n 1, 1) := by decide +kernel
theorem dX6_layWays_2 : decode cX6_layWays 2 = .ok (.iload_n 1, 1) := by decide +kernel
theorem dX6_layWays_3 : decode cX6_layWays 3 = .ok (.bipush 64, 2) := by decide +kernel
theorem dX6_layWays_5 : decode cX6_layWays 5 = .ok (.if_icmp .ge 24, 3) := by decide +kernel
theorem dX6_layWays_8 : decode cX6_layWays 8 = .ok (.aload_n 0, 1) := by decide +kernel
theorem dX6_layWays_9 : decode cX6_layWays 9 = .ok (.getfield 50, 3) := by decide +kernel
theorem dX6_layWays_12 : decode cX6_layWays 12 = .ok (.iload_n 1, 1) := by decide +kernel
theorem dX6_layWays_13 : decode cX6_layWays 13 = .ok (.iload_n 1, 1) := by decide +kernel
theorem dX6_layWays_14 : decode cX6_layWays 14 = .ok (.ifCond .ne 7, 3) := by decide +kernel
theorem dX6_layWays_17 : decode cX6_layWays 17 = .ok (.lconst 1, 1) := by decide +kernel
theorem dX6_layWays_18 : decode cX6_layWays 18 = .ok (.goto 4, 3) := by decide +kernel
theorem dX6_layWays_21 : decode cX6_layWays 21 = .ok (.lconst 0, 1) := by decide +kernel
theorem dX6_layWays_22 : decode cX6_layWays 22 = .ok (.lastore, 1) := by decide +kernel
theorem dX6_layWays_23 : decode cX6_layWays 23 = .ok (.iinc 1 1, 3) := by decide +kernel
theorem dX6_layWays_26 : decode cX6_layWays 26 = .ok (.goto (-24), 3) := by decide +kernel
theorem dX6_layWays_29 : decode cX6_layWays 29 = .ok (.iconst 0, 1) := by decide +kernel
theorem dX6_layWays_30 : decode cX6_layWays 30 = .ok (.istore_n 1, 1) := by decide +kernel
theorem dX6_layWays_31 : decode cX6_layWays 31 = .ok (.iload_n 1, 1) := by decide +kernel
theorem dX6_layWays_32 : decode cX6_layWays 32 = .ok (.bipush 64, 2) := by decide +kernel
theorem dX6_layWays_34 : decode cX6_layWays 34 = .ok (.if_icmp .ge 64, 3) := by decide +kernel
theorem dX6_layWays_37 : decode cX6_layWays 37 = .ok (.iconst 0, 1) := by decide +kernel
theorem dX6_layWays_38 : decode cX6_layWays 38 = .ok (.istore_n 2, 1) := by decide +kernel
theorem dX6_layWays_39 : decode cX6_layWays 39 = .ok (.iload_n 2, 1) := by decide +kernel
theorem dX6_layWays_40 : decode cX6_layWays 40 = .ok (.aload_n 0, 1) := by decide +kernel
theorem dX6_layWays_41 : decode cX6_layWays 41 = .ok (.getfield 140, 3) := by decide +kernel
theorem dX6_layWays_44 : decode cX6_layWays 44 = .ok (.if_icmp .ge 48, 3) := by decide +kernel
theorem dX6_layWays_47 : decode cX6_layWays 47 = .ok (.aload_n 0, 1) := by decide +kernel
theorem dX6_layWays_48 : decode cX6_layWays 48 = .ok (.getfield 50, 3) := by decide +kernel
theorem dX6_layWays_51 : decode cX6_layWays 51 = .ok (.iload_n 1, 1) := by decide +kernel
theorem dX6_layWays_52 : decode cX6_layWays 52 = .ok (.laload, 1) := by decide +kernel
theorem dX6_layWays_53 : decode cX6_layWays 53 = .ok (.lconst 0, 1) := by decide +kernel
theorem dX6_layWays_54 : decode cX6_layWays 54 = .ok (.lcmp, 1) := by decide +kernel
theorem dX6_layWays_55 : decode cX6_layWays 55 = .ok (.ifCond .le 31, 3) := by decide +kernel
theorem dX6_layWays_58 : decode cX6_layWays 58 = .ok (.aload_n 0, 1) := by decide +kernel
theorem dX6_layWays_59 : decode cX6_layWays 59 = .ok (.iload_n 2, 1) := by decide +kernel
theorem dX6_layWays_60 : decode cX6_layWays 60 = .ok (.iload_n 1, 1) := by decide +kernel
theorem dX6_layWays_61 : decode cX6_layWays 61 = .ok (.invokevirtual 225, 3) := by decide +kernel
theorem dX6_layWays_64 : decode cX6_layWays 64 = .ok (.ifCond .eq 22, 3) := by decide +kernel
theorem dX6_layWays_67 : decode cX6_layWays 67 = .ok (.aload_n 0, 1) := by decide +kernel
theorem dX6_layWays_68 : decode cX6_layWays 68 = .ok (.getfield 50, 3) := by decide +kernel
theorem dX6_layWays_71 : decode cX6_layWays 71 = .ok (.iload_n 1, 1) := by decide +kernel
theorem dX6_layWays_72 : decode cX6_layWays 72 = .ok (.iconst 1, 1) := by decide +kernel
theorem dX6_layWays_73 : decode cX6_layWays 73 = .ok (.iload_n 2, 1) := by decide +kernel
theorem dX6_layWays_74 : decode cX6_layWays 74 = .ok (.ishl, 1) := by decide +kernel
theorem dX6_layWays_75 : decode cX6_layWays 75 = .ok (.ior, 1) := by decide +kernel
theorem dX6_layWays_76 : decode cX6_layWays 76 = .ok (.dup2, 1) := by decide +kernel
theorem dX6_layWays_77 : decode cX6_layWays 77 = .ok (.laload, 1) := by decide +kernel
theorem dX6_layWays_78 : decode cX6_layWays 78 = .ok (.aload_n 0, 1) := by decide +kernel
theorem dX6_layWays_79 : decode cX6_layWays 79 = .ok (.getfield 50, 3) := by decide +kernel
theorem dX6_layWays_82 : decode cX6_layWays 82 = .ok (.iload_n 1, 1) := by decide +kernel
theorem dX6_layWays_83 : decode cX6_layWays 83 = .ok (.laload, 1) := by decide +kernel
theorem dX6_layWays_84 : decode cX6_layWays 84 = .ok (.ladd, 1) := by decide +kernel
theorem dX6_layWays_85 : decode cX6_layWays 85 = .ok (.lastore, 1) := by decide +kernel
theorem dX6_layWays_86 : decode cX6_layWays 86 = .ok (.iinc 2 1, 3) := by decide +kernel
theorem dX6_layWays_89 : decode cX6_layWays 89 = .ok (.goto (-50), 3) := by decide +kernel
theorem dX6_layWays_92 : decode cX6_layWays 92 = .ok (.iinc 1 1, 3) := by decide +kernel
theorem dX6_layWays_95 : decode cX6_layWays 95 = .ok (.goto (-64), 3) := by decide +kernel
theorem dX6_layWays_98 : decode cX6_layWays 98 = .ok (.return_, 1) := by decide +kernel
def p6_layWays_86 (k31 : Int32 → SX → Option SX) (k39 : Int32 → Int32 → SX → Option SX) (v1 : Int32) (v2 : Int32) (M : SX) : Option SX :=
  lt_ (v2 + 1) (fun x1 => k39 v1 x1 M)
set_option maxHeartbeats 4000000 in
set_option maxRecDepth 100000 in
theorem w6_layWays_86 {G : XG} {p : Program} {l : Launch} {e : Env} {s : State} {m : MethodId} {args : Array Value} {below : List Frame} {meth : Method} {c : Code} (F : Fx G ZY p m c cX6_layWays 3 s args RX6) (hr : meth.sig.returnType = none) (hk : meth.locks = false) {M' : SX} (k31 : Int32 → SX → Option SX) (hk31 : ∀ (v1 : Int32) (M : SX) (H : Heap) (locs : List Loc) (ls : Array Slot), Wld G ZY M s.heap H locs → lv_has ls 3 [(0, .ref (G.2.1 0)), (1, .int v1)] → k31 v1 M = some M' → WXv G ZY p l e 3 s m args below meth c M' H locs (F0 m 31 ls [])) (k39 : Int32 → Int32 → SX → Option SX) (hk39 : ∀ (v1 : Int32) (v2 : Int32) (M : SX) (H : Heap) (locs : List Loc) (ls : Array Slot), Wld G ZY M s.heap H locs → lv_has ls 3 [(0, .ref (G.2.1 0)), (1, .int v1), (2, .int v2)] → k39 v1 v2 M = some M' → WXv G ZY p l e 3 s m args below meth c M' H locs (F0 m 39 ls [])) : ∀ (v1 : Int32) (v2 : Int32) (M : SX) (H : Heap) (locs : List Loc) (ls : Array Slot), Wld G ZY M s.heap H locs → lv_has ls 3 [(0, .ref (G.2.1 0)), (1, .int v1), (2, .int v2)] → p6_layWays_86 k31 k39 v1 v2 M = some M' → WXv G ZY p l e 3 s m args below meth c M' H locs (F0 m 86 ls []) := by
  intro v1 v2 M H locs ls hw hl hf
  have hx := F.1.1
  have hb := F.1.2.1
  unfold p6_layWays_86 at hf
  obtain ⟨x1, ex1, hf⟩ := lt_elim hf
  refine lv_iinc (v := x1) (lv' := [(2, .int x1), (0, .ref (G.2.1 0)), (1, .int v1)]) hx hb dX6_layWays_86 hl (k := 2) rfl (by rw [ex1]; rfl) (by decide) rfl (fun ls hl => ?_)
  refine lv_goto (tgt := 39) hx hb dX6_layWays_89 (by decide) ?_
  exact hk39 v1 x1 M _ _ ls hw (lv_sub hl [1, 2, 0] rfl) hf
def p6_layWays_39 (k31 : Int32 → SX → Option SX) (k39 : Int32 → Int32 → SX → Option SX) (v1 : Int32) (v2 : Int32) (M : SX) : Option SX :=
  if (M.1 0 1) ≤ v2 then (lt_ (v1 + 1) (fun x2 => k31 x2 M))
  else (gd (bIn v1 64) ( if (M.2 13 (Int32.toNatClampNeg v1)) ≤ 0 then (p6_layWays_86 k31 k39 v1 v2 M)
  else (bd (p6_next v2 v1 M) (fun r7 M6 => if r7 = 0 then (p6_layWays_86 k31 k39 v1 v2 M6)
  else (gd (bIn (v1 ||| ((1 : Int32) <<< (v2 &&& 31))) 64) ( lt_ (wJ M6 13 (Int32.toNatClampNeg (v1 ||| ((1 : Int32) <<< (v2 &&& 31)))) ((M6.2 13 (Int32.toNatClampNeg (v1 ||| ((1 : Int32) <<< (v2 &&& 31))))) + (M6.2 13 (Int32.toNatClampNeg v1)))) (fun M10 => p6_layWays_86 k31 k39 v1 v2 M10)))))))
set_option maxHeartbeats 4000000 in
set_option maxRecDepth 100000 in
theorem w6_layWays_39 {G : XG} {p : Program} {l : Launch} {e : Env} {s : State} {m : MethodId} {args : Array Value} {below : List Frame} {meth : Method} {c : Code} (F : Fx G ZY p m c cX6_layWays 3 s args RX6) (hr : meth.sig.returnType = none) (hk : meth.locks = false) {M' : SX} (k31 : Int32 → SX → Option SX) (hk31 : ∀ (v1 : Int32) (M : SX) (H : Heap) (locs : List Loc) (ls : Array Slot), Wld G ZY M s.heap H locs → lv_has ls 3 [(0, .ref (G.2.1 0)), (1, .int v1)] → k31 v1 M = some M' → WXv G ZY p l e 3 s m args below meth c M' H locs (F0 m 31 ls [])) (k39 : Int32 → Int32 → SX → Option SX) (hk39 : ∀ (v1 : Int32) (v2 : Int32) (M : SX) (H : Heap) (locs : List Loc) (ls : Array Slot), Wld G ZY M s.heap H locs → lv_has ls 3 [(0, .ref (G.2.1 0)), (1, .int v1), (2, .int v2)] → k39 v1 v2 M = some M' → WXv G ZY p l e 3 s m args below meth c M' H locs (F0 m 39 ls [])) : ∀ (v1 : Int32) (v2 : Int32) (M : SX) (H : Heap) (locs : List Loc) (ls : Array Slot), Wld G ZY M s.heap H locs → lv_has ls 3 [(0, .ref (G.2.1 0)), (1, .int v1), (2, .int v2)] → p6_layWays_39 k31 k39 v1 v2 M = some M' → WXv G ZY p l e 3 s m args below meth c M' H locs (F0 m 39 ls []) := by
  intro v1 v2 M H locs ls hw hl hf
  have hx := F.1.1
  have hb := F.1.2.1
  unfold p6_layWays_39 at hf
  refine lv_iload_n hx hb dX6_layWays_39 rfl (lv_at hl 2 rfl) ?_
  refine lv_aload_n hx hb dX6_layWays_40 rfl (lv_at hl 0 rfl) ?_
  refine g6_1 F hw tw_611 dX6_layWays_41 ?_
  refine lv_icmp_ge (tgt := 92) hx hb dX6_layWays_44 (by decide) (fun c1 => ?_) (fun c1 => ?_)
  · have hf := it_t hf c1
    obtain ⟨x2, ex2, hf⟩ := lt_elim hf
    refine lv_iinc (v := x2) (lv' := [(1, .int x2), (0, .ref (G.2.1 0)), (2, .int v2)]) hx hb dX6_layWays_92 hl (k := 1) rfl (by rw [ex2]; rfl) (by decide) rfl (fun ls hl => ?_)
    refine lv_goto (tgt := 31) hx hb dX6_layWays_95 (by decide) ?_
    exact hk31 x2 M _ _ ls hw (lv_sub hl [1, 0] rfl) hf
  · have hf := it_f hf c1
    refine lv_aload_n hx hb dX6_layWays_47 rfl (lv_at hl 0 rfl) ?_
    refine g6_23 F hw tw_811 dX6_layWays_48 ?_
    refine lv_iload_n hx hb dX6_layWays_51 rfl (lv_at hl 1 rfl) ?_
    obtain ⟨g3, hf⟩ := gd_some hf
    refine x_lald F hw sM13 g3 dX6_layWays_52 ?_
    refine lv_lconst (v := 0) hx hb dX6_layWays_53 (by decide) ?_
    refine W.lcmp hx hb dX6_layWays_54 ?_
    refine lv_if_le (tgt := 86) hx hb dX6_layWays_55 (by decide) (fun c4 => ?_) (fun c4 => ?_)
    · have hf := it_t hf ((lc_le (M.2 13 (Int32.toNatClampNeg v1)) 0).mp c4)
      exact w6_layWays_86 F hr hk k31 hk31 k39 hk39 v1 v2 M _ _ ls hw (lv_sub hl [0, 1, 2] rfl) hf
    · have hf := it_f hf (fun h9 => c4 ((lc_le (M.2 13 (Int32.toNatClampNeg v1)) 0).mpr h9))
      refine lv_aload_n hx hb dX6_layWays_58 rfl (lv_at hl 0 rfl) ?_
      refine lv_iload_n hx hb dX6_layWays_59 rfl (lv_at hl 2 rfl) ?_
      refine lv_iload_n hx hb dX6_layWays_60 rfl (lv_at hl 1 rfl) ?_
      obtain ⟨r7, M6, hc5, hf⟩ := bd_some hf
      refine x_aftI hw (x_runV (rest := []) F hw hl.1 vw_RX6_225 (sM) rfl (c6_next v2 v1 hc5) rfl rfl (Nat.le_of_ble_eq_true rfl) ⟨Nat.le_of_ble_eq_true rfl, Nat.le_of_ble_eq_true rfl⟩ dX6_layWays_61) (fun H locs hw => ?_)
      refine lv_if_eq (tgt := 86) hx hb dX6_layWays_64 (by decide) (fun c8 => ?_) (fun c8 => ?_)
      · have hf := it_t hf c8
        exact w6_layWays_86 F hr hk k31 hk31 k39 hk39 v1 v2 M6 _ _ ls hw (lv_sub hl [0, 1, 2] rfl) hf
      · have hf := it_f hf c8
        refine lv_aload_n hx hb dX6_layWays_67 rfl (lv_at hl 0 rfl) ?_
        refine g6_23 F hw tw_811 dX6_layWays_68 ?_
        refine lv_iload_n hx hb dX6_layWays_71 rfl (lv_at hl 1 rfl) ?_
        refine lv_iconst (v := 1) hx hb dX6_layWays_72 (by decide) ?_
        refine lv_iload_n hx hb dX6_layWays_73 rfl (lv_at hl 2 rfl) ?_
        refine lv_ishl hx hb dX6_layWays_74 ?_
        refine lv_ior hx hb dX6_layWays_75 ?_
        refine lv_dup2_11 hx hb dX6_layWays_76 rfl rfl ?_
        obtain ⟨g9, hf⟩ := gd_some hf
        refine x_lald F hw sM13 g9 dX6_layWays_77 ?_
        refine lv_aload_n hx hb dX6_layWays_78 rfl (lv_at hl 0 rfl) ?_
        refine g6_23 F hw tw_811 dX6_layWays_79 ?_
        refine lv_iload_n hx hb dX6_layWays_82 rfl (lv_at hl 1 rfl) ?_
        refine x_lald F hw sM13 g3 dX6_layWays_83 ?_
        refine lv_ladd hx hb dX6_layWays_84 ?_
        refine x_last F hw sM13 g9 dX6_layWays_85 (fun H locs hw => ?_)
        obtain ⟨M10, eM10, hf⟩ := lt_elim hf
        rw [← eM10] at hw
        exact w6_layWays_86 F hr hk k31 hk31 k39 hk39 v1 v2 M10 _ _ ls hw (lv_sub hl [0, 1, 2] rfl) hf
theorem z6_layWays_39 {G : XG} {p : Program} {l : Launch} {e : Env} {s : State} {m : MethodId} {args : Array Value} {below : List Frame} {meth : Method} {c : Code} (F : Fx G ZY p m c cX6_layWays 3 s args RX6) (hr : meth.sig.returnType = none) (hk : meth.locks = false) {M' : SX} (k31 : Int32 → SX → Option SX) (hk31 : ∀ (v1 : Int32) (M : SX) (H : Heap) (locs : List Loc) (ls : Array Slot), Wld G ZY M s.heap H locs → lv_has ls 3 [(0, .ref (G.2.1 0)), (1, .int v1)] → k31 v1 M = some M' → WXv G ZY p l e 3 s m args below meth c M' H locs (F0 m 31 ls [])) : ∀ n : Nat, ∀ (v1 : Int32) (v2 : Int32) (M : SX) (H : Heap) (locs : List Loc) (ls : Array Slot), Wld G ZY M s.heap H locs → lv_has ls 3 [(0, .ref (G.2.1 0)), (1, .int v1), (2, .int v2)] → xlp2 (p6_layWays_39 k31) n v1 v2 M = some M' → WXv G ZY p l e 3 s m args below meth c M' H locs (F0 m 39 ls []) := by
  intro n
  induction n with
  | zero => intro _ _ _ _ _ _ _ _ hf; cases hf
  | succ n ih => exact w6_layWays_39 F hr hk k31 hk31 (xlp2 (p6_layWays_39 k31) n) ih
def p6_layWays_31 (k31 : Int32 → SX → Option SX) (v1 : Int32) (M : SX) : Option SX :=
  if (64 : Int32) ≤ v1 then (some M)
  else (xlp2 (p6_layWays_39 k31) FU v1 0 M)
set_option maxHeartbeats 4000000 in
set_option maxRecDepth 100000 in
theorem w6_layWays_31 {G : XG} {p : Program} {l : Launch} {e : Env} {s : State} {m : MethodId} {args : Array Value} {below : List Frame} {meth : Method} {c : Code} (F : Fx G ZY p m c cX6_layWays 3 s args RX6) (hr : meth.sig.returnType = none) (hk : meth.locks = false) {M' : SX} (k31 : Int32 → SX → Option SX) (hk31 : ∀ (v1 : Int32) (M : SX) (H : Heap) (locs : List Loc) (ls : Array Slot), Wld G ZY M s.heap H locs → lv_has ls 3 [(0, .ref (G.2.1 0)), (1, .int v1)] → k31 v1 M = some M' → WXv G ZY p l e 3 s m args below meth c M' H locs (F0 m 31 ls [])) : ∀ (v1 : Int32) (M : SX) (H : Heap) (locs : List Loc) (ls : Array Slot), Wld G ZY M s.heap H locs → lv_has ls 3 [(0, .ref (G.2.1 0)), (1, .int v1)] → p6_layWays_31 k31 v1 M = some M' → WXv G ZY p l e 3 s m args below meth c M' H locs (F0 m 31 ls []) := by
  intro v1 M H locs ls hw hl hf
  have hx := F.1.1
  have hb := F.1.2.1
  unfold p6_layWays_31 at hf
  refine lv_iload_n hx hb dX6_layWays_31 rfl (lv_at hl 1 rfl) ?_
  refine lv_bipush (v := 64) hx hb dX6_layWays_32 (by decide) ?_
  refine lv_icmp_ge (tgt := 98) hx hb dX6_layWays_34 (by decide) (fun c1 => ?_) (fun c1 => ?_)
  · have hf := it_t hf c1
    exact x_vret F hw hr hk hf dX6_layWays_98
  · have hf := it_f hf c1
    refine lv_iconst (v := 0) hx hb dX6_layWays_37 (by decide) ?_
    refine lv_istore_n (lv' := [(2, .int 0), (0, .ref (G.2.1 0)), (1, .int v1)]) hx hb dX6_layWays_38 rfl hl (by decide) rfl (fun ls hl => ?_)
    exact z6_layWays_39 F hr hk k31 hk31 FU v1 0 M _ _ ls hw (lv_sub hl [1, 2, 0] rfl) hf
theorem z6_layWays_31 {G : XG} {p : Program} {l : Launch} {e : Env} {s : State} {m : MethodId} {args : Array Value} {below : List Frame} {meth : Method} {c : Code} (F : Fx G ZY p m c cX6_layWays 3 s args RX6) (hr : meth.sig.returnType = none) (hk : meth.locks = false) {M' : SX} : ∀ n : Nat, ∀ (v1 : Int32) (M : SX) (H : Heap) (locs : List Loc) (ls : Array Slot), Wld G ZY M s.heap H locs → lv_has ls 3 [(0, .ref (G.2.1 0)), (1, .int v1)] → xlp1 p6_layWays_31 n v1 M = some M' → WXv G ZY p l e 3 s m args below meth c M' H locs (F0 m 31 ls []) := by
  intro n
  induction n with
  | zero => intro _ _ _ _ _ _ _ hf; cases hf
  | succ n ih => exact w6_layWays_31 F hr hk (xlp1 p6_layWays_31 n) ih
def p6_layWays_22 (k2 : Int32 → SX → Option SX) (v1 : Int32) (t1 : Int32) (t2 : Int64) (M : SX) : Option SX :=
  gd (bIn t1 64) ( lt_ (wJ M 13 (Int32.toNatClampNeg t1) t2) (fun M2 => lt_ (v1 + 1) (fun x3 => k2 x3 M2)))
set_option maxHeartbeats 4000000 in
set_option maxRecDepth 100000 in
theorem w6_layWays_22 {G : XG} {p : Program} {l : Launch} {e : Env} {s : State} {m : MethodId} {args : Array Value} {below : List Frame} {meth : Method} {c : Code} (F : Fx G ZY p m c cX6_layWays 3 s args RX6) (hr : meth.sig.returnType = none) (hk : meth.locks = false) {M' : SX} (k2 : Int32 → SX → Option SX) (hk2 : ∀ (v1 : Int32) (M : SX) (H : Heap) (locs : List Loc) (ls : Array Slot), Wld G ZY M s.heap H locs → lv_has ls 3 [(0, .ref (G.2.1 0)), (1, .int v1)] → k2 v1 M = some M' → WXv G ZY p l e 3 s m args below meth c M' H locs (F0 m 2 ls [])) : ∀ (v1 : Int32) (t1 : Int32) (t2 : Int64) (M : SX) (H : Heap) (locs : List Loc) (ls : Array Slot), Wld G ZY M s.heap H locs → lv_has ls 3 [(0, .ref (G.2.1 0)), (1, .int v1)] → p6_layWays_22 k2 v1 t1 t2 M = some M' → WXv G ZY p l e 3 s m args below meth c M' H locs (F0 m 22 ls [.long t2, .int t1, .ref (G.2.1 13)]) := by
  intro v1 t1 t2 M H locs ls hw hl hf
  have hx := F.1.1
  have hb := F.1.2.1
  unfold p6_layWays_22 at hf
  obtain ⟨g1, hf⟩ := gd_some hf
  refine x_last F hw sM13 g1 dX6_layWays_22 (fun H locs hw => ?_)
  obtain ⟨M2, eM2, hf⟩ := lt_elim hf
  rw [← eM2] at hw
  obtain ⟨x3, ex3, hf⟩ := lt_elim hf
  refine lv_iinc (v := x3) (lv' := [(1, .int x3), (0, .ref (G.2.1 0))]) hx hb dX6_layWays_23 hl (k := 1) rfl (by rw [ex3]; rfl) (by decide) rfl (fun ls hl => ?_)
  refine lv_goto (tgt := 2) hx hb dX6_layWays_26 (by decide) ?_
  exact hk2 x3 M2 _ _ ls hw (lv_sub hl [1, 0] rfl) hf
def p6_layWays_2 (k2 : Int32 → SX → Option SX) (v1 : Int32) (M : SX) : Option SX :=
  if (64 : Int32) ≤ v1 then (xlp1 p6_layWays_31 FU 0 M)
  else (if v1 = 0 then (p6_layWays_22 k2 v1 v1 1 M)
  else (p6_layWays_22 k2 v1 v1 0 M))
set_option maxHeartbeats 4000000 in
set_option maxRecDepth 100000 in
theorem w6_layWays_2 {G : XG} {p : Program} {l : Launch} {e : Env} {s : State} {m : MethodId} {args : Array Value} {below : List Frame} {meth : Method} {c : Code} (F : Fx G ZY p m c cX6_layWays 3 s args RX6) (hr : meth.sig.returnType = none) (hk : meth.locks = false) {M' : SX} (k2 : Int32 → SX → Option SX) (hk2 : ∀ (v1 : Int32) (M : SX) (H : Heap) (locs : List Loc) (ls : Array Slot), Wld G ZY M s.heap H locs → lv_has ls 3 [(0, .ref (G.2.1 0)), (1, .int v1)] → k2 v1 M = some M' → WXv G ZY p l e 3 s m args below meth c M' H locs (F0 m 2 ls [])) : ∀ (v1 : Int32) (M : SX) (H : Heap) (locs : List Loc) (ls : Array Slot), Wld G ZY M s.heap H locs → lv_has ls 3 [(0, .ref (G.2.1 0)), (1, .int v1)] → p6_layWays_2 k2 v1 M = some M' → WXv G ZY p l e 3 s m args below meth c M' H locs (F0 m 2 ls []) := by
  intro v1 M H locs ls hw hl hf
  have hx := F.1.1
  have hb := F.1.2.1
  unfold p6_layWays_2 at hf
  refine lv_iload_n hx hb dX6_layWays_2 rfl (lv_at hl 1 rfl) ?_
  refine lv_bipush (v := 64) hx hb dX6_layWays_3 (by decide) ?_
  refine lv_icmp_ge (tgt := 29) hx hb dX6_layWays_5 (by decide) (fun c1 => ?_) (fun c1 => ?_)
  · have hf := it_t hf c1
    refine lv_iconst (v := 0) hx hb dX6_layWays_29 (by decide) ?_
    refine lv_istore_n (lv' := [(1, .int 0), (0, .ref (G.2.1 0))]) hx hb dX6_layWays_30 rfl hl (by decide) rfl (fun ls hl => ?_)
    exact z6_layWays_31 F hr hk FU 0 M _ _ ls hw (lv_sub hl [1, 0] rfl) hf
  · have hf := it_f hf c1
    refine lv_aload_n hx hb dX6_layWays_8 rfl (lv_at hl 0 rfl) ?_
    refine g6_23 F hw tw_811 dX6_layWays_9 ?_
    refine lv_iload_n hx hb dX6_layWays_12 rfl (lv_at hl 1 rfl) ?_
    refine lv_iload_n hx hb dX6_layWays_13 rfl (lv_at hl 1 rfl) ?_
    refine lv_if_ne (tgt := 21) hx hb dX6_layWays_14 (by decide) (fun c2 => ?_) (fun c2 => ?_)
    · have hf := it_f hf c2
      refine lv_lconst (v := 0) hx hb dX6_layWays_21 (by decide) ?_
      exact w6_layWays_22 F hr hk k2 hk2 v1 v1 0 M _ _ ls hw (lv_sub hl [0, 1] rfl) hf
    · have hf := it_t hf c2
      refine lv_lconst (v := 1) hx hb dX6_layWays_17 (by decide) ?_
      refine lv_goto (tgt := 22) hx hb dX6_layWays_18 (by decide) ?_
      exact w6_layWays_22 F hr hk k2 hk2 v1 v1 1 M _ _ ls hw (lv_sub hl [0, 1] rfl) hf
theorem z6_layWays_2 {G : XG} {p : Program} {l : Launch} {e : Env} {s : State} {m : MethodId} {args : Array Value} {below : List Frame} {meth : Method} {c : Code} (F : Fx G ZY p m c cX6_layWays 3 s args RX6) (hr : meth.sig.returnType = none) (hk : meth.locks = false) {M' : SX} : ∀ n : Nat, ∀ (v1 : Int32) (M : SX) (H : Heap) (locs : List Loc) (ls : Array Slot), Wld G ZY M s.heap H locs → lv_has ls 3 [(0, .ref (G.2.1 0)), (1, .int v1)] → xlp1 p6_layWays_2 n v1 M = some M' → WXv G ZY p l e 3 s m args below meth c M' H locs (F0 m 2 ls []) := by
  intro n
  induction n with
  | zero => intro _ _ _ _ _ _ _ hf; cases hf
  | succ n ih => exact w6_layWays_2 F hr hk (xlp1 p6_layWays_2 n) ih
def p6_layWays (M : SX) : Option SX :=
  xlp1 p6_layWays_2 FU 0 M
set_option maxHeartbeats 4000000 in
set_option maxRecDepth 100000 in
theorem c6_layWays {l : Launch} {G : XG} {M' : SX} {M : SX} (hf : p6_layWays M = some M') : Met l yX6_layWays (.code yX6_layWays cX6_layWays 3 none :: TBL) (rmX 3) (xPc G ZY M [.ref (G.2.1 0)]) (xQv G ZY M') 0 0 (inA G ZY) := by
  refine x_met (cc := cX6_layWays) (by decide) (Nat.le_of_ble_eq_true rfl) ?_
  intro p e s m below meth c ls F hr hk hl hw
  have F : Fx G ZY p m c cX6_layWays 3 s [.ref (G.2.1 0)].toArray RX6 := F
  have hl : lv_has ls 3 [(0, .ref (G.2.1 0))] := hl
  have hx := F.1.1
  have hb := F.1.2.1
  unfold p6_layWays at hf
  refine lv_iconst (v := 0) hx hb dX6_layWays_0 (by decide) ?_
  refine lv_istore_n (lv' := [(1, .int 0), (0, .ref (G.2.1 0))]) hx hb dX6_layWays_1 rfl hl (by decide) rfl (fun ls hl => ?_)
  exact z6_layWays_2 F hr hk FU 0 M _ _ ls hw (lv_sub hl [1, 0] rfl) hf
theorem dX6_layOn_0 : decode cX6_layOn 0 = .ok (.bipush 63, 2) := by decide +kernel
theorem dX6_layOn_2 : decode cX6_layOn 2 = .ok (.istore_n 1, 1) := by decide +kernel
theorem dX6_layOn_3 : decode cX6_layOn 3 = .ok (.iload_n 1, 1) := by decide +kernel
theorem dX6_layOn_4 : decode cX6_layOn 4 = .ok (.ifCond .lt 76, 3) := by decide +kernel
theorem dX6_layOn_7 : decode cX6_layOn 7 = .ok (.aload_n 0, 1) := by decide +kernel
theorem dX6_layOn_8 : decode cX6_layOn 8 = .ok (.getfield 54, 3) := by decide +kernel
theorem dX6_layOn_11 : decode cX6_layOn 11 = .ok (.iload_n 1, 1) := by decide +kernel
theorem dX6_layOn_12 : decode cX6_layOn 12 = .ok (.iload_n 1, 1) := by decide +kernel
theorem dX6_layOn_13 : decode cX6_layOn 13 = .ok (.aload_n 0, 1) := by decide +kernel
theorem dX6_layOn_14 : decode cX6_layOn 14 = .ok (.getfield 219, 3) := by decide +kernel
theorem dX6_layOn_17 : decode cX6_layOn 17 = .ok (.if_icmp .ne 7, 3) := by decide +kernel
theorem dX6_layOn_20 : decode cX6_layOn 20 = .ok (.lconst 1, 1) := by decide +kernel
theorem dX6_layOn_21 : decode cX6_layOn 21 = .ok (.goto 4, 3) := by decide +kernel
theorem dX6_layOn_24 : decode cX6_layOn 24 = .ok (.lconst 0, 1) := by decide +kernel
theorem dX6_layOn_25 : decode cX6_layOn 25 = .ok (.lastore, 1) := by decide +kernel
theorem dX6_layOn_26 : decode cX6_layOn 26 = .ok (.iconst 0, 1) := by decide +kernel
theorem dX6_layOn_27 : decode cX6_layOn 27 = .ok (.istore_n 2, 1) := by decide +kernel
theorem dX6_layOn_28 : decode cX6_layOn 28 = .ok (.iload_n 2, 1) := by decide +kernel
theorem dX6_layOn_29 : decode cX6_layOn 29 = .ok (.aload_n 0, 1) := by decide +kernel
theorem dX6_layOn_30 : decode cX6_layOn 30 = .ok (.getfield 140, 3) := by decide +kernel
theorem dX6_layOn_33 : decode cX6_layOn 33 = .ok (.if_icmp .ge 41, 3) := by decide +kernel
theorem dX6_layOn_36 : decode cX6_layOn 36 = .ok (.aload_n 0, 1) := by decide +kernel
theorem dX6_layOn_37 : decode cX6_layOn 37 = .ok (.getfield 54, 3) := by decide +kernel
theorem dX6_layOn_40 : decode cX6_layOn 40 = .ok (.iload_n 1, 1) := by decide +kernel
theorem dX6_layOn_41 : decode cX6_layOn 41 = .ok (.dup2, 1) := by decide +kernel
theorem dX6_layOn_42 : decode cX6_layOn 42 = .ok (.laload, 1) := by decide +kernel
theorem dX6_layOn_43 : decode cX6_layOn 43 = .ok (.aload_n 0, 1) := by decide +kernel
theorem dX6_layOn_44 : decode cX6_layOn 44 = .ok (.iload_n 2, 1) := by decide +kernel
theorem dX6_layOn_45 : decode cX6_layOn 45 = .ok (.iload_n 1, 1) := by decide +kernel
theorem dX6_layOn_46 : decode cX6_layOn 46 = .ok (.invokevirtual 225, 3) := by decide +kernel
theorem dX6_layOn_49 : decode cX6_layOn 49 = .ok (.ifCond .eq 16, 3) := by decide +kernel
theorem dX6_layOn_52 : decode cX6_layOn 52 = .ok (.aload_n 0, 1) := by decide +kernel
theorem dX6_layOn_53 : decode cX6_layOn 53 = .ok (.getfield 54, 3) := by decide +kernel
theorem dX6_layOn_56 : decode cX6_layOn 56 = .ok (.iload_n 1, 1) := by decide +kernel
theorem dX6_layOn_57 : decode cX6_layOn 57 = .ok (.iconst 1, 1) := by decide +kernel
theorem dX6_layOn_58 : decode cX6_layOn 58 = .ok (.iload_n 2, 1) := by decide +kernel
theorem dX6_layOn_59 : decode cX6_layOn 59 = .ok (.ishl, 1) := by decide +kernel
theorem dX6_layOn_60 : decode cX6_layOn 60 = .ok (.ior, 1) := by decide +kernel
theorem dX6_layOn_61 : decode cX6_layOn 61 = .ok (.laload, 1) := by decide +kernel
theorem dX6_layOn_62 : decode cX6_layOn 62 = .ok (.goto 4, 3) := by decide +kernel
theorem dX6_layOn_65 : decode cX6_layOn 65 = .ok (.lconst 0, 1) := by decide +kernel
theorem dX6_layOn_66 : decode cX6_layOn 66 = .ok (.ladd, 1) := by decide +kernel
theorem dX6_layOn_67 : decode cX6_layOn 67 = .ok (.lastore, 1) := by decide +kernel
theorem dX6_layOn_68 : decode cX6_layOn 68 = .ok (.iinc 2 1, 3) := by decide +kernel
theorem dX6_layOn_71 : decode cX6_layOn 71 = .ok (.goto (-43), 3) := by decide +kernel
theorem dX6_layOn_74 : decode cX6_layOn 74 = .ok (.iinc 1 (-1), 3) := by decide +kernel
theorem dX6_layOn_77 : decode cX6_layOn 77 = .ok (.goto (-74), 3) := by decide +kernel
theorem dX6_layOn_80 : decode cX6_layOn 80 = .ok (.return_, 1) := by decide +kernel
def p6_layOn_66 (k3 : Int32 → SX → Option SX) (k28 : Int32 → Int32 → SX → Option SX) (v1 : Int32) (v2 : Int32) (t1 : Int32) (t2 : Int64) (t3 : Int64) (M : SX) : Option SX :=
  gd (bIn t1 64) ( lt_ (wJ M 14 (Int32.toNatClampNeg t1) (t2 + t3)) (fun M2 => lt_ (v2 + 1) (fun x3 => k28 v1 x3 M2)))
set_option maxHeartbeats 4000000 in
set_option maxRecDepth 100000 in
theorem w6_layOn_66 {G : XG} {p : Program} {l : Launch} {e : Env} {s : State} {m : MethodId} {args : Array Value} {below : List Frame} {meth : Method} {c : Code} (F : Fx G ZY p m c cX6_layOn 3 s args RX6) (hr : meth.sig.returnType = none) (hk : meth.locks = false) {M' : SX} (k3 : Int32 → SX → Option SX) (hk3 : ∀ (v1 : Int32) (M : SX) (H : Heap) (locs : List Loc) (ls : Array Slot), Wld G ZY M s.heap H locs → lv_has ls 3 [(0, .ref (G.2.1 0)), (1, .int v1)] → k3 v1 M = some M' → WXv G ZY p l e 3 s m args below meth c M' H locs (F0 m 3 ls [])) (k28 : Int32 → Int32 → SX → Option SX) (hk28 : ∀ (v1 : Int32) (v2 : Int32) (M : SX) (H : Heap) (locs : List Loc) (ls : Array Slot), Wld G ZY M s.heap H locs → lv_has ls 3 [(0, .ref (G.2.1 0)), (1, .int v1), (2, .int v2)] → k28 v1 v2 M = some M' → WXv G ZY p l e 3 s m args below meth c M' H locs (F0 m 28 ls [])) : ∀ (v1 : Int32) (v2 : Int32) (t1 : Int32) (t2 : Int64) (t3 : Int64) (M : SX) (H : Heap) (locs : List Loc) (ls : Array Slot), Wld G ZY M s.heap H locs → lv_has ls 3 [(0, .ref (G.2.1 0)), (1, .int v1), (2, .int v2)] → p6_layOn_66 k3 k28 v1 v2 t1 t2 t3 M = some M' → WXv G ZY p l e 3 s m args below meth c M' H locs (F0 m 66 ls [.long t3, .long t2, .int t1, .ref (G.2.1 14)]) := by
  intro v1 v2 t1 t2 t3 M H locs ls hw hl hf
  have hx := F.1.1
  have hb := F.1.2.1
  unfold p6_layOn_66 at hf
  refine lv_ladd hx hb dX6_layOn_66 ?_
  obtain ⟨g1, hf⟩ := gd_some hf
  refine x_last F hw sM14 g1 dX6_layOn_67 (fun H locs hw => ?_)
  obtain ⟨M2, eM2, hf⟩ := lt_elim hf
  rw [← eM2] at hw
  obtain ⟨x3, ex3, hf⟩ := lt_elim hf
  refine lv_iinc (v := x3) (lv' := [(2, .int x3), (0, .ref (G.2.1 0)), (1, .int v1)]) hx hb dX6_layOn_68 hl (k := 2) rfl (by rw [ex3]; rfl) (by decide) rfl (fun ls hl => ?_)
  refine lv_goto (tgt := 28) hx hb dX6_layOn_71 (by decide) ?_
  exact hk28 v1 x3 M2 _ _ ls hw (lv_sub hl [1, 2, 0] rfl) hf
def p6_layOn_28 (k3 : Int32 → SX → Option SX) (k28 : Int32 → Int32 → SX → Option SX) (v1 : Int32) (v2 : Int32) (M : SX) : Option SX :=
  if (M.1 0 1) ≤ v2 then (lt_ (v1 + (-1)) (fun x2 => k3 x2 M))
  else (gd (bIn v1 64) ( bd (p6_next v2 v1 M) (fun r6 M5 => if r6 = 0 then (p6_layOn_66 k3 k28 v1 v2 v1 (M.2 14 (Int32.toNatClampNeg v1)) 0 M5)
  else (gd (bIn (v1 ||| ((1 : Int32) <<< (v2 &&& 31))) 64) ( p6_layOn_66 k3 k28 v1 v2 v1 (M.2 14 (Int32.toNatClampNeg v1)) (M5.2 14 (Int32.toNatClampNeg (v1 ||| ((1 : Int32) <<< (v2 &&& 31))))) M5)))))
set_option maxHeartbeats 4000000 in
set_option maxRecDepth 100000 in
theorem w6_layOn_28 {G : XG} {p : Program} {l : Launch} {e : Env} {s : State} {m : MethodId} {args : Array Value} {below : List Frame} {meth : Method} {c : Code} (F : Fx G ZY p m c cX6_layOn 3 s args RX6) (hr : meth.sig.returnType = none) (hk : meth.locks = false) {M' : SX} (k3 : Int32 → SX → Option SX) (hk3 : ∀ (v1 : Int32) (M : SX) (H : Heap) (locs : List Loc) (ls : Array Slot), Wld G ZY M s.heap H locs → lv_has ls 3 [(0, .ref (G.2.1 0)), (1, .int v1)] → k3 v1 M = some M' → WXv G ZY p l e 3 s m args below meth c M' H locs (F0 m 3 ls [])) (k28 : Int32 → Int32 → SX → Option SX) (hk28 : ∀ (v1 : Int32) (v2 : Int32) (M : SX) (H : Heap) (locs : List Loc) (ls : Array Slot), Wld G ZY M s.heap H locs → lv_has ls 3 [(0, .ref (G.2.1 0)), (1, .int v1), (2, .int v2)] → k28 v1 v2 M = some M' → WXv G ZY p l e 3 s m args below meth c M' H locs (F0 m 28 ls [])) : ∀ (v1 : Int32) (v2 : Int32) (M : SX) (H : Heap) (locs : List Loc) (ls : Array Slot), Wld G ZY M s.heap H locs → lv_has ls 3 [(0, .ref (G.2.1 0)), (1, .int v1), (2, .int v2)] → p6_layOn_28 k3 k28 v1 v2 M = some M' → WXv G ZY p l e 3 s m args below meth c M' H locs (F0 m 28 ls []) := by
  intro v1 v2 M H locs ls hw hl hf
  have hx := F.1.1
  have hb := F.1.2.1
  unfold p6_layOn_28 at hf
  refine lv_iload_n hx hb dX6_layOn_28 rfl (lv_at hl 2 rfl) ?_
  refine lv_aload_n hx hb dX6_layOn_29 rfl (lv_at hl 0 rfl) ?_
  refine g6_1 F hw tw_611 dX6_layOn_30 ?_
  refine lv_icmp_ge (tgt := 74) hx hb dX6_layOn_33 (by decide) (fun c1 => ?_) (fun c1 => ?_)
  · have hf := it_t hf c1
    obtain ⟨x2, ex2, hf⟩ := lt_elim hf
    refine lv_iinc (v := x2) (lv' := [(1, .int x2), (0, .ref (G.2.1 0)), (2, .int v2)]) hx hb dX6_layOn_74 hl (k := 1) rfl (by rw [ex2]; rfl) (by decide) rfl (fun ls hl => ?_)
    refine lv_goto (tgt := 3) hx hb dX6_layOn_77 (by decide) ?_
    exact hk3 x2 M _ _ ls hw (lv_sub hl [1, 0] rfl) hf
  · have hf := it_f hf c1
    refine lv_aload_n hx hb dX6_layOn_36 rfl (lv_at hl 0 rfl) ?_
    refine g6_24 F hw tw_817 dX6_layOn_37 ?_
    refine lv_iload_n hx hb dX6_layOn_40 rfl (lv_at hl 1 rfl) ?_
    refine lv_dup2_11 hx hb dX6_layOn_41 rfl rfl ?_
    obtain ⟨g3, hf⟩ := gd_some hf
    refine x_lald F hw sM14 g3 dX6_layOn_42 ?_
    refine lv_aload_n hx hb dX6_layOn_43 rfl (lv_at hl 0 rfl) ?_
    refine lv_iload_n hx hb dX6_layOn_44 rfl (lv_at hl 2 rfl) ?_
    refine lv_iload_n hx hb dX6_layOn_45 rfl (lv_at hl 1 rfl) ?_
    obtain ⟨r6, M5, hc4, hf⟩ := bd_some hf
    refine x_aftI hw (x_runV (rest := [.long (M.2 14 (Int32.toNatClampNeg v1)), .int v1, .ref (G.2.1 14)]) F hw hl.1 vw_RX6_225 (sM) rfl (c6_next v2 v1 hc4) rfl rfl (Nat.le_of_ble_eq_true rfl) ⟨Nat.le_of_ble_eq_true rfl, Nat.le_of_ble_eq_true rfl⟩ dX6_layOn_46) (fun H locs hw => ?_)
    refine lv_if_eq (tgt := 65) hx hb dX6_layOn_49 (by decide) (fun c7 => ?_) (fun c7 => ?_)
    · have hf := it_t hf c7
      refine lv_lconst (v := 0) hx hb dX6_layOn_65 (by decide) ?_
      exact w6_layOn_66 F hr hk k3 hk3 k28 hk28 v1 v2 v1 (M.2 14 (Int32.toNatClampNeg v1)) 0 M5 _ _ ls hw (lv_sub hl [0, 1, 2] rfl) hf
    · have hf := it_f hf c7
      refine lv_aload_n hx hb dX6_layOn_52 rfl (lv_at hl 0 rfl) ?_
      refine g6_24 F hw tw_817 dX6_layOn_53 ?_
      refine lv_iload_n hx hb dX6_layOn_56 rfl (lv_at hl 1 rfl) ?_
      refine lv_iconst (v := 1) hx hb dX6_layOn_57 (by decide) ?_
      refine lv_iload_n hx hb dX6_layOn_58 rfl (lv_at hl 2 rfl) ?_
      refine lv_ishl hx hb dX6_layOn_59 ?_
      refine lv_ior hx hb dX6_layOn_60 ?_
      obtain ⟨g8, hf⟩ := gd_some hf
      refine x_lald F hw sM14 g8 dX6_layOn_61 ?_
      refine lv_goto (tgt := 66) hx hb dX6_layOn_62 (by decide) ?_
      exact w6_layOn_66 F hr hk k3 hk3 k28 hk28 v1 v2 v1 (M.2 14 (Int32.toNatClampNeg v1)) (M5.2 14 (Int32.toNatClampNeg (v1 ||| ((1 : Int32) <<< (v2 &&& 31))))) M5 _ _ ls hw (lv_sub hl [0, 1, 2] rfl) hf
theorem z6_layOn_28 {G : XG} {p : Program} {l : Launch} {e : Env} {s : State} {m : MethodId} {args : Array Value} {below : List Frame} {meth : Method} {c : Code} (F : Fx G ZY p m c cX6_layOn 3 s args RX6) (hr : meth.sig.returnType = none) (hk : meth.locks = false) {M' : SX} (k3 : Int32 → SX → Option SX) (hk3 : ∀ (v1 : Int32) (M : SX) (H : Heap) (locs : List Loc) (ls : Array Slot), Wld G ZY M s.heap H locs → lv_has ls 3 [(0, .ref (G.2.1 0)), (1, .int v1)] → k3 v1 M = some M' → WXv G ZY p l e 3 s m args below meth c M' H locs (F0 m 3 ls [])) : ∀ n : Nat, ∀ (v1 : Int32) (v2 : Int32) (M : SX) (H : Heap) (locs : List Loc) (ls : Array Slot), Wld G ZY M s.heap H locs → lv_has ls 3 [(0, .ref (G.2.1 0)), (1, .int v1), (2, .int v2)] → xlp2 (p6_layOn_28 k3) n v1 v2 M = some M' → WXv G ZY p l e 3 s m args below meth c M' H locs (F0 m 28 ls []) := by
  intro n
  induction n with
  | zero => intro _ _ _ _ _ _ _ _ hf; cases hf
  | succ n ih => exact w6_layOn_28 F hr hk k3 hk3 (xlp2 (p6_layOn_28 k3) n) ih
def p6_layOn_25 (k3 : Int32 → SX → Option SX) (v1 : Int32) (t1 : Int32) (t2 : Int64) (M : SX) : Option SX :=
  gd (bIn t1 64) ( lt_ (wJ M 14 (Int32.toNatClampNeg t1) t2) (fun M2 => xlp2 (p6_layOn_28 k3) FU v1 0 M2))
set_option maxHeartbeats 4000000 in
set_option maxRecDepth 100000 in
theorem w6_layOn_25 {G : XG} {p : Program} {l : Launch} {e : Env} {s : State} {m : MethodId} {args : Array Value} {below : List Frame} {meth : Method} {c : Code} (F : Fx G ZY p m c cX6_layOn 3 s args RX6) (hr : meth.sig.returnType = none) (hk : meth.locks = false) {M' : SX} (k3 : Int32 → SX → Option SX) (hk3 : ∀ (v1 : Int32) (M : SX) (H : Heap) (locs : List Loc) (ls : Array Slot), Wld G ZY M s.heap H locs → lv_has ls 3 [(0, .ref (G.2.1 0)), (1, .int v1)] → k3 v1 M = some M' → WXv G ZY p l e 3 s m args below meth c M' H locs (F0 m 3 ls [])) : ∀ (v1 : Int32) (t1 : Int32) (t2 : Int64) (M : SX) (H : Heap) (locs : List Loc) (ls : Array Slot), Wld G ZY M s.heap H locs → lv_has ls 3 [(0, .ref (G.2.1 0)), (1, .int v1)] → p6_layOn_25 k3 v1 t1 t2 M = some M' → WXv G ZY p l e 3 s m args below meth c M' H locs (F0 m 25 ls [.long t2, .int t1, .ref (G.2.1 14)]) := by
  intro v1 t1 t2 M H locs ls hw hl hf
  have hx := F.1.1
  have hb := F.1.2.1
  unfold p6_layOn_25 at hf
  obtain ⟨g1, hf⟩ := gd_some hf
  refine x_last F hw sM14 g1 dX6_layOn_25 (fun H locs hw => ?_)
  obtain ⟨M2, eM2, hf⟩ := lt_elim hf
  rw [← eM2] at hw
  refine lv_iconst (v := 0) hx hb dX6_layOn_26 (by decide) ?_
  refine lv_istore_n (lv' := [(2, .int 0), (0, .ref (G.2.1 0)), (1, .int v1)]) hx hb dX6_layOn_27 rfl hl (by decide) rfl (fun ls hl => ?_)
  exact z6_layOn_28 F hr hk k3 hk3 FU v1 0 M2 _ _ ls hw (lv_sub hl [1, 2, 0] rfl) hf
def p6_layOn_3 (k3 : Int32 → SX → Option SX) (v1 : Int32) (M : SX) : Option SX :=
  if v1 < 0 then (some M)
  else (if v1 = (M.1 0 22) then (p6_layOn_25 k3 v1 v1 1 M)
  else (p6_layOn_25 k3 v1 v1 0 M))
set_option maxHeartbeats 4000000 in
set_option maxRecDepth 100000 in
theorem w6_layOn_3 {G : XG} {p : Program} {l : Launch} {e : Env} {s : State} {m : MethodId} {args : Array Value} {below : List Frame} {meth : Method} {c : Code} (F : Fx G ZY p m c cX6_layOn 3 s args RX6) (hr : meth.sig.returnType = none) (hk : meth.locks = false) {M' : SX} (k3 : Int32 → SX → Option SX) (hk3 : ∀ (v1 : Int32) (M : SX) (H : Heap) (locs : List Loc) (ls : Array Slot), Wld G ZY M s.heap H locs → lv_has ls 3 [(0, .ref (G.2.1 0)), (1, .int v1)] → k3 v1 M = some M' → WXv G ZY p l e 3 s m args below meth c M' H locs (F0 m 3 ls [])) : ∀ (v1 : Int32) (M : SX) (H : Heap) (locs : List Loc) (ls : Array Slot), Wld G ZY M s.heap H locs → lv_has ls 3 [(0, .ref (G.2.1 0)), (1, .int v1)] → p6_layOn_3 k3 v1 M = some M' → WXv G ZY p l e 3 s m args below meth c M' H locs (F0 m 3 ls []) := by
  intro v1 M H locs ls hw hl hf
  have hx := F.1.1
  have hb := F.1.2.1
  unfold p6_layOn_3 at hf
  refine lv_iload_n hx hb dX6_layOn_3 rfl (lv_at hl 1 rfl) ?_
  refine lv_if_lt (tgt := 80) hx hb dX6_layOn_4 (by decide) (fun c1 => ?_) (fun c1 => ?_)
  · have hf := it_t hf c1
    exact x_vret F hw hr hk hf dX6_layOn_80
  · have hf := it_f hf c1
    refine lv_aload_n hx hb dX6_layOn_7 rfl (lv_at hl 0 rfl) ?_
    refine g6_24 F hw tw_817 dX6_layOn_8 ?_
    refine lv_iload_n hx hb dX6_layOn_11 rfl (lv_at hl 1 rfl) ?_
    refine lv_iload_n hx hb dX6_layOn_12 rfl (lv_at hl 1 rfl) ?_
    refine lv_aload_n hx hb dX6_layOn_13 rfl (lv_at hl 0 rfl) ?_
    refine g6_22 F hw tw_745 dX6_layOn_14 ?_
    refine lv_icmp_ne (tgt := 24) hx hb dX6_layOn_17 (by decide) (fun c2 => ?_) (fun c2 => ?_)
    · have hf := it_f hf c2
      refine lv_lconst (v := 0) hx hb dX6_layOn_24 (by decide) ?_
      exact w6_layOn_25 F hr hk k3 hk3 v1 v1 0 M _ _ ls hw (lv_sub hl [0, 1] rfl) hf
    · have hf := it_t hf c2
      refine lv_lconst (v := 1) hx hb dX6_layOn_20 (by decide) ?_
      refine lv_goto (tgt := 25) hx hb dX6_layOn_21 (by decide) ?_
      exact w6_layOn_25 F hr hk k3 hk3 v1 v1 1 M _ _ ls hw (lv_sub hl [0, 1] rfl) hf
theorem z6_layOn_3 {G : XG} {p : Program} {l : Launch} {e : Env} {s : State} {m : MethodId} {args : Array Value} {below : List Frame} {meth : Method} {c : Code} (F : Fx G ZY p m c cX6_layOn 3 s args RX6) (hr : meth.sig.returnType = none) (hk : meth.locks = false) {M' : SX} : ∀ n : Nat, ∀ (v1 : Int32) (M : SX) (H : Heap) (locs : List Loc) (ls : Array Slot), Wld G ZY M s.heap H locs → lv_has ls 3 [(0, .ref (G.2.1 0)), (1, .int v1)] → xlp1 p6_layOn_3 n v1 M = some M' → WXv G ZY p l e 3 s m args below meth c M' H locs (F0 m 3 ls []) := by
  intro n
  induction n with
  | zero => intro _ _ _ _ _ _ _ hf; cases hf
  | succ n ih => exact w6_layOn_3 F hr hk (xlp1 p6_layOn_3 n) ih
def p6_layOn (M : SX) : Option SX :=
  xlp1 p6_layOn_3 FU 63 M
set_option maxHeartbeats 4000000 in
set_option maxRecDepth 100000 in
theorem c6_layOn {l : Launch} {G : XG} {M' : SX} {M : SX} (hf : p6_layOn M = some M') : Met l yX6_layOn (.code yX6_layOn cX6_layOn 3 none :: TBL) (rmX 3) (xPc G ZY M [.ref (G.2.1 0)]) (xQv G ZY M') 0 0 (inA G ZY) := by
  refine x_met (cc := cX6_layOn) (by decide) (Nat.le_of_ble_eq_true rfl) ?_
  intro p e s m below meth c ls F hr hk hl hw
  have F : Fx G ZY p m c cX6_layOn 3 s [.ref (G.2.1 0)].toArray RX6 := F
  have hl : lv_has ls 3 [(0, .ref (G.2.1 0))] := hl
  have hx := F.1.1
  have hb := F.1.2.1
  unfold p6_layOn at hf
  refine lv_bipush (v := 63) hx hb dX6_layOn_0 (by decide) ?_
  refine lv_istore_n (lv' := [(1, .int 63), (0, .ref (G.2.1 0))]) hx hb dX6_layOn_2 rfl hl (by decide) rfl (fun ls hl => ?_)
  exact z6_layOn_3 F hr hk FU 63 M _ _ ls hw (lv_sub hl [1, 0] rfl) hf
theorem dX6_can_0 : decode cX6_can 0 = .ok (.aload_n 0, 1) := by decide +kernel
theorem dX6_can_1 : decode cX6_can 1 = .ok (.invokevirtual 173, 3) := by decide +kernel
theorem dX6_can_4 : decode cX6_can 4 = .ok (.ireturn, 1) := by decide +kernel
def p6_can (M : SX) : Option (Int32 × SX) :=
  bd (p6_canNow M) (fun r3 M2 => some (r3, M2))
set_option maxHeartbeats 4000000 in
set_option maxRecDepth 100000 in
theorem c6_can {l : Launch} {G : XG} {r : Int32} {M' : SX} {M : SX} (hf : p6_can M = some (r, M')) : Met l yX6_can (.code yX6_can cX6_can 1 (some .int) :: TBL) (rmX 3) (xPc G ZY M [.ref (G.2.1 0)]) (xQi G ZY r M') 0 0 (inA G ZY) := by
  refine x_met (cc := cX6_can) (by decide) (Nat.le_of_ble_eq_true rfl) ?_
  intro p e s m below meth c ls F hr hk hl hw
  have F : Fx G ZY p m c cX6_can 1 s [.ref (G.2.1 0)].toArray RX6 := F
  have hl : lv_has ls 1 [(0, .ref (G.2.1 0))] := hl
  have hx := F.1.1
  have hb := F.1.2.1
  unfold p6_can at hf
  refine lv_aload_n hx hb dX6_can_0 rfl (lv_at hl 0 rfl) ?_
  obtain ⟨r3, M2, hc1, hf⟩ := bd_some hf
  refine x_aftI hw (x_runV (rest := []) F hw hl.1 vw_RX6_173 (sM) rfl (c6_canNow hc1) rfl rfl (Nat.le_of_ble_eq_true rfl) ⟨Nat.le_of_ble_eq_true rfl, Nat.le_of_ble_eq_true rfl⟩ dX6_can_1) (fun H locs hw => ?_)
  exact x_iret F hw hr hk hf dX6_can_4
theorem dX6_free_0 : decode cX6_free 0 = .ok (.aload_n 0, 1) := by decide +kernel
theorem dX6_free_1 : decode cX6_free 1 = .ok (.iload_n 1, 1) := by decide +kernel
theorem dX6_free_2 : decode cX6_free 2 = .ok (.invokevirtual 152, 3) := by decide +kernel
theorem dX6_free_5 : decode cX6_free 5 = .ok (.ifCond .eq 10, 3) := by decide +kernel
theorem dX6_free_8 : decode cX6_free 8 = .ok (.iload_n 2, 1) := by decide +kernel
theorem dX6_free_9 : decode cX6_free 9 = .ok (.invokestatic 75, 3) := by decide +kernel
theorem dX6_free_12 : decode cX6_free 12 = .ok (.ifCond .ne 5, 3) := by decide +kernel
theorem dX6_free_15 : decode cX6_free 15 = .ok (.iconst (-1), 1) := by decide +kernel
theorem dX6_free_16 : decode cX6_free 16 = .ok (.ireturn, 1) := by decide +kernel
theorem dX6_free_17 : decode cX6_free 17 = .ok (.aload_n 0, 1) := by decide +kernel
theorem dX6_free_18 : decode cX6_free 18 = .ok (.iconst 0, 1) := by decide +kernel
theorem dX6_free_19 : decode cX6_free 19 = .ok (.iconst 0, 1) := by decide +kernel
theorem dX6_free_20 : decode cX6_free 20 = .ok (.invokevirtual 231, 3) := by decide +kernel
theorem dX6_free_23 : decode cX6_free 23 = .ok (.bipush 63, 2) := by decide +kernel
theorem dX6_free_25 : decode cX6_free 25 = .ok (.istore_n 3, 1) := by decide +kernel
theorem dX6_free_26 : decode cX6_free 26 = .ok (.iload_n 3, 1) := by decide +kernel
theorem dX6_free_27 : decode cX6_free 27 = .ok (.ifCond .lt 125, 3) := by decide +kernel
theorem dX6_free_30 : decode cX6_free 30 = .ok (.aload_n 0, 1) := by decide +kernel
theorem dX6_free_31 : decode cX6_free 31 = .ok (.getfield 57, 3) := by decide +kernel
theorem dX6_free_34 : decode cX6_free 34 = .ok (.iload_n 3, 1) := by decide +kernel
theorem dX6_free_35 : decode cX6_free 35 = .ok (.iload_n 3, 1) := by decide +kernel
theorem dX6_free_36 : decode cX6_free 36 = .ok (.iload_n 1, 1) := by decide +kernel
theorem dX6_free_37 : decode cX6_free 37 = .ok (.invokestatic 181, 3) := by decide +kernel
theorem dX6_free_40 : decode cX6_free 40 = .ok (.ifCond .ne 14, 3) := by decide +kernel
theorem dX6_free_43 : decode cX6_free 43 = .ok (.aload_n 0, 1) := by decide +kernel
theorem dX6_free_44 : decode cX6_free 44 = .ok (.getfield 219, 3) := by decide +kernel
theorem dX6_free_47 : decode cX6_free 47 = .ok (.iload_n 1, 1) := by decide +kernel
theorem dX6_free_48 : decode cX6_free 48 = .ok (.invokestatic 181, 3) := by decide +kernel
theorem dX6_free_51 : decode cX6_free 51 = .ok (.ifCond .ne 7, 3) := by decide +kernel
theorem dX6_free_54 : decode cX6_free 54 = .ok (.iconst 0, 1) := by decide +kernel
theorem dX6_free_55 : decode cX6_free 55 = .ok (.goto 5, 3) := by decide +kernel
theorem dX6_free_58 : decode cX6_free 58 = .ok (.bipush 99, 2) := by decide +kernel
theorem dX6_free_60 : decode cX6_free 60 = .ok (.iastore, 1) := by decide +kernel
theorem dX6_free_61 : decode cX6_free 61 = .ok (.iconst 0, 1) := by decide +kernel
theorem dX6_free_62 : decode cX6_free 62 = .ok (.istore 4, 2) := by decide +kernel
theorem dX6_free_64 : decode cX6_free 64 = .ok (.iload 4, 2) := by decide +kernel
theorem dX6_free_66 : decode cX6_free 66 = .ok (.aload_n 0, 1) := by decide +kernel
theorem dX6_free_67 : decode cX6_free 67 = .ok (.getfield 140, 3) := by decide +kernel
theorem dX6_free_70 : decode cX6_free 70 = .ok (.if_icmp .ge 76, 3) := by decide +kernel
theorem dX6_free_73 : decode cX6_free 73 = .ok (.aload_n 0, 1) := by decide +kernel
theorem dX6_free_74 : decode cX6_free 74 = .ok (.getfield 57, 3) := by decide +kernel
theorem dX6_free_77 : decode cX6_free 77 = .ok (.iload_n 3, 1) := by decide +kernel
theorem dX6_free_78 : decode cX6_free 78 = .ok (.iaload, 1) := by decide +kernel
theorem dX6_free_79 : decode cX6_free 79 = .ok (.ifCond .le 67, 3) := by decide +kernel
theorem dX6_free_82 : decode cX6_free 82 = .ok (.aload_n 0, 1) := by decide +kernel
theorem dX6_free_83 : decode cX6_free 83 = .ok (.iload 4, 2) := by decide +kernel
theorem dX6_free_85 : decode cX6_free 85 = .ok (.iload_n 3, 1) := by decide +kernel
theorem dX6_free_86 : decode cX6_free 86 = .ok (.invokevirtual 225, 3) := by decide +kernel
theorem dX6_free_89 : decode cX6_free 89 = .ok (.ifCond .eq 19, 3) := by decide +kernel
theorem dX6_free_92 : decode cX6_free 92 = .ok (.iconst 1, 1) := by decide +kernel
theorem dX6_free_93 : decode cX6_free 93 = .ok (.aload_n 0, 1) := by decide +kernel
theorem dX6_free_94 : decode cX6_free 94 = .ok (.getfield 57, 3) := by decide +kernel
theorem dX6_free_97 : decode cX6_free 97 = .ok (.iload_n 3, 1) := by decide +kernel
theorem dX6_free_98 : decode cX6_free 98 = .ok (.iconst 1, 1) := by decide +kernel
theorem dX6_free_99 : decode cX6_free 99 = .ok (.iload 4, 2) := by decide +kernel
theorem dX6_free_101 : decode cX6_free 101 = .ok (.ishl, 1) := by decide +kernel
theorem dX6_free_102 : decode cX6_free 102 = .ok (.ior, 1) := by decide +kernel
theorem dX6_free_103 : decode cX6_free 103 = .ok (.iaload, 1) := by decide +kernel
theorem dX6_free_104 : decode cX6_free 104 = .ok (.iadd, 1) := by decide +kernel
theorem dX6_free_105 : decode cX6_free 105 = .ok (.goto 5, 3) := by decide +kernel
theorem dX6_free_108 : decode cX6_free 108 = .ok (.bipush 99, 2) := by decide +kernel
theorem dX6_free_110 : decode cX6_free 110 = .ok (.istore 5, 2) := by decide +kernel
theorem dX6_free_112 : decode cX6_free 112 = .ok (.aload_n 0, 1) := by decide +kernel
theorem dX6_free_113 : decode cX6_free 113 = .ok (.getfield 57, 3) := by decide +kernel
theorem dX6_free_116 : decode cX6_free 116 = .ok (.iload_n 3, 1) := by decide +kernel
theorem dX6_free_117 : decode cX6_free 117 = .ok (.iload 5, 2) := by decide +kernel
theorem dX6_free_119 : decode cX6_free 119 = .ok (.aload_n 0, 1) := by decide +kernel
theorem dX6_free_120 : decode cX6_free 120 = .ok (.getfield 57, 3) := by decide +kernel
theorem dX6_free_123 : decode cX6_free 123 = .ok (.iload_n 3, 1) := by decide +kernel
theorem dX6_free_124 : decode cX6_free 124 = .ok (.iaload, 1) := by decide +kernel
theorem dX6_free_125 : decode cX6_free 125 = .ok (.if_icmp .ge 8, 3) := by decide +kernel
theorem dX6_free_128 : decode cX6_free 128 = .ok (.iload 5, 2) := by decide +kernel
theorem dX6_free_130 : decode cX6_free 130 = .ok (.goto 9, 3) := by decide +kernel
theorem dX6_free_133 : decode cX6_free 133 = .ok (.aload_n 0, 1) := by decide +kernel
theorem dX6_free_134 : decode cX6_free 134 = .ok (.getfield 57, 3) := by decide +kernel
theorem dX6_free_137 : decode cX6_free 137 = .ok (.iload_n 3, 1) := by decide +kernel
theorem dX6_free_138 : decode cX6_free 138 = .ok (.iaload, 1) := by decide +kernel
theorem dX6_free_139 : decode cX6_free 139 = .ok (.iastore, 1) := by decide +kernel
theorem dX6_free_140 : decode cX6_free 140 = .ok (.iinc 4 1, 3) := by decide +kernel
theorem dX6_free_143 : decode cX6_free 143 = .ok (.goto (-79), 3) := by decide +kernel
theorem dX6_free_146 : decode cX6_free 146 = .ok (.iinc 3 (-1), 3) := by decide +kernel
theorem dX6_free_149 : decode cX6_free 149 = .ok (.goto (-123), 3) := by decide +kernel
theorem dX6_free_152 : decode cX6_free 152 = .ok (.aload_n 0, 1) := by decide +kernel
theorem dX6_free_153 : decode cX6_free 153 = .ok (.getfield 57, 3) := by decide +kernel
theorem dX6_free_156 : decode cX6_free 156 = .ok (.iconst 0, 1) := by decide +kernel
theorem dX6_free_157 : decode cX6_free 157 = .ok (.iaload, 1) := by decide +kernel
theorem dX6_free_158 : decode cX6_free 158 = .ok (.istore_n 3, 1) := by decide +kernel
theorem dX6_free_159 : decode cX6_free 159 = .ok (.iload_n 3, 1) := by decide +kernel
theorem dX6_free_160 : decode cX6_free 160 = .ok (.bipush 98, 2) := by decide +kernel
theorem dX6_free_162 : decode cX6_free 162 = .ok (.if_icmp .le 6, 3) := by decide +kernel
theorem dX6_free_165 : decode cX6_free 165 = .ok (.bipush (-9), 2) := by decide +kernel
theorem dX6_free_167 : decode cX6_free 167 = .ok (.ireturn, 1) := by decide +kernel
theorem dX6_free_168 : decode cX6_free 168 = .ok (.aload_n 0, 1) := by decide +kernel
theorem dX6_free_169 : decode cX6_free 169 = .ok (.iload_n 2, 1) := by decide +kernel
theorem dX6_free_170 : decode cX6_free 170 = .ok (.iload_n 3, 1) := by decide +kernel
theorem dX6_free_171 : decode cX6_free 171 = .ok (.invokevirtual 83, 3) := by decide +kernel
theorem dX6_free_174 : decode cX6_free 174 = .ok (.iconst 0, 1) := by decide +kernel
theorem dX6_free_175 : decode cX6_free 175 = .ok (.istore 4, 2) := by decide +kernel
theorem dX6_free_177 : decode cX6_free 177 = .ok (.iconst 0, 1) := by decide +kernel
theorem dX6_free_178 : decode cX6_free 178 = .ok (.istore 5, 2) := by decide +kernel
theorem dX6_free_180 : decode cX6_free 180 = .ok (.iload 5, 2) := by decide +kernel
theorem dX6_free_182 : decode cX6_free 182 = .ok (.iload_n 3, 1) := by decide +kernel
theorem dX6_free_183 : decode cX6_free 183 = .ok (.if_icmp .ge 73, 3) := by decide +kernel
theorem dX6_free_186 : decode cX6_free 186 = .ok (.iconst 0, 1) := by decide +kernel
theorem dX6_free_187 : decode cX6_free 187 = .ok (.istore 6, 2) := by decide +kernel
theorem dX6_free_189 : decode cX6_free 189 = .ok (.aload_n 0, 1) := by decide +kernel
theorem dX6_free_190 : decode cX6_free 190 = .ok (.iload 6, 2) := by decide +kernel
theorem dX6_free_192 : decode cX6_free 192 = .ok (.iload 4, 2) := by decide +kernel
theorem dX6_free_194 : decode cX6_free 194 = .ok (.invokevirtual 225, 3) := by decide +kernel
theorem dX6_free_197 : decode cX6_free 197 = .ok (.ifCond .eq 24, 3) := by decide +kernel
theorem dX6_free_200 : decode cX6_free 200 = .ok (.aload_n 0, 1) := by decide +kernel
theorem dX6_free_201 : decode cX6_free 201 = .ok (.getfield 57, 3) := by decide +kernel
theorem dX6_free_204 : decode cX6_free 204 = .ok (.iload 4, 2) := by decide +kernel
theorem dX6_free_206 : decode cX6_free 206 = .ok (.iconst 1, 1) := by decide +kernel
theorem dX6_free_207 : decode cX6_free 207 = .ok (.iload 6, 2) := by decide +kernel
theorem dX6_free_209 : decode cX6_free 209 = .ok (.ishl, 1) := by decide +kernel
theorem dX6_free_210 : decode cX6_free 210 = .ok (.ior, 1) := by decide +kernel
theorem dX6_free_211 : decode cX6_free 211 = .ok (.iaload, 1) := by decide +kernel
theorem dX6_free_212 : decode cX6_free 212 = .ok (.iload_n 3, 1) := by decide +kernel
theorem dX6_free_213 : decode cX6_free 213 = .ok (.iload 5, 2) := by decide +kernel
theorem dX6_free_215 : decode cX6_free 215 = .ok (.isub, 1) := by decide +kernel
theorem dX6_free_216 : decode cX6_free 216 = .ok (.iconst 1, 1) := by decide +kernel
theorem dX6_free_217 : decode cX6_free 217 = .ok (.isub, 1) := by decide +kernel
theorem dX6_free_218 : decode cX6_free 218 = .ok (.if_icmp .eq 9, 3) := by decide +kernel
theorem dX6_free_221 : decode cX6_free 221 = .ok (.iinc 6 1, 3) := by decide +kernel
theorem dX6_free_224 : decode cX6_free 224 = .ok (.goto (-35), 3) := by decide +kernel
theorem dX6_free_227 : decode cX6_free 227 = .ok (.aload_n 0, 1) := by decide +kernel
theorem dX6_free_228 : decode cX6_free 228 = .ok (.getfield 19, 3) := by decide +kernel
theorem dX6_free_231 : decode cX6_free 231 = .ok (.bipush 40, 2) := by decide +kernel
theorem dX6_free_233 : decode cX6_free 233 = .ok (.iload_n 2, 1) := by decide +kernel
theorem dX6_free_234 : decode cX6_free 234 = .ok (.imul, 1) := by decide +kernel
theorem dX6_free_235 : decode cX6_free 235 = .ok (.iload 5, 2) := by decide +kernel
theorem dX6_free_237 : decode cX6_free 237 = .ok (.iadd, 1) := by decide +kernel
theorem dX6_free_238 : decode cX6_free 238 = .ok (.iload 6, 2) := by decide +kernel
theorem dX6_free_240 : decode cX6_free 240 = .ok (.iastore, 1) := by decide +kernel
theorem dX6_free_241 : decode cX6_free 241 = .ok (.iload 4, 2) := by decide +kernel
theorem dX6_free_243 : decode cX6_free 243 = .ok (.iconst 1, 1) := by decide +kernel
theorem dX6_free_244 : decode cX6_free 244 = .ok (.iload 6, 2) := by decide +kernel
theorem dX6_free_246 : decode cX6_free 246 = .ok (.ishl, 1) := by decide +kernel
theorem dX6_free_247 : decode cX6_free 247 = .ok (.ior, 1) := by decide +kernel
theorem dX6_free_248 : decode cX6_free 248 = .ok (.istore 4, 2) := by decide +kernel
theorem dX6_free_250 : decode cX6_free 250 = .ok (.iinc 5 1, 3) := by decide +kernel
theorem dX6_free_253 : decode cX6_free 253 = .ok (.goto (-73), 3) := by decide +kernel
theorem dX6_free_256 : decode cX6_free 256 = .ok (.iload_n 3, 1) := by decide +kernel
theorem dX6_free_257 : decode cX6_free 257 = .ok (.ireturn, 1) := by decide +kernel
def p6_free_221 (k180 : Int32 → Int32 → Int32 → Int32 → SX → Option (Int32 × SX)) (k189 : Int32 → Int32 → Int32 → Int32 → Int32 → SX → Option (Int32 × SX)) (v2 : Int32) (v3 : Int32) (v4 : Int32) (v5 : Int32) (v6 : Int32) (M : SX) : Option (Int32 × SX) :=
  lt_ (v6 + 1) (fun x1 => k189 v2 v3 v4 v5 x1 M)
set_option maxHeartbeats 4000000 in
set_option maxRecDepth 100000 in
theorem w6_free_221 {G : XG} {p : Program} {l : Launch} {e : Env} {s : State} {m : MethodId} {args : Array Value} {below : List Frame} {meth : Method} {c : Code} (F : Fx G ZY p m c cX6_free 7 s args RX6) (hr : meth.sig.returnType = some .int) (hk : meth.locks = false) {r : Int32} {M' : SX} (k180 : Int32 → Int32 → Int32 → Int32 → SX → Option (Int32 × SX)) (hk180 : ∀ (v2 : Int32) (v3 : Int32) (v4 : Int32) (v5 : Int32) (M : SX) (H : Heap) (locs : List Loc) (ls : Array Slot), Wld G ZY M s.heap H locs → lv_has ls 7 [(0, .ref (G.2.1 0)), (2, .int v2), (3, .int v3), (4, .int v4), (5, .int v5)] → k180 v2 v3 v4 v5 M = some (r, M') → WXi G ZY p l e 3 s m args below meth c r M' H locs (F0 m 180 ls [])) (k189 : Int32 → Int32 → Int32 → Int32 → Int32 → SX → Option (Int32 × SX)) (hk189 : ∀ (v2 : Int32) (v3 : Int32) (v4 : Int32) (v5 : Int32) (v6 : Int32) (M : SX) (H : Heap) (locs : List Loc) (ls : Array Slot), Wld G ZY M s.heap H locs → lv_has ls 7 [(0, .ref (G.2.1 0)), (2, .int v2), (3, .int v3), (4, .int v4), (5, .int v5), (6, .int v6)] → k189 v2 v3 v4 v5 v6 M = some (r, M') → WXi G ZY p l e 3 s m args below meth c r M' H locs (F0 m 189 ls [])) : ∀ (v2 : Int32) (v3 : Int32) (v4 : Int32) (v5 : Int32) (v6 : Int32) (M : SX) (H : Heap) (locs : List Loc) (ls : Array Slot), Wld G ZY M s.heap H locs → lv_has ls 7 [(0, .ref (G.2.1 0)), (2, .int v2), (3, .int v3), (4, .int v4), (5, .int v5), (6, .int v6)] → p6_free_221 k180 k189 v2 v3 v4 v5 v6 M = some (r, M') → WXi G ZY p l e 3 s m args below meth c r M' H locs (F0 m 221 ls []) := by
  intro v2 v3 v4 v5 v6 M H locs ls hw hl hf
  have hx := F.1.1
  have hb := F.1.2.1
  unfold p6_free_221 at hf
  obtain ⟨x1, ex1, hf⟩ := lt_elim hf
  refine lv_iinc (v := x1) (lv' := [(6, .int x1), (0, .ref (G.2.1 0)), (2, .int v2), (3, .int v3), (4, .int v4), (5, .int v5)]) hx hb dX6_free_221 hl (k := 5) rfl (by rw [ex1]; rfl) (by decide) rfl (fun ls hl => ?_)
  refine lv_goto (tgt := 189) hx hb dX6_free_224 (by decide) ?_
  exact hk189 v2 v3 v4 v5 x1 M _ _ ls hw (lv_sub hl [1, 2, 3, 4, 5, 0] rfl) hf
def p6_free_189 (k180 : Int32 → Int32 → Int32 → Int32 → SX → Option (Int32 × SX)) (k189 : Int32 → Int32 → Int32 → Int32 → Int32 → SX → Option (Int32 × SX)) (v2 : Int32) (v3 : Int32) (v4 : Int32) (v5 : Int32) (v6 : Int32) (M : SX) : Option (Int32 × SX) :=
  bd (p6_next v6 v4 M) (fun r3 M2 => if r3 = 0 then (p6_free_221 k180 k189 v2 v3 v4 v5 v6 M2)
  else (gd (bIn (v4 ||| ((1 : Int32) <<< (v6 &&& 31))) 64) ( if (M2.1 15 (Int32.toNatClampNeg (v4 ||| ((1 : Int32) <<< (v6 &&& 31))))) = ((v3 - v5) - 1) then (gd (bIn ((40 * v2) + v5) 240) ( lt_ (wI M2 4 (Int32.toNatClampNeg ((40 * v2) + v5)) v6) (fun M8 => lt_ (v4 ||| ((1 : Int32) <<< (v6 &&& 31))) (fun x9 => lt_ (v5 + 1) (fun x10 => k180 v2 v3 x9 x10 M8)))))
  else (p6_free_221 k180 k189 v2 v3 v4 v5 v6 M2))))
set_option maxHeartbeats 4000000 in
set_option maxRecDepth 100000 in
theorem w6_free_189 {G : XG} {p : Program} {l : Launch} {e : Env} {s : State} {m : MethodId} {args : Array Value} {below : List Frame} {meth : Method} {c : Code} (F : Fx G ZY p m c cX6_free 7 s args RX6) (hr : meth.sig.returnType = some .int) (hk : meth.locks = false) {r : Int32} {M' : SX} (k180 : Int32 → Int32 → Int32 → Int32 → SX → Option (Int32 × SX)) (hk180 : ∀ (v2 : Int32) (v3 : Int32) (v4 : Int32) (v5 : Int32) (M : SX) (H : Heap) (locs : List Loc) (ls : Array Slot), Wld G ZY M s.heap H locs → lv_has ls 7 [(0, .ref (G.2.1 0)), (2, .int v2), (3, .int v3), (4, .int v4), (5, .int v5)] → k180 v2 v3 v4 v5 M = some (r, M') → WXi G ZY p l e 3 s m args below meth c r M' H locs (F0 m 180 ls [])) (k189 : Int32 → Int32 → Int32 → Int32 → Int32 → SX → Option (Int32 × SX)) (hk189 : ∀ (v2 : Int32) (v3 : Int32) (v4 : Int32) (v5 : Int32) (v6 : Int32) (M : SX) (H : Heap) (locs : List Loc) (ls : Array Slot), Wld G ZY M s.heap H locs → lv_has ls 7 [(0, .ref (G.2.1 0)), (2, .int v2), (3, .int v3), (4, .int v4), (5, .int v5), (6, .int v6)] → k189 v2 v3 v4 v5 v6 M = some (r, M') → WXi G ZY p l e 3 s m args below meth c r M' H locs (F0 m 189 ls [])) : ∀ (v2 : Int32) (v3 : Int32) (v4 : Int32) (v5 : Int32) (v6 : Int32) (M : SX) (H : Heap) (locs : List Loc) (ls : Array Slot), Wld G ZY M s.heap H locs → lv_has ls 7 [(0, .ref (G.2.1 0)), (2, .int v2), (3, .int v3), (4, .int v4), (5, .int v5), (6, .int v6)] → p6_free_189 k180 k189 v2 v3 v4 v5 v6 M = some (r, M') → WXi G ZY p l e 3 s m args below meth c r M' H locs (F0 m 189 ls []) := by
  intro v2 v3 v4 v5 v6 M H locs ls hw hl hf
  have hx := F.1.1
  have hb := F.1.2.1
  unfold p6_free_189 at hf
  refine lv_aload_n hx hb dX6_free_189 rfl (lv_at hl 0 rfl) ?_
  refine lv_iload hx hb dX6_free_190 (lv_at hl 5 rfl) ?_
  refine lv_iload hx hb dX6_free_192 (lv_at hl 3 rfl) ?_
  obtain ⟨r3, M2, hc1, hf⟩ := bd_some hf
  refine x_aftI hw (x_runV (rest := []) F hw hl.1 vw_RX6_225 (sM) rfl (c6_next v6 v4 hc1) rfl rfl (Nat.le_of_ble_eq_true rfl) ⟨Nat.le_of_ble_eq_true rfl, Nat.le_of_ble_eq_true rfl⟩ dX6_free_194) (fun H locs hw => ?_)
  refine lv_if_eq (tgt := 221) hx hb dX6_free_197 (by decide) (fun c4 => ?_) (fun c4 => ?_)
  · have hf := it_t hf c4
    exact w6_free_221 F hr hk k180 hk180 k189 hk189 v2 v3 v4 v5 v6 M2 _ _ ls hw (lv_sub hl [0, 1, 2, 3, 4, 5] rfl) hf
  · have hf := it_f hf c4
    refine lv_aload_n hx hb dX6_free_200 rfl (lv_at hl 0 rfl) ?_
    refine g6_25 F hw tw_818 dX6_free_201 ?_
    refine lv_iload hx hb dX6_free_204 (lv_at hl 3 rfl) ?_
    refine lv_iconst (v := 1) hx hb dX6_free_206 (by decide) ?_
    refine lv_iload hx hb dX6_free_207 (lv_at hl 5 rfl) ?_
    refine lv_ishl hx hb dX6_free_209 ?_
    refine lv_ior hx hb dX6_free_210 ?_
    obtain ⟨g5, hf⟩ := gd_some hf
    refine x_iald F hw sM15 g5 dX6_free_211 ?_
    refine lv_iload_n hx hb dX6_free_212 rfl (lv_at hl 2 rfl) ?_
    refine lv_iload hx hb dX6_free_213 (lv_at hl 4 rfl) ?_
    refine lv_isub hx hb dX6_free_215 ?_
    refine lv_iconst (v := 1) hx hb dX6_free_216 (by decide) ?_
    refine lv_isub hx hb dX6_free_217 ?_
    refine lv_icmp_eq (tgt := 227) hx hb dX6_free_218 (by decide) (fun c6 => ?_) (fun c6 => ?_)
    · have hf := it_t hf c6
      refine lv_aload_n hx hb dX6_free_227 rfl (lv_at hl 0 rfl) ?_
      refine g6_4 F hw tw_605 dX6_free_228 ?_
      refine lv_bipush (v := 40) hx hb dX6_free_231 (by decide) ?_
      refine lv_iload_n hx hb dX6_free_233 rfl (lv_at hl 1 rfl) ?_
      refine lv_imul hx hb dX6_free_234 ?_
      refine lv_iload hx hb dX6_free_235 (lv_at hl 4 rfl) ?_
      refine lv_iadd hx hb dX6_free_237 ?_
      refine lv_iload hx hb dX6_free_238 (lv_at hl 5 rfl) ?_
      obtain ⟨g7, hf⟩ := gd_some hf
      refine x_iast F hw sM4 g7 dX6_free_240 (fun H locs hw => ?_)
      obtain ⟨M8, eM8, hf⟩ := lt_elim hf
      rw [← eM8] at hw
      refine lv_iload hx hb dX6_free_241 (lv_at hl 3 rfl) ?_
      refine lv_iconst (v := 1) hx hb dX6_free_243 (by decide) ?_
      refine lv_iload hx hb dX6_free_244 (lv_at hl 5 rfl) ?_
      refine lv_ishl hx hb dX6_free_246 ?_
      refine lv_ior hx hb dX6_free_247 ?_
      obtain ⟨x9, ex9, hf⟩ := lt_elim hf
      refine x_let ex9 ?_
      refine lv_istore (lv' := [(4, .int x9), (0, .ref (G.2.1 0)), (2, .int v2), (3, .int v3), (5, .int v5), (6, .int v6)]) hx hb dX6_free_248 hl (by decide) rfl (fun ls hl => ?_)
      obtain ⟨x10, ex10, hf⟩ := lt_elim hf
      refine lv_iinc (v := x10) (lv' := [(5, .int x10), (4, .int x9), (0, .ref (G.2.1 0)), (2, .int v2), (3, .int v3), (6, .int v6)]) hx hb dX6_free_250 hl (k := 4) rfl (by rw [ex10]; rfl) (by decide) rfl (fun ls hl => ?_)
      refine lv_goto (tgt := 180) hx hb dX6_free_253 (by decide) ?_
      exact hk180 v2 v3 x9 x10 M8 _ _ ls hw (lv_sub hl [2, 3, 4, 1, 0] rfl) hf
    · have hf := it_f hf c6
      exact w6_free_221 F hr hk k180 hk180 k189 hk189 v2 v3 v4 v5 v6 M2 _ _ ls hw (lv_sub hl [0, 1, 2, 3, 4, 5] rfl) hf
theorem z6_free_189 {G : XG} {p : Program} {l : Launch} {e : Env} {s : State} {m : MethodId} {args : Array Value} {below : List Frame} {meth : Method} {c : Code} (F : Fx G ZY p m c cX6_free 7 s args RX6) (hr : meth.sig.returnType = some .int) (hk : meth.locks = false) {r : Int32} {M' : SX} (k180 : Int32 → Int32 → Int32 → Int32 → SX → Option (Int32 × SX)) (hk180 : ∀ (v2 : Int32) (v3 : Int32) (v4 : Int32) (v5 : Int32) (M : SX) (H : Heap) (locs : List Loc) (ls : Array Slot), Wld G ZY M s.heap H locs → lv_has ls 7 [(0, .ref (G.2.1 0)), (2, .int v2), (3, .int v3), (4, .int v4), (5, .int v5)] → k180 v2 v3 v4 v5 M = some (r, M') → WXi G ZY p l e 3 s m args below meth c r M' H locs (F0 m 180 ls [])) : ∀ n : Nat, ∀ (v2 : Int32) (v3 : Int32) (v4 : Int32) (v5 : Int32) (v6 : Int32) (M : SX) (H : Heap) (locs : List Loc) (ls : Array Slot), Wld G ZY M s.heap H locs → lv_has ls 7 [(0, .ref (G.2.1 0)), (2, .int v2), (3, .int v3), (4, .int v4), (5, .int v5), (6, .int v6)] → xlp5 (p6_free_189 k180) n v2 v3 v4 v5 v6 M = some (r, M') → WXi G ZY p l e 3 s m args below meth c r M' H locs (F0 m 189 ls []) := by
  intro n
  induction n with
  | zero => intro _ _ _ _ _ _ _ _ _ _ _ hf; cases hf
  | succ n ih => exact w6_free_189 F hr hk k180 hk180 (xlp5 (p6_free_189 k180) n) ih
def p6_free_180 (k180 : Int32 → Int32 → Int32 → Int32 → SX → Option (Int32 × SX)) (v2 : Int32) (v3 : Int32) (v4 : Int32) (v5 : Int32) (M : SX) : Option (Int32 × SX) :=
  if v3 ≤ v5 then (some (v3, M))
  else (xlp5 (p6_free_189 k180) FU v2 v3 v4 v5 0 M)
set_option maxHeartbeats 4000000 in
set_option maxRecDepth 100000 in
theorem w6_free_180 {G : XG} {p : Program} {l : Launch} {e : Env} {s : State} {m : MethodId} {args : Array Value} {below : List Frame} {meth : Method} {c : Code} (F : Fx G ZY p m c cX6_free 7 s args RX6) (hr : meth.sig.returnType = some .int) (hk : meth.locks = false) {r : Int32} {M' : SX} (k180 : Int32 → Int32 → Int32 → Int32 → SX → Option (Int32 × SX)) (hk180 : ∀ (v2 : Int32) (v3 : Int32) (v4 : Int32) (v5 : Int32) (M : SX) (H : Heap) (locs : List Loc) (ls : Array Slot), Wld G ZY M s.heap H locs → lv_has ls 7 [(0, .ref (G.2.1 0)), (2, .int v2), (3, .int v3), (4, .int v4), (5, .int v5)] → k180 v2 v3 v4 v5 M = some (r, M') → WXi G ZY p l e 3 s m args below meth c r M' H locs (F0 m 180 ls [])) : ∀ (v2 : Int32) (v3 : Int32) (v4 : Int32) (v5 : Int32) (M : SX) (H : Heap) (locs : List Loc) (ls : Array Slot), Wld G ZY M s.heap H locs → lv_has ls 7 [(0, .ref (G.2.1 0)), (2, .int v2), (3, .int v3), (4, .int v4), (5, .int v5)] → p6_free_180 k180 v2 v3 v4 v5 M = some (r, M') → WXi G ZY p l e 3 s m args below meth c r M' H locs (F0 m 180 ls []) := by
  intro v2 v3 v4 v5 M H locs ls hw hl hf
  have hx := F.1.1
  have hb := F.1.2.1
  unfold p6_free_180 at hf
  refine lv_iload hx hb dX6_free_180 (lv_at hl 4 rfl) ?_
  refine lv_iload_n hx hb dX6_free_182 rfl (lv_at hl 2 rfl) ?_
  refine lv_icmp_ge (tgt := 256) hx hb dX6_free_183 (by decide) (fun c1 => ?_) (fun c1 => ?_)
  · have hf := it_t hf c1
    refine lv_iload_n hx hb dX6_free_256 rfl (lv_at hl 2 rfl) ?_
    exact x_iret F hw hr hk hf dX6_free_257
  · have hf := it_f hf c1
    refine lv_iconst (v := 0) hx hb dX6_free_186 (by decide) ?_
    refine lv_istore (lv' := [(6, .int 0), (0, .ref (G.2.1 0)), (2, .int v2), (3, .int v3), (4, .int v4), (5, .int v5)]) hx hb dX6_free_187 hl (by decide) rfl (fun ls hl => ?_)
    exact z6_free_189 F hr hk k180 hk180 FU v2 v3 v4 v5 0 M _ _ ls hw (lv_sub hl [1, 2, 3, 4, 5, 0] rfl) hf
theorem z6_free_180 {G : XG} {p : Program} {l : Launch} {e : Env} {s : State} {m : MethodId} {args : Array Value} {below : List Frame} {meth : Method} {c : Code} (F : Fx G ZY p m c cX6_free 7 s args RX6) (hr : meth.sig.returnType = some .int) (hk : meth.locks = false) {r : Int32} {M' : SX} : ∀ n : Nat, ∀ (v2 : Int32) (v3 : Int32) (v4 : Int32) (v5 : Int32) (M : SX) (H : Heap) (locs : List Loc) (ls : Array Slot), Wld G ZY M s.heap H locs → lv_has ls 7 [(0, .ref (G.2.1 0)), (2, .int v2), (3, .int v3), (4, .int v4), (5, .int v5)] → xlp4 p6_free_180 n v2 v3 v4 v5 M = some (r, M') → WXi G ZY p l e 3 s m args below meth c r M' H locs (F0 m 180 ls []) := by
  intro n
  induction n with
  | zero => intro _ _ _ _ _ _ _ _ _ _ hf; cases hf
  | succ n ih => exact w6_free_180 F hr hk (xlp4 p6_free_180 n) ih
def p6_free_146 (k26 : Int32 → Int32 → Int32 → SX → Option (Int32 × SX)) (v1 : Int32) (v2 : Int32) (v3 : Int32) (M : SX) : Option (Int32 × SX) :=
  lt_ (v3 + (-1)) (fun x1 => k26 v1 v2 x1 M)
set_option maxHeartbeats 4000000 in
set_option maxRecDepth 100000 in
theorem w6_free_146 {G : XG} {p : Program} {l : Launch} {e : Env} {s : State} {m : MethodId} {args : Array Value} {below : List Frame} {meth : Method} {c : Code} (F : Fx G ZY p m c cX6_free 7 s args RX6) (hr : meth.sig.returnType = some .int) (hk : meth.locks = false) {r : Int32} {M' : SX} (k26 : Int32 → Int32 → Int32 → SX → Option (Int32 × SX)) (hk26 : ∀ (v1 : Int32) (v2 : Int32) (v3 : Int32) (M : SX) (H : Heap) (locs : List Loc) (ls : Array Slot), Wld G ZY M s.heap H locs → lv_has ls 7 [(0, .ref (G.2.1 0)), (1, .int v1), (2, .int v2), (3, .int v3)] → k26 v1 v2 v3 M = some (r, M') → WXi G ZY p l e 3 s m args below meth c r M' H locs (F0 m 26 ls [])) : ∀ (v1 : Int32) (v2 : Int32) (v3 : Int32) (M : SX) (H : Heap) (locs : List Loc) (ls : Array Slot), Wld G ZY M s.heap H locs → lv_has ls 7 [(0, .ref (G.2.1 0)), (1, .int v1), (2, .int v2), (3, .int v3)] → p6_free_146 k26 v1 v2 v3 M = some (r, M') → WXi G ZY p l e 3 s m args below meth c r M' H locs (F0 m 146 ls []) := by
  intro v1 v2 v3 M H locs ls hw hl hf
  have hx := F.1.1
  have hb := F.1.2.1
  unfold p6_free_146 at hf
  obtain ⟨x1, ex1, hf⟩ := lt_elim hf
  refine lv_iinc (v := x1) (lv' := [(3, .int x1), (0, .ref (G.2.1 0)), (1, .int v1), (2, .int v2)]) hx hb dX6_free_146 hl (k := 3) rfl (by rw [ex1]; rfl) (by decide) rfl (fun ls hl => ?_)
  refine lv_goto (tgt := 26) hx hb dX6_free_149 (by decide) ?_
  exact hk26 v1 v2 x1 M _ _ ls hw (lv_sub hl [1, 2, 3, 0] rfl) hf
def p6_free_139 (k26 : Int32 → Int32 → Int32 → SX → Option (Int32 × SX)) (k64 : Int32 → Int32 → Int32 → Int32 → SX → Option (Int32 × SX)) (v1 : Int32) (v2 : Int32) (v3 : Int32) (v4 : Int32) (t1 : Int32) (t2 : Int32) (M : SX) : Option (Int32 × SX) :=
  gd (bIn t1 64) ( lt_ (wI M 15 (Int32.toNatClampNeg t1) t2) (fun M2 => lt_ (v4 + 1) (fun x3 => k64 v1 v2 v3 x3 M2)))
set_option maxHeartbeats 4000000 in
set_option maxRecDepth 100000 in
theorem w6_free_139 {G : XG} {p : Program} {l : Launch} {e : Env} {s : State} {m : MethodId} {args : Array Value} {below : List Frame} {meth : Method} {c : Code} (F : Fx G ZY p m c cX6_free 7 s args RX6) (hr : meth.sig.returnType = some .int) (hk : meth.locks = false) {r : Int32} {M' : SX} (k26 : Int32 → Int32 → Int32 → SX → Option (Int32 × SX)) (hk26 : ∀ (v1 : Int32) (v2 : Int32) (v3 : Int32) (M : SX) (H : Heap) (locs : List Loc) (ls : Array Slot), Wld G ZY M s.heap H locs → lv_has ls 7 [(0, .ref (G.2.1 0)), (1, .int v1), (2, .int v2), (3, .int v3)] → k26 v1 v2 v3 M = some (r, M') → WXi G ZY p l e 3 s m args below meth c r M' H locs (F0 m 26 ls [])) (k64 : Int32 → Int32 → Int32 → Int32 → SX → Option (Int32 × SX)) (hk64 : ∀ (v1 : Int32) (v2 : Int32) (v3 : Int32) (v4 : Int32) (M : SX) (H : Heap) (locs : List Loc) (ls : Array Slot), Wld G ZY M s.heap H locs → lv_has ls 7 [(0, .ref (G.2.1 0)), (1, .int v1), (2, .int v2), (3, .int v3), (4, .int v4)] → k64 v1 v2 v3 v4 M = some (r, M') → WXi G ZY p l e 3 s m args below meth c r M' H locs (F0 m 64 ls [])) : ∀ (v1 : Int32) (v2 : Int32) (v3 : Int32) (v4 : Int32) (t1 : Int32) (t2 : Int32) (M : SX) (H : Heap) (locs : List Loc) (ls : Array Slot), Wld G ZY M s.heap H locs → lv_has ls 7 [(0, .ref (G.2.1 0)), (1, .int v1), (2, .int v2), (3, .int v3), (4, .int v4)] → p6_free_139 k26 k64 v1 v2 v3 v4 t1 t2 M = some (r, M') → WXi G ZY p l e 3 s m args below meth c r M' H locs (F0 m 139 ls [.int t2, .int t1, .ref (G.2.1 15)]) := by
  intro v1 v2 v3 v4 t1 t2 M H locs ls hw hl hf
  have hx := F.1.1
  have hb := F.1.2.1
  unfold p6_free_139 at hf
  obtain ⟨g1, hf⟩ := gd_some hf
  refine x_iast F hw sM15 g1 dX6_free_139 (fun H locs hw => ?_)
  obtain ⟨M2, eM2, hf⟩ := lt_elim hf
  rw [← eM2] at hw
  obtain ⟨x3, ex3, hf⟩ := lt_elim hf
  refine lv_iinc (v := x3) (lv' := [(4, .int x3), (0, .ref (G.2.1 0)), (1, .int v1), (2, .int v2), (3, .int v3)]) hx hb dX6_free_140 hl (k := 4) rfl (by rw [ex3]; rfl) (by decide) rfl (fun ls hl => ?_)
  refine lv_goto (tgt := 64) hx hb dX6_free_143 (by decide) ?_
  exact hk64 v1 v2 v3 x3 M2 _ _ ls hw (lv_sub hl [1, 2, 3, 4, 0] rfl) hf
def p6_free_110 (k26 : Int32 → Int32 → Int32 → SX → Option (Int32 × SX)) (k64 : Int32 → Int32 → Int32 → Int32 → SX → Option (Int32 × SX)) (v1 : Int32) (v2 : Int32) (v3 : Int32) (v4 : Int32) (t0 : Int32) (M : SX) : Option (Int32 × SX) :=
  gd (bIn v3 64) ( if (M.1 15 (Int32.toNatClampNeg v3)) ≤ t0 then (p6_free_139 k26 k64 v1 v2 v3 v4 v3 (M.1 15 (Int32.toNatClampNeg v3)) M)
  else (p6_free_139 k26 k64 v1 v2 v3 v4 v3 t0 M))
set_option maxHeartbeats 4000000 in
set_option maxRecDepth 100000 in
theorem w6_free_110 {G : XG} {p : Program} {l : Launch} {e : Env} {s : State} {m : MethodId} {args : Array Value} {below : List Frame} {meth : Method} {c : Code} (F : Fx G ZY p m c cX6_free 7 s args RX6) (hr : meth.sig.returnType = some .int) (hk : meth.locks = false) {r : Int32} {M' : SX} (k26 : Int32 → Int32 → Int32 → SX → Option (Int32 × SX)) (hk26 : ∀ (v1 : Int32) (v2 : Int32) (v3 : Int32) (M : SX) (H : Heap) (locs : List Loc) (ls : Array Slot), Wld G ZY M s.heap H locs → lv_has ls 7 [(0, .ref (G.2.1 0)), (1, .int v1), (2, .int v2), (3, .int v3)] → k26 v1 v2 v3 M = some (r, M') → WXi G ZY p l e 3 s m args below meth c r M' H locs (F0 m 26 ls [])) (k64 : Int32 → Int32 → Int32 → Int32 → SX → Option (Int32 × SX)) (hk64 : ∀ (v1 : Int32) (v2 : Int32) (v3 : Int32) (v4 : Int32) (M : SX) (H : Heap) (locs : List Loc) (ls : Array Slot), Wld G ZY M s.heap H locs → lv_has ls 7 [(0, .ref (G.2.1 0)), (1, .int v1), (2, .int v2), (3, .int v3), (4, .int v4)] → k64 v1 v2 v3 v4 M = some (r, M') → WXi G ZY p l e 3 s m args below meth c r M' H locs (F0 m 64 ls [])) : ∀ (v1 : Int32) (v2 : Int32) (v3 : Int32) (v4 : Int32) (t0 : Int32) (M : SX) (H : Heap) (locs : List Loc) (ls : Array Slot), Wld G ZY M s.heap H locs → lv_has ls 7 [(0, .ref (G.2.1 0)), (1, .int v1), (2, .int v2), (3, .int v3), (4, .int v4)] → p6_free_110 k26 k64 v1 v2 v3 v4 t0 M = some (r, M') → WXi G ZY p l e 3 s m args below meth c r M' H locs (F0 m 110 ls [.int t0]) := by
  intro v1 v2 v3 v4 t0 M H locs ls hw hl hf
  have hx := F.1.1
  have hb := F.1.2.1
  unfold p6_free_110 at hf
  refine lv_istore (lv' := [(5, .int t0), (0, .ref (G.2.1 0)), (1, .int v1), (2, .int v2), (3, .int v3), (4, .int v4)]) hx hb dX6_free_110 hl (by decide) rfl (fun ls hl => ?_)
  refine lv_aload_n hx hb dX6_free_112 rfl (lv_at hl 1 rfl) ?_
  refine g6_25 F hw tw_818 dX6_free_113 ?_
  refine lv_iload_n hx hb dX6_free_116 rfl (lv_at hl 4 rfl) ?_
  refine lv_iload hx hb dX6_free_117 (lv_at hl 0 rfl) ?_
  refine lv_aload_n hx hb dX6_free_119 rfl (lv_at hl 1 rfl) ?_
  refine g6_25 F hw tw_818 dX6_free_120 ?_
  refine lv_iload_n hx hb dX6_free_123 rfl (lv_at hl 4 rfl) ?_
  obtain ⟨g1, hf⟩ := gd_some hf
  refine x_iald F hw sM15 g1 dX6_free_124 ?_
  refine lv_icmp_ge (tgt := 133) hx hb dX6_free_125 (by decide) (fun c2 => ?_) (fun c2 => ?_)
  · have hf := it_t hf c2
    refine lv_aload_n hx hb dX6_free_133 rfl (lv_at hl 1 rfl) ?_
    refine g6_25 F hw tw_818 dX6_free_134 ?_
    refine lv_iload_n hx hb dX6_free_137 rfl (lv_at hl 4 rfl) ?_
    refine x_iald F hw sM15 g1 dX6_free_138 ?_
    exact w6_free_139 F hr hk k26 hk26 k64 hk64 v1 v2 v3 v4 v3 (M.1 15 (Int32.toNatClampNeg v3)) M _ _ ls hw (lv_sub hl [1, 2, 3, 4, 5] rfl) hf
  · have hf := it_f hf c2
    refine lv_iload hx hb dX6_free_128 (lv_at hl 0 rfl) ?_
    refine lv_goto (tgt := 139) hx hb dX6_free_130 (by decide) ?_
    exact w6_free_139 F hr hk k26 hk26 k64 hk64 v1 v2 v3 v4 v3 t0 M _ _ ls hw (lv_sub hl [1, 2, 3, 4, 5] rfl) hf
def p6_free_64 (k26 : Int32 → Int32 → Int32 → SX → Option (Int32 × SX)) (k64 : Int32 → Int32 → Int32 → Int32 → SX → Option (Int32 × SX)) (v1 : Int32) (v2 : Int32) (v3 : Int32) (v4 : Int32) (M : SX) : Option (Int32 × SX) :=
  if (M.1 0 1) ≤ v4 then (p6_free_146 k26 v1 v2 v3 M)
  else (gd (bIn v3 64) ( if (M.1 15 (Int32.toNatClampNeg v3)) ≤ 0 then (p6_free_146 k26 v1 v2 v3 M)
  else (bd (p6_next v4 v3 M) (fun r6 M5 => if r6 = 0 then (p6_free_110 k26 k64 v1 v2 v3 v4 99 M5)
  else (gd (bIn (v3 ||| ((1 : Int32) <<< (v4 &&& 31))) 64) ( p6_free_110 k26 k64 v1 v2 v3 v4 (1 + (M5.1 15 (Int32.toNatClampNeg (v3 ||| ((1 : Int32) <<< (v4 &&& 31)))))) M5))))))
set_option maxHeartbeats 4000000 in
set_option maxRecDepth 100000 in
theorem w6_free_64 {G : XG} {p : Program} {l : Launch} {e : Env} {s : State} {m : MethodId} {args : Array Value} {below : List Frame} {meth : Method} {c : Code} (F : Fx G ZY p m c cX6_free 7 s args RX6) (hr : meth.sig.returnType = some .int) (hk : meth.locks = false) {r : Int32} {M' : SX} (k26 : Int32 → Int32 → Int32 → SX → Option (Int32 × SX)) (hk26 : ∀ (v1 : Int32) (v2 : Int32) (v3 : Int32) (M : SX) (H : Heap) (locs : List Loc) (ls : Array Slot), Wld G ZY M s.heap H locs → lv_has ls 7 [(0, .ref (G.2.1 0)), (1, .int v1), (2, .int v2), (3, .int v3)] → k26 v1 v2 v3 M = some (r, M') → WXi G ZY p l e 3 s m args below meth c r M' H locs (F0 m 26 ls [])) (k64 : Int32 → Int32 → Int32 → Int32 → SX → Option (Int32 × SX)) (hk64 : ∀ (v1 : Int32) (v2 : Int32) (v3 : Int32) (v4 : Int32) (M : SX) (H : Heap) (locs : List Loc) (ls : Array Slot), Wld G ZY M s.heap H locs → lv_has ls 7 [(0, .ref (G.2.1 0)), (1, .int v1), (2, .int v2), (3, .int v3), (4, .int v4)] → k64 v1 v2 v3 v4 M = some (r, M') → WXi G ZY p l e 3 s m args below meth c r M' H locs (F0 m 64 ls [])) : ∀ (v1 : Int32) (v2 : Int32) (v3 : Int32) (v4 : Int32) (M : SX) (H : Heap) (locs : List Loc) (ls : Array Slot), Wld G ZY M s.heap H locs → lv_has ls 7 [(0, .ref (G.2.1 0)), (1, .int v1), (2, .int v2), (3, .int v3), (4, .int v4)] → p6_free_64 k26 k64 v1 v2 v3 v4 M = some (r, M') → WXi G ZY p l e 3 s m args below meth c r M' H locs (F0 m 64 ls []) := by
  intro v1 v2 v3 v4 M H locs ls hw hl hf
  have hx := F.1.1
  have hb := F.1.2.1
  unfold p6_free_64 at hf
  refine lv_iload hx hb dX6_free_64 (lv_at hl 4 rfl) ?_
  refine lv_aload_n hx hb dX6_free_66 rfl (lv_at hl 0 rfl) ?_
  refine g6_1 F hw tw_611 dX6_free_67 ?_
  refine lv_icmp_ge (tgt := 146) hx hb dX6_free_70 (by decide) (fun c1 => ?_) (fun c1 => ?_)
  · have hf := it_t hf c1
    exact w6_free_146 F hr hk k26 hk26 v1 v2 v3 M _ _ ls hw (lv_sub hl [0, 1, 2, 3] rfl) hf
  · have hf := it_f hf c1
    refine lv_aload_n hx hb dX6_free_73 rfl (lv_at hl 0 rfl) ?_
    refine g6_25 F hw tw_818 dX6_free_74 ?_
    refine lv_iload_n hx hb dX6_free_77 rfl (lv_at hl 3 rfl) ?_
    obtain ⟨g2, hf⟩ := gd_some hf
    refine x_iald F hw sM15 g2 dX6_free_78 ?_
    refine lv_if_le (tgt := 146) hx hb dX6_free_79 (by decide) (fun c3 => ?_) (fun c3 => ?_)
    · have hf := it_t hf c3
      exact w6_free_146 F hr hk k26 hk26 v1 v2 v3 M _ _ ls hw (lv_sub hl [0, 1, 2, 3] rfl) hf
    · have hf := it_f hf c3
      refine lv_aload_n hx hb dX6_free_82 rfl (lv_at hl 0 rfl) ?_
      refine lv_iload hx hb dX6_free_83 (lv_at hl 4 rfl) ?_
      refine lv_iload_n hx hb dX6_free_85 rfl (lv_at hl 3 rfl) ?_
      obtain ⟨r6, M5, hc4, hf⟩ := bd_some hf
      refine x_aftI hw (x_runV (rest := []) F hw hl.1 vw_RX6_225 (sM) rfl (c6_next v4 v3 hc4) rfl rfl (Nat.le_of_ble_eq_true rfl) ⟨Nat.le_of_ble_eq_true rfl, Nat.le_of_ble_eq_true rfl⟩ dX6_free_86) (fun H locs hw => ?_)
      refine lv_if_eq (tgt := 108) hx hb dX6_free_89 (by decide) (fun c7 => ?_) (fun c7 => ?_)
      · have hf := it_t hf c7
        refine lv_bipush (v := 99) hx hb dX6_free_108 (by decide) ?_
        exact w6_free_110 F hr hk k26 hk26 k64 hk64 v1 v2 v3 v4 99 M5 _ _ ls hw (lv_sub hl [0, 1, 2, 3, 4] rfl) hf
      · have hf := it_f hf c7
        refine lv_iconst (v := 1) hx hb dX6_free_92 (by decide) ?_
        refine lv_aload_n hx hb dX6_free_93 rfl (lv_at hl 0 rfl) ?_
        refine g6_25 F hw tw_818 dX6_free_94 ?_
        refine lv_iload_n hx hb dX6_free_97 rfl (lv_at hl 3 rfl) ?_
        refine lv_iconst (v := 1) hx hb dX6_free_98 (by decide) ?_
        refine lv_iload hx hb dX6_free_99 (lv_at hl 4 rfl) ?_
        refine lv_ishl hx hb dX6_free_101 ?_
        refine lv_ior hx hb dX6_free_102 ?_
        obtain ⟨g8, hf⟩ := gd_some hf
        refine x_iald F hw sM15 g8 dX6_free_103 ?_
        refine lv_iadd hx hb dX6_free_104 ?_
        refine lv_goto (tgt := 110) hx hb dX6_free_105 (by decide) ?_
        exact w6_free_110 F hr hk k26 hk26 k64 hk64 v1 v2 v3 v4 (1 + (M5.1 15 (Int32.toNatClampNeg (v3 ||| ((1 : Int32) <<< (v4 &&& 31)))))) M5 _ _ ls hw (lv_sub hl [0, 1, 2, 3, 4] rfl) hf
theorem z6_free_64 {G : XG} {p : Program} {l : Launch} {e : Env} {s : State} {m : MethodId} {args : Array Value} {below : List Frame} {meth : Method} {c : Code} (F : Fx G ZY p m c cX6_free 7 s args RX6) (hr : meth.sig.returnType = some .int) (hk : meth.locks = false) {r : Int32} {M' : SX} (k26 : Int32 → Int32 → Int32 → SX → Option (Int32 × SX)) (hk26 : ∀ (v1 : Int32) (v2 : Int32) (v3 : Int32) (M : SX) (H : Heap) (locs : List Loc) (ls : Array Slot), Wld G ZY M s.heap H locs → lv_has ls 7 [(0, .ref (G.2.1 0)), (1, .int v1), (2, .int v2), (3, .int v3)] → k26 v1 v2 v3 M = some (r, M') → WXi G ZY p l e 3 s m args below meth c r M' H locs (F0 m 26 ls [])) : ∀ n : Nat, ∀ (v1 : Int32) (v2 : Int32) (v3 : Int32) (v4 : Int32) (M : SX) (H : Heap) (locs : List Loc) (ls : Array Slot), Wld G ZY M s.heap H locs → lv_has ls 7 [(0, .ref (G.2.1 0)), (1, .int v1), (2, .int v2), (3, .int v3), (4, .int v4)] → xlp4 (p6_free_64 k26) n v1 v2 v3 v4 M = some (r, M') → WXi G ZY p l e 3 s m args below meth c r M' H locs (F0 m 64 ls []) := by
  intro n
  induction n with
  | zero => intro _ _ _ _ _ _ _ _ _ _ hf; cases hf
  | succ n ih => exact w6_free_64 F hr hk k26 hk26 (xlp4 (p6_free_64 k26) n) ih
def p6_free_60 (k26 : Int32 → Int32 → Int32 → SX → Option (Int32 × SX)) (v1 : Int32) (v2 : Int32) (v3 : Int32) (t1 : Int32) (t2 : Int32) (M : SX) : Option (Int32 × SX) :=
  gd (bIn t1 64) ( lt_ (wI M 15 (Int32.toNatClampNeg t1) t2) (fun M2 => xlp4 (p6_free_64 k26) FU v1 v2 v3 0 M2))
set_option maxHeartbeats 4000000 in
set_option maxRecDepth 100000 in
theorem w6_free_60 {G : XG} {p : Program} {l : Launch} {e : Env} {s : State} {m : MethodId} {args : Array Value} {below : List Frame} {meth : Method} {c : Code} (F : Fx G ZY p m c cX6_free 7 s args RX6) (hr : meth.sig.returnType = some .int) (hk : meth.locks = false) {r : Int32} {M' : SX} (k26 : Int32 → Int32 → Int32 → SX → Option (Int32 × SX)) (hk26 : ∀ (v1 : Int32) (v2 : Int32) (v3 : Int32) (M : SX) (H : Heap) (locs : List Loc) (ls : Array Slot), Wld G ZY M s.heap H locs → lv_has ls 7 [(0, .ref (G.2.1 0)), (1, .int v1), (2, .int v2), (3, .int v3)] → k26 v1 v2 v3 M = some (r, M') → WXi G ZY p l e 3 s m args below meth c r M' H locs (F0 m 26 ls [])) : ∀ (v1 : Int32) (v2 : Int32) (v3 : Int32) (t1 : Int32) (t2 : Int32) (M : SX) (H : Heap) (locs : List Loc) (ls : Array Slot), Wld G ZY M s.heap H locs → lv_has ls 7 [(0, .ref (G.2.1 0)), (1, .int v1), (2, .int v2), (3, .int v3)] → p6_free_60 k26 v1 v2 v3 t1 t2 M = some (r, M') → WXi G ZY p l e 3 s m args below meth c r M' H locs (F0 m 60 ls [.int t2, .int t1, .ref (G.2.1 15)]) := by
  intro v1 v2 v3 t1 t2 M H locs ls hw hl hf
  have hx := F.1.1
  have hb := F.1.2.1
  unfold p6_free_60 at hf
  obtain ⟨g1, hf⟩ := gd_some hf
  refine x_iast F hw sM15 g1 dX6_free_60 (fun H locs hw => ?_)
  obtain ⟨M2, eM2, hf⟩ := lt_elim hf
  rw [← eM2] at hw
  refine lv_iconst (v := 0) hx hb dX6_free_61 (by decide) ?_
  refine lv_istore (lv' := [(4, .int 0), (0, .ref (G.2.1 0)), (1, .int v1), (2, .int v2), (3, .int v3)]) hx hb dX6_free_62 hl (by decide) rfl (fun ls hl => ?_)
  exact z6_free_64 F hr hk k26 hk26 FU v1 v2 v3 0 M2 _ _ ls hw (lv_sub hl [1, 2, 3, 4, 0] rfl) hf
def p6_free_54 (k26 : Int32 → Int32 → Int32 → SX → Option (Int32 × SX)) (v1 : Int32) (v2 : Int32) (v3 : Int32) (t1 : Int32) (M : SX) : Option (Int32 × SX) :=
  p6_free_60 k26 v1 v2 v3 t1 0 M
set_option maxHeartbeats 4000000 in
set_option maxRecDepth 100000 in
theorem w6_free_54 {G : XG} {p : Program} {l : Launch} {e : Env} {s : State} {m : MethodId} {args : Array Value} {below : List Frame} {meth : Method} {c : Code} (F : Fx G ZY p m c cX6_free 7 s args RX6) (hr : meth.sig.returnType = some .int) (hk : meth.locks = false) {r : Int32} {M' : SX} (k26 : Int32 → Int32 → Int32 → SX → Option (Int32 × SX)) (hk26 : ∀ (v1 : Int32) (v2 : Int32) (v3 : Int32) (M : SX) (H : Heap) (locs : List Loc) (ls : Array Slot), Wld G ZY M s.heap H locs → lv_has ls 7 [(0, .ref (G.2.1 0)), (1, .int v1), (2, .int v2), (3, .int v3)] → k26 v1 v2 v3 M = some (r, M') → WXi G ZY p l e 3 s m args below meth c r M' H locs (F0 m 26 ls [])) : ∀ (v1 : Int32) (v2 : Int32) (v3 : Int32) (t1 : Int32) (M : SX) (H : Heap) (locs : List Loc) (ls : Array Slot), Wld G ZY M s.heap H locs → lv_has ls 7 [(0, .ref (G.2.1 0)), (1, .int v1), (2, .int v2), (3, .int v3)] → p6_free_54 k26 v1 v2 v3 t1 M = some (r, M') → WXi G ZY p l e 3 s m args below meth c r M' H locs (F0 m 54 ls [.int t1, .ref (G.2.1 15)]) := by
  intro v1 v2 v3 t1 M H locs ls hw hl hf
  have hx := F.1.1
  have hb := F.1.2.1
  unfold p6_free_54 at hf
  refine lv_iconst (v := 0) hx hb dX6_free_54 (by decide) ?_
  refine lv_goto (tgt := 60) hx hb dX6_free_55 (by decide) ?_
  exact w6_free_60 F hr hk k26 hk26 v1 v2 v3 t1 0 M _ _ ls hw (lv_sub hl [0, 1, 2, 3] rfl) hf
def p6_free_26 (k26 : Int32 → Int32 → Int32 → SX → Option (Int32 × SX)) (v1 : Int32) (v2 : Int32) (v3 : Int32) (M : SX) : Option (Int32 × SX) :=
  if v3 < 0 then (gd (bIn 0 64) ( lt_ (M.1 15 (Int32.toNatClampNeg 0)) (fun x3 => if x3 ≤ (98 : Int32) then (bv (p6_makeRow v2 x3 M) (fun M6 => xlp4 p6_free_180 FU v2 x3 0 0 M6))
  else (some ((-9), M)))))
  else (bd (p6_has v3 v1 M) (fun r9 M8 => if r9 = 0 then (bd (p6_has (M8.1 0 22) v1 M8) (fun r13 M12 => if r13 = 0 then (p6_free_54 k26 v1 v2 v3 v3 M12)
  else (p6_free_60 k26 v1 v2 v3 v3 99 M12)))
  else (p6_free_54 k26 v1 v2 v3 v3 M8)))
set_option maxHeartbeats 4000000 in
set_option maxRecDepth 100000 in
theorem w6_free_26 {G : XG} {p : Program} {l : Launch} {e : Env} {s : State} {m : MethodId} {args : Array Value} {below : List Frame} {meth : Method} {c : Code} (F : Fx G ZY p m c cX6_free 7 s args RX6) (hr : meth.sig.returnType = some .int) (hk : meth.locks = false) {r : Int32} {M' : SX} (k26 : Int32 → Int32 → Int32 → SX → Option (Int32 × SX)) (hk26 : ∀ (v1 : Int32) (v2 : Int32) (v3 : Int32) (M : SX) (H : Heap) (locs : List Loc) (ls : Array Slot), Wld G ZY M s.heap H locs → lv_has ls 7 [(0, .ref (G.2.1 0)), (1, .int v1), (2, .int v2), (3, .int v3)] → k26 v1 v2 v3 M = some (r, M') → WXi G ZY p l e 3 s m args below meth c r M' H locs (F0 m 26 ls [])) : ∀ (v1 : Int32) (v2 : Int32) (v3 : Int32) (M : SX) (H : Heap) (locs : List Loc) (ls : Array Slot), Wld G ZY M s.heap H locs → lv_has ls 7 [(0, .ref (G.2.1 0)), (1, .int v1), (2, .int v2), (3, .int v3)] → p6_free_26 k26 v1 v2 v3 M = some (r, M') → WXi G ZY p l e 3 s m args below meth c r M' H locs (F0 m 26 ls []) := by
  intro v1 v2 v3 M H locs ls hw hl hf
  have hx := F.1.1
  have hb := F.1.2.1
  unfold p6_free_26 at hf
  refine lv_iload_n hx hb dX6_free_26 rfl (lv_at hl 3 rfl) ?_
  refine lv_if_lt (tgt := 152) hx hb dX6_free_27 (by decide) (fun c1 => ?_) (fun c1 => ?_)
  · have hf := it_t hf c1
    refine lv_aload_n hx hb dX6_free_152 rfl (lv_at hl 0 rfl) ?_
    refine g6_25 F hw tw_818 dX6_free_153 ?_
    refine lv_iconst (v := 0) hx hb dX6_free_156 (by decide) ?_
    obtain ⟨g2, hf⟩ := gd_some hf
    refine x_iald F hw sM15 g2 dX6_free_157 ?_
    obtain ⟨x3, ex3, hf⟩ := lt_elim hf
    refine x_let ex3 ?_
    refine lv_istore_n (lv' := [(3, .int x3), (0, .ref (G.2.1 0)), (1, .int v1), (2, .int v2)]) hx hb dX6_free_158 rfl hl (by decide) rfl (fun ls hl => ?_)
    refine lv_iload_n hx hb dX6_free_159 rfl (lv_at hl 0 rfl) ?_
    refine lv_bipush (v := 98) hx hb dX6_free_160 (by decide) ?_
    refine lv_icmp_le (tgt := 168) hx hb dX6_free_162 (by decide) (fun c4 => ?_) (fun c4 => ?_)
    · have hf := it_t hf c4
      refine lv_aload_n hx hb dX6_free_168 rfl (lv_at hl 1 rfl) ?_
      refine lv_iload_n hx hb dX6_free_169 rfl (lv_at hl 3 rfl) ?_
      refine lv_iload_n hx hb dX6_free_170 rfl (lv_at hl 0 rfl) ?_
      obtain ⟨M6, hc5, hf⟩ := bv_some hf
      refine x_aftV hw (x_runV (rest := []) F hw hl.1 vw_RX6_83 (sM) rfl (c6_makeRow v2 x3 hc5) rfl rfl (Nat.le_of_ble_eq_true rfl) ⟨Nat.le_of_ble_eq_true rfl, Nat.le_of_ble_eq_true rfl⟩ dX6_free_171) (fun H locs hw => ?_)
      refine lv_iconst (v := 0) hx hb dX6_free_174 (by decide) ?_
      refine lv_istore (lv' := [(4, .int 0), (3, .int x3), (0, .ref (G.2.1 0)), (1, .int v1), (2, .int v2)]) hx hb dX6_free_175 hl (by decide) rfl (fun ls hl => ?_)
      refine lv_iconst (v := 0) hx hb dX6_free_177 (by decide) ?_
      refine lv_istore (lv' := [(5, .int 0), (4, .int 0), (3, .int x3), (0, .ref (G.2.1 0)), (1, .int v1), (2, .int v2)]) hx hb dX6_free_178 hl (by decide) rfl (fun ls hl => ?_)
      exact z6_free_180 F hr hk FU v2 x3 0 0 M6 _ _ ls hw (lv_sub hl [3, 5, 2, 1, 0] rfl) hf
    · have hf := it_f hf c4
      refine lv_bipush (v := (-9)) hx hb dX6_free_165 (by decide) ?_
      exact x_iret F hw hr hk hf dX6_free_167
  · have hf := it_f hf c1
    refine lv_aload_n hx hb dX6_free_30 rfl (lv_at hl 0 rfl) ?_
    refine g6_25 F hw tw_818 dX6_free_31 ?_
    refine lv_iload_n hx hb dX6_free_34 rfl (lv_at hl 3 rfl) ?_
    refine lv_iload_n hx hb dX6_free_35 rfl (lv_at hl 3 rfl) ?_
    refine lv_iload_n hx hb dX6_free_36 rfl (lv_at hl 1 rfl) ?_
    obtain ⟨r9, M8, hc7, hf⟩ := bd_some hf
    refine x_aftI hw (x_runS (rest := [.int v3, .ref (G.2.1 15)]) F hw hl.1 sw_RX6_181 (c6_has v3 v1 hc7) rfl rfl (Nat.le_of_ble_eq_true rfl) ⟨Nat.le_of_ble_eq_true rfl, Nat.le_of_ble_eq_true rfl⟩ dX6_free_37) (fun H locs hw => ?_)
    refine lv_if_ne (tgt := 54) hx hb dX6_free_40 (by decide) (fun c10 => ?_) (fun c10 => ?_)
    · have hf := it_f hf c10
      exact w6_free_54 F hr hk k26 hk26 v1 v2 v3 v3 M8 _ _ ls hw (lv_sub hl [0, 1, 2, 3] rfl) hf
    · have hf := it_t hf c10
      refine lv_aload_n hx hb dX6_free_43 rfl (lv_at hl 0 rfl) ?_
      refine g6_22 F hw tw_745 dX6_free_44 ?_
      refine lv_iload_n hx hb dX6_free_47 rfl (lv_at hl 1 rfl) ?_
      obtain ⟨r13, M12, hc11, hf⟩ := bd_some hf
      refine x_aftI hw (x_runS (rest := [.int v3, .ref (G.2.1 15)]) F hw hl.1 sw_RX6_181 (c6_has (M8.1 0 22) v1 hc11) rfl rfl (Nat.le_of_ble_eq_true rfl) ⟨Nat.le_of_ble_eq_true rfl, Nat.le_of_ble_eq_true rfl⟩ dX6_free_48) (fun H locs hw => ?_)
      refine lv_if_ne (tgt := 58) hx hb dX6_free_51 (by decide) (fun c14 => ?_) (fun c14 => ?_)
      · have hf := it_f hf c14
        refine lv_bipush (v := 99) hx hb dX6_free_58 (by decide) ?_
        exact w6_free_60 F hr hk k26 hk26 v1 v2 v3 v3 99 M12 _ _ ls hw (lv_sub hl [0, 1, 2, 3] rfl) hf
      · have hf := it_t hf c14
        exact w6_free_54 F hr hk k26 hk26 v1 v2 v3 v3 M12 _ _ ls hw (lv_sub hl [0, 1, 2, 3] rfl) hf
theorem z6_free_26 {G : XG} {p : Program} {l : Launch} {e : Env} {s : State} {m : MethodId} {args : Array Value} {below : List Frame} {meth : Method} {c : Code} (F : Fx G ZY p m c cX6_free 7 s args RX6) (hr : meth.sig.returnType = some .int) (hk : meth.locks = false) {r : Int32} {M' : SX} : ∀ n : Nat, ∀ (v1 : Int32) (v2 : Int32) (v3 : Int32) (M : SX) (H : Heap) (locs : List Loc) (ls : Array Slot), Wld G ZY M s.heap H locs → lv_has ls 7 [(0, .ref (G.2.1 0)), (1, .int v1), (2, .int v2), (3, .int v3)] → xlp3 p6_free_26 n v1 v2 v3 M = some (r, M') → WXi G ZY p l e 3 s m args below meth c r M' H locs (F0 m 26 ls []) := by
  intro n
  induction n with
  | zero => intro _ _ _ _ _ _ _ _ _ hf; cases hf
  | succ n ih => exact w6_free_26 F hr hk (xlp3 p6_free_26 n) ih
def p6_free (a1 : Int32) (a2 : Int32) (M : SX) : Option (Int32 × SX) :=
  bd (p6_isShop a1 M) (fun r3 M2 => if r3 = 0 then (some ((-1), M2))
  else (bd (p6_isRow a2 M2) (fun r7 M6 => if r7 = 0 then (some ((-1), M6))
  else (bv (p6_layTried 0 0 M6) (fun M10 => xlp3 p6_free_26 FU a1 a2 63 M10)))))
set_option maxHeartbeats 4000000 in
set_option maxRecDepth 100000 in
theorem c6_free {l : Launch} {G : XG} {r : Int32} {M' : SX} {M : SX} (a1 : Int32) (a2 : Int32) (hf : p6_free a1 a2 M = some (r, M')) : Met l yX6_free (.code yX6_free cX6_free 7 (some .int) :: TBL) (rmX 3) (xPc G ZY M [.ref (G.2.1 0), .int a1, .int a2]) (xQi G ZY r M') 0 0 (inA G ZY) := by
  refine x_met (cc := cX6_free) (by decide) (Nat.le_of_ble_eq_true rfl) ?_
  intro p e s m below meth c ls F hr hk hl hw
  have F : Fx G ZY p m c cX6_free 7 s [.ref (G.2.1 0), .int a1, .int a2].toArray RX6 := F
  have hl : lv_has ls 7 [(0, .ref (G.2.1 0)), (1, .int a1), (2, .int a2)] := hl
  have hx := F.1.1
  have hb := F.1.2.1
  unfold p6_free at hf
  refine lv_aload_n hx hb dX6_free_0 rfl (lv_at hl 0 rfl) ?_
  refine lv_iload_n hx hb dX6_free_1 rfl (lv_at hl 1 rfl) ?_
  obtain ⟨r3, M2, hc1, hf⟩ := bd_some hf
  refine x_aftI hw (x_runV (rest := []) F hw hl.1 vw_RX6_152 (sM) rfl (c6_isShop a1 hc1) rfl rfl (Nat.le_of_ble_eq_true rfl) ⟨Nat.le_of_ble_eq_true rfl, Nat.le_of_ble_eq_true rfl⟩ dX6_free_2) (fun H locs hw => ?_)
  refine lv_if_eq (tgt := 15) hx hb dX6_free_5 (by decide) (fun c4 => ?_) (fun c4 => ?_)
  · have hf := it_t hf c4
    refine lv_iconst (v := (-1)) hx hb dX6_free_15 (by decide) ?_
    exact x_iret F hw hr hk hf dX6_free_16
  · have hf := it_f hf c4
    refine lv_iload_n hx hb dX6_free_8 rfl (lv_at hl 2 rfl) ?_
    obtain ⟨r7, M6, hc5, hf⟩ := bd_some hf
    refine x_aftI hw (x_runS (rest := []) F hw hl.1 sw_RX6_75 (c6_isRow a2 hc5) rfl rfl (Nat.le_of_ble_eq_true rfl) ⟨Nat.le_of_ble_eq_true rfl, Nat.le_of_ble_eq_true rfl⟩ dX6_free_9) (fun H locs hw => ?_)
    refine lv_if_ne (tgt := 17) hx hb dX6_free_12 (by decide) (fun c8 => ?_) (fun c8 => ?_)
    · have hf := it_f hf c8
      refine lv_aload_n hx hb dX6_free_17 rfl (lv_at hl 0 rfl) ?_
      refine lv_iconst (v := 0) hx hb dX6_free_18 (by decide) ?_
      refine lv_iconst (v := 0) hx hb dX6_free_19 (by decide) ?_
      obtain ⟨M10, hc9, hf⟩ := bv_some hf
      refine x_aftV hw (x_runV (rest := []) F hw hl.1 vw_RX6_231 (sM) rfl (c6_layTried 0 0 hc9) rfl rfl (Nat.le_of_ble_eq_true rfl) ⟨Nat.le_of_ble_eq_true rfl, Nat.le_of_ble_eq_true rfl⟩ dX6_free_20) (fun H locs hw => ?_)
      refine lv_bipush (v := 63) hx hb dX6_free_23 (by decide) ?_
      refine lv_istore_n (lv' := [(3, .int 63), (0, .ref (G.2.1 0)), (1, .int a1), (2, .int a2)]) hx hb dX6_free_25 rfl hl (by decide) rfl (fun ls hl => ?_)
      exact z6_free_26 F hr hk FU a1 a2 63 M10 _ _ ls hw (lv_sub hl [1, 2, 3, 0] rfl) hf
    · have hf := it_t hf c8
      refine lv_iconst (v := (-1)) hx hb dX6_free_15 (by decide) ?_
      exact x_iret F hw hr hk hf dX6_free_16
theorem dX6_run_0 : decode cX6_run 0 = .ok (.iload_n 1, 1) := by decide +kernel
theorem dX6_run_1 : decode cX6_run 1 = .ok (.invokestatic 75, 3) := by decide +kernel
theorem dX6_run_4 : decode cX6_run 4 = .ok (.ifCond .ne 5, 3) := by decide +kernel
theorem dX6_run_7 : decode cX6_run 7 = .ok (.iconst (-1), 1) := by decide +kernel
theorem dX6_run_8 : decode cX6_run 8 = .ok (.ireturn, 1) := by decide +kernel
theorem dX6_run_9 : decode cX6_run 9 = .ok (.aload_n 0, 1) := by decide +kernel
theorem dX6_run_10 : decode cX6_run 10 = .ok (.iload_n 1, 1) := by decide +kernel
theorem dX6_run_11 : decode cX6_run 11 = .ok (.iconst 0, 1) := by decide +kernel
theorem dX6_run_12 : decode cX6_run 12 = .ok (.aload_n 0, 1) := by decide +kernel
theorem dX6_run_13 : decode cX6_run 13 = .ok (.getfield 140, 3) := by decide +kernel
theorem dX6_run_16 : decode cX6_run 16 = .ok (.iconst 1, 1) := by decide +kernel
theorem dX6_run_17 : decode cX6_run 17 = .ok (.isub, 1) := by decide +kernel
theorem dX6_run_18 : decode cX6_run 18 = .ok (.invokevirtual 247, 3) := by decide +kernel
theorem dX6_run_21 : decode cX6_run 21 = .ok (.istore_n 2, 1) := by decide +kernel
theorem dX6_run_22 : decode cX6_run 22 = .ok (.iload_n 2, 1) := by decide +kernel
theorem dX6_run_23 : decode cX6_run 23 = .ok (.ifCond .eq 5, 3) := by decide +kernel
theorem dX6_run_26 : decode cX6_run 26 = .ok (.iload_n 2, 1) := by decide +kernel
theorem dX6_run_27 : decode cX6_run 27 = .ok (.ireturn, 1) := by decide +kernel
theorem dX6_run_28 : decode cX6_run 28 = .ok (.aload_n 0, 1) := by decide +kernel
theorem dX6_run_29 : decode cX6_run 29 = .ok (.iconst 0, 1) := by decide +kernel
theorem dX6_run_30 : decode cX6_run 30 = .ok (.iconst 0, 1) := by decide +kernel
theorem dX6_run_31 : decode cX6_run 31 = .ok (.invokevirtual 231, 3) := by decide +kernel
theorem dX6_run_34 : decode cX6_run 34 = .ok (.iconst 0, 1) := by decide +kernel
theorem dX6_run_35 : decode cX6_run 35 = .ok (.istore_n 3, 1) := by decide +kernel
theorem dX6_run_36 : decode cX6_run 36 = .ok (.iconst 0, 1) := by decide +kernel
theorem dX6_run_37 : decode cX6_run 37 = .ok (.istore 4, 2) := by decide +kernel
theorem dX6_run_39 : decode cX6_run 39 = .ok (.iload 4, 2) := by decide +kernel
theorem dX6_run_41 : decode cX6_run 41 = .ok (.aload_n 0, 1) := by decide +kernel
theorem dX6_run_42 : decode cX6_run 42 = .ok (.getfield 16, 3) := by decide +kernel
theorem dX6_run_45 : decode cX6_run 45 = .ok (.iload_n 1, 1) := by decide +kernel
theorem dX6_run_46 : decode cX6_run 46 = .ok (.iaload, 1) := by decide +kernel
theorem dX6_run_47 : decode cX6_run 47 = .ok (.if_icmp .ge 46, 3) := by decide +kernel
theorem dX6_run_50 : decode cX6_run 50 = .ok (.aload_n 0, 1) := by decide +kernel
theorem dX6_run_51 : decode cX6_run 51 = .ok (.aload_n 0, 1) := by decide +kernel
theorem dX6_run_52 : decode cX6_run 52 = .ok (.getfield 19, 3) := by decide +kernel
theorem dX6_run_55 : decode cX6_run 55 = .ok (.bipush 40, 2) := by decide +kernel
theorem dX6_run_57 : decode cX6_run 57 = .ok (.iload_n 1, 1) := by decide +kernel
theorem dX6_run_58 : decode cX6_run 58 = .ok (.imul, 1) := by decide +kernel
theorem dX6_run_59 : decode cX6_run 59 = .ok (.iload 4, 2) := by decide +kernel
theorem dX6_run_61 : decode cX6_run 61 = .ok (.iadd, 1) := by decide +kernel
theorem dX6_run_62 : decode cX6_run 62 = .ok (.iaload, 1) := by decide +kernel
theorem dX6_run_63 : decode cX6_run 63 = .ok (.iload_n 3, 1) := by decide +kernel
theorem dX6_run_64 : decode cX6_run 64 = .ok (.invokevirtual 225, 3) := by decide +kernel
theorem dX6_run_67 : decode cX6_run 67 = .ok (.ifCond .eq 26, 3) := by decide +kernel
theorem dX6_run_70 : decode cX6_run 70 = .ok (.iload_n 3, 1) := by decide +kernel
theorem dX6_run_71 : decode cX6_run 71 = .ok (.iconst 1, 1) := by decide +kernel
theorem dX6_run_72 : decode cX6_run 72 = .ok (.aload_n 0, 1) := by decide +kernel
theorem dX6_run_73 : decode cX6_run 73 = .ok (.getfield 19, 3) := by decide +kernel
theorem dX6_run_76 : decode cX6_run 76 = .ok (.bipush 40, 2) := by decide +kernel
theorem dX6_run_78 : decode cX6_run 78 = .ok (.iload_n 1, 1) := by decide +kernel
theorem dX6_run_79 : decode cX6_run 79 = .ok (.imul, 1) := by decide +kernel
theorem dX6_run_80 : decode cX6_run 80 = .ok (.iload 4, 2) := by decide +kernel
theorem dX6_run_82 : decode cX6_run 82 = .ok (.iadd, 1) := by decide +kernel
theorem dX6_run_83 : decode cX6_run 83 = .ok (.iaload, 1) := by decide +kernel
theorem dX6_run_84 : decode cX6_run 84 = .ok (.ishl, 1) := by decide +kernel
theorem dX6_run_85 : decode cX6_run 85 = .ok (.ior, 1) := by decide +kernel
theorem dX6_run_86 : decode cX6_run 86 = .ok (.istore_n 3, 1) := by decide +kernel
theorem dX6_run_87 : decode cX6_run 87 = .ok (.iinc 4 1, 3) := by decide +kernel
theorem dX6_run_90 : decode cX6_run 90 = .ok (.goto (-51), 3) := by decide +kernel
theorem dX6_run_93 : decode cX6_run 93 = .ok (.aload_n 0, 1) := by decide +kernel
theorem dX6_run_94 : decode cX6_run 94 = .ok (.iload 4, 2) := by decide +kernel
theorem dX6_run_96 : decode cX6_run 96 = .ok (.ifCond .ne 8, 3) := by decide +kernel
theorem dX6_run_99 : decode cX6_run 99 = .ok (.bipush (-9), 2) := by decide +kernel
theorem dX6_run_101 : decode cX6_run 101 = .ok (.goto 22, 3) := by decide +kernel
theorem dX6_run_104 : decode cX6_run 104 = .ok (.aload_n 0, 1) := by decide +kernel
theorem dX6_run_105 : decode cX6_run 105 = .ok (.aload_n 0, 1) := by decide +kernel
theorem dX6_run_106 : decode cX6_run 106 = .ok (.getfield 19, 3) := by decide +kernel
theorem dX6_run_109 : decode cX6_run 109 = .ok (.bipush 40, 2) := by decide +kernel
theorem dX6_run_111 : decode cX6_run 111 = .ok (.iload_n 1, 1) := by decide +kernel
theorem dX6_run_112 : decode cX6_run 112 = .ok (.imul, 1) := by decide +kernel
theorem dX6_run_113 : decode cX6_run 113 = .ok (.iload 4, 2) := by decide +kernel
theorem dX6_run_115 : decode cX6_run 115 = .ok (.iadd, 1) := by decide +kernel
theorem dX6_run_116 : decode cX6_run 116 = .ok (.iconst 1, 1) := by decide +kernel
theorem dX6_run_117 : decode cX6_run 117 = .ok (.isub, 1) := by decide +kernel
theorem dX6_run_118 : decode cX6_run 118 = .ok (.iaload, 1) := by decide +kernel
theorem dX6_run_119 : decode cX6_run 119 = .ok (.iload_n 3, 1) := by decide +kernel
theorem dX6_run_120 : decode cX6_run 120 = .ok (.invokevirtual 222, 3) := by decide +kernel
theorem dX6_run_123 : decode cX6_run 123 = .ok (.putfield 64, 3) := by decide +kernel
theorem dX6_run_126 : decode cX6_run 126 = .ok (.iload 4, 2) := by decide +kernel
theorem dX6_run_128 : decode cX6_run 128 = .ok (.ireturn, 1) := by decide +kernel
def p6_run_123 (v4 : Int32) (t1 : Int32) (M : SX) : Option (Int32 × SX) :=
  lt_ (wI M 0 7 t1) (fun M1 => some (v4, M1))
set_option maxHeartbeats 4000000 in
set_option maxRecDepth 100000 in
theorem w6_run_123 {G : XG} {p : Program} {l : Launch} {e : Env} {s : State} {m : MethodId} {args : Array Value} {below : List Frame} {meth : Method} {c : Code} (F : Fx G ZY p m c cX6_run 5 s args RX6) (hr : meth.sig.returnType = some .int) (hk : meth.locks = false) {r : Int32} {M' : SX} : ∀ (v4 : Int32) (t1 : Int32) (M : SX) (H : Heap) (locs : List Loc) (ls : Array Slot), Wld G ZY M s.heap H locs → lv_has ls 5 [(4, .int v4)] → p6_run_123 v4 t1 M = some (r, M') → WXi G ZY p l e 3 s m args below meth c r M' H locs (F0 m 123 ls [.int t1, .ref (G.2.1 0)]) := by
  intro v4 t1 M H locs ls hw hl hf
  have hx := F.1.1
  have hb := F.1.2.1
  unfold p6_run_123 at hf
  refine s6_7 F hw tw_604 dX6_run_123 (fun H locs hw => ?_)
  obtain ⟨M1, eM1, hf⟩ := lt_elim hf
  rw [← eM1] at hw
  refine lv_iload hx hb dX6_run_126 (lv_at hl 0 rfl) ?_
  exact x_iret F hw hr hk hf dX6_run_128
def p6_run_93 (v1 : Int32) (v3 : Int32) (v4 : Int32) (M : SX) : Option (Int32 × SX) :=
  if v4 = 0 then (p6_run_123 v4 (-9) M)
  else (gd (bIn (((40 * v1) + v4) - 1) 240) ( bd (p6_cashBy (M.1 4 (Int32.toNatClampNeg (((40 * v1) + v4) - 1))) v3 M) (fun r5 M4 => p6_run_123 v4 r5 M4)))
set_option maxHeartbeats 4000000 in
set_option maxRecDepth 100000 in
theorem w6_run_93 {G : XG} {p : Program} {l : Launch} {e : Env} {s : State} {m : MethodId} {args : Array Value} {below : List Frame} {meth : Method} {c : Code} (F : Fx G ZY p m c cX6_run 5 s args RX6) (hr : meth.sig.returnType = some .int) (hk : meth.locks = false) {r : Int32} {M' : SX} : ∀ (v1 : Int32) (v3 : Int32) (v4 : Int32) (M : SX) (H : Heap) (locs : List Loc) (ls : Array Slot), Wld G ZY M s.heap H locs → lv_has ls 5 [(0, .ref (G.2.1 0)), (1, .int v1), (3, .int v3), (4, .int v4)] → p6_run_93 v1 v3 v4 M = some (r, M') → WXi G ZY p l e 3 s m args below meth c r M' H locs (F0 m 93 ls []) := by
  intro v1 v3 v4 M H locs ls hw hl hf
  have hx := F.1.1
  have hb := F.1.2.1
  unfold p6_run_93 at hf
  refine lv_aload_n hx hb dX6_run_93 rfl (lv_at hl 0 rfl) ?_
  refine lv_iload hx hb dX6_run_94 (lv_at hl 3 rfl) ?_
  refine lv_if_ne (tgt := 104) hx hb dX6_run_96 (by decide) (fun c1 => ?_) (fun c1 => ?_)
  · have hf := it_f hf c1
    refine lv_aload_n hx hb dX6_run_104 rfl (lv_at hl 0 rfl) ?_
    refine lv_aload_n hx hb dX6_run_105 rfl (lv_at hl 0 rfl) ?_
    refine g6_4 F hw tw_605 dX6_run_106 ?_
    refine lv_bipush (v := 40) hx hb dX6_run_109 (by decide) ?_
    refine lv_iload_n hx hb dX6_run_111 rfl (lv_at hl 1 rfl) ?_
    refine lv_imul hx hb dX6_run_112 ?_
    refine lv_iload hx hb dX6_run_113 (lv_at hl 3 rfl) ?_
    refine lv_iadd hx hb dX6_run_115 ?_
    refine lv_iconst (v := 1) hx hb dX6_run_116 (by decide) ?_
    refine lv_isub hx hb dX6_run_117 ?_
    obtain ⟨g2, hf⟩ := gd_some hf
    refine x_iald F hw sM4 g2 dX6_run_118 ?_
    refine lv_iload_n hx hb dX6_run_119 rfl (lv_at hl 2 rfl) ?_
    obtain ⟨r5, M4, hc3, hf⟩ := bd_some hf
    refine x_aftI hw (x_runV (rest := [.ref (G.2.1 0)]) F hw hl.1 vw_RX6_222 (sM) rfl (c6_cashBy (M.1 4 (Int32.toNatClampNeg (((40 * v1) + v4) - 1))) v3 hc3) rfl rfl (Nat.le_of_ble_eq_true rfl) ⟨Nat.le_of_ble_eq_true rfl, Nat.le_of_ble_eq_true rfl⟩ dX6_run_120) (fun H locs hw => ?_)
    exact w6_run_123 F hr hk v4 r5 M4 _ _ ls hw (lv_sub hl [3] rfl) hf
  · have hf := it_t hf c1
    refine lv_bipush (v := (-9)) hx hb dX6_run_99 (by decide) ?_
    refine lv_goto (tgt := 123) hx hb dX6_run_101 (by decide) ?_
    exact w6_run_123 F hr hk v4 (-9) M _ _ ls hw (lv_sub hl [3] rfl) hf
def p6_run_39 (k39 : Int32 → Int32 → Int32 → SX → Option (Int32 × SX)) (v1 : Int32) (v3 : Int32) (v4 : Int32) (M : SX) : Option (Int32 × SX) :=
  gd (bIn v1 6) ( if (M.1 3 (Int32.toNatClampNeg v1)) ≤ v4 then (p6_run_93 v1 v3 v4 M)
  else (gd (bIn ((40 * v1) + v4) 240) ( bd (p6_next (M.1 4 (Int32.toNatClampNeg ((40 * v1) + v4))) v3 M) (fun r6 M5 => if r6 = 0 then (p6_run_93 v1 v3 v4 M5)
  else (lt_ (v3 ||| ((1 : Int32) <<< ((M5.1 4 (Int32.toNatClampNeg ((40 * v1) + v4))) &&& 31))) (fun x8 => lt_ (v4 + 1) (fun x9 => k39 v1 x8 x9 M5)))))))
set_option maxHeartbeats 4000000 in
set_option maxRecDepth 100000 in
theorem w6_run_39 {G : XG} {p : Program} {l : Launch} {e : Env} {s : State} {m : MethodId} {args : Array Value} {below : List Frame} {meth : Method} {c : Code} (F : Fx G ZY p m c cX6_run 5 s args RX6) (hr : meth.sig.returnType = some .int) (hk : meth.locks = false) {r : Int32} {M' : SX} (k39 : Int32 → Int32 → Int32 → SX → Option (Int32 × SX)) (hk39 : ∀ (v1 : Int32) (v3 : Int32) (v4 : Int32) (M : SX) (H : Heap) (locs : List Loc) (ls : Array Slot), Wld G ZY M s.heap H locs → lv_has ls 5 [(0, .ref (G.2.1 0)), (1, .int v1), (3, .int v3), (4, .int v4)] → k39 v1 v3 v4 M = some (r, M') → WXi G ZY p l e 3 s m args below meth c r M' H locs (F0 m 39 ls [])) : ∀ (v1 : Int32) (v3 : Int32) (v4 : Int32) (M : SX) (H : Heap) (locs : List Loc) (ls : Array Slot), Wld G ZY M s.heap H locs → lv_has ls 5 [(0, .ref (G.2.1 0)), (1, .int v1), (3, .int v3), (4, .int v4)] → p6_run_39 k39 v1 v3 v4 M = some (r, M') → WXi G ZY p l e 3 s m args below meth c r M' H locs (F0 m 39 ls []) := by
  intro v1 v3 v4 M H locs ls hw hl hf
  have hx := F.1.1
  have hb := F.1.2.1
  unfold p6_run_39 at hf
  refine lv_iload hx hb dX6_run_39 (lv_at hl 3 rfl) ?_
  refine lv_aload_n hx hb dX6_run_41 rfl (lv_at hl 0 rfl) ?_
  refine g6_3 F hw tw_606 dX6_run_42 ?_
  refine lv_iload_n hx hb dX6_run_45 rfl (lv_at hl 1 rfl) ?_
  obtain ⟨g1, hf⟩ := gd_some hf
  refine x_iald F hw sM3 g1 dX6_run_46 ?_
  refine lv_icmp_ge (tgt := 93) hx hb dX6_run_47 (by decide) (fun c2 => ?_) (fun c2 => ?_)
  · have hf := it_t hf c2
    exact w6_run_93 F hr hk v1 v3 v4 M _ _ ls hw (lv_sub hl [0, 1, 2, 3] rfl) hf
  · have hf := it_f hf c2
    refine lv_aload_n hx hb dX6_run_50 rfl (lv_at hl 0 rfl) ?_
    refine lv_aload_n hx hb dX6_run_51 rfl (lv_at hl 0 rfl) ?_
    refine g6_4 F hw tw_605 dX6_run_52 ?_
    refine lv_bipush (v := 40) hx hb dX6_run_55 (by decide) ?_
    refine lv_iload_n hx hb dX6_run_57 rfl (lv_at hl 1 rfl) ?_
    refine lv_imul hx hb dX6_run_58 ?_
    refine lv_iload hx hb dX6_run_59 (lv_at hl 3 rfl) ?_
    refine lv_iadd hx hb dX6_run_61 ?_
    obtain ⟨g3, hf⟩ := gd_some hf
    refine x_iald F hw sM4 g3 dX6_run_62 ?_
    refine lv_iload_n hx hb dX6_run_63 rfl (lv_at hl 2 rfl) ?_
    obtain ⟨r6, M5, hc4, hf⟩ := bd_some hf
    refine x_aftI hw (x_runV (rest := []) F hw hl.1 vw_RX6_225 (sM) rfl (c6_next (M.1 4 (Int32.toNatClampNeg ((40 * v1) + v4))) v3 hc4) rfl rfl (Nat.le_of_ble_eq_true rfl) ⟨Nat.le_of_ble_eq_true rfl, Nat.le_of_ble_eq_true rfl⟩ dX6_run_64) (fun H locs hw => ?_)
    refine lv_if_eq (tgt := 93) hx hb dX6_run_67 (by decide) (fun c7 => ?_) (fun c7 => ?_)
    · have hf := it_t hf c7
      exact w6_run_93 F hr hk v1 v3 v4 M5 _ _ ls hw (lv_sub hl [0, 1, 2, 3] rfl) hf
    · have hf := it_f hf c7
      refine lv_iload_n hx hb dX6_run_70 rfl (lv_at hl 2 rfl) ?_
      refine lv_iconst (v := 1) hx hb dX6_run_71 (by decide) ?_
      refine lv_aload_n hx hb dX6_run_72 rfl (lv_at hl 0 rfl) ?_
      refine g6_4 F hw tw_605 dX6_run_73 ?_
      refine lv_bipush (v := 40) hx hb dX6_run_76 (by decide) ?_
      refine lv_iload_n hx hb dX6_run_78 rfl (lv_at hl 1 rfl) ?_
      refine lv_imul hx hb dX6_run_79 ?_
      refine lv_iload hx hb dX6_run_80 (lv_at hl 3 rfl) ?_
      refine lv_iadd hx hb dX6_run_82 ?_
      refine x_iald F hw sM4 g3 dX6_run_83 ?_
      refine lv_ishl hx hb dX6_run_84 ?_
      refine lv_ior hx hb dX6_run_85 ?_
      obtain ⟨x8, ex8, hf⟩ := lt_elim hf
      refine x_let ex8 ?_
      refine lv_istore_n (lv' := [(3, .int x8), (0, .ref (G.2.1 0)), (1, .int v1), (4, .int v4)]) hx hb dX6_run_86 rfl hl (by decide) rfl (fun ls hl => ?_)
      obtain ⟨x9, ex9, hf⟩ := lt_elim hf
      refine lv_iinc (v := x9) (lv' := [(4, .int x9), (3, .int x8), (0, .ref (G.2.1 0)), (1, .int v1)]) hx hb dX6_run_87 hl (k := 3) rfl (by rw [ex9]; rfl) (by decide) rfl (fun ls hl => ?_)
      refine lv_goto (tgt := 39) hx hb dX6_run_90 (by decide) ?_
      exact hk39 v1 x8 x9 M5 _ _ ls hw (lv_sub hl [2, 3, 1, 0] rfl) hf
theorem z6_run_39 {G : XG} {p : Program} {l : Launch} {e : Env} {s : State} {m : MethodId} {args : Array Value} {below : List Frame} {meth : Method} {c : Code} (F : Fx G ZY p m c cX6_run 5 s args RX6) (hr : meth.sig.returnType = some .int) (hk : meth.locks = false) {r : Int32} {M' : SX} : ∀ n : Nat, ∀ (v1 : Int32) (v3 : Int32) (v4 : Int32) (M : SX) (H : Heap) (locs : List Loc) (ls : Array Slot), Wld G ZY M s.heap H locs → lv_has ls 5 [(0, .ref (G.2.1 0)), (1, .int v1), (3, .int v3), (4, .int v4)] → xlp3 p6_run_39 n v1 v3 v4 M = some (r, M') → WXi G ZY p l e 3 s m args below meth c r M' H locs (F0 m 39 ls []) := by
  intro n
  induction n with
  | zero => intro _ _ _ _ _ _ _ _ _ hf; cases hf
  | succ n ih => exact w6_run_39 F hr hk (xlp3 p6_run_39 n) ih
def p6_run (a1 : Int32) (M : SX) : Option (Int32 × SX) :=
  bd (p6_isRow a1 M) (fun r3 M2 => if r3 = 0 then (some ((-1), M2))
  else (bd (p6_noRow a1 0 ((M2.1 0 1) - 1) M2) (fun r7 M6 => if r7 = 0 then (bv (p6_layTried 0 0 M6) (fun M10 => xlp3 p6_run_39 FU a1 0 0 M10))
  else (some (r7, M6)))))
set_option maxHeartbeats 4000000 in
set_option maxRecDepth 100000 in
theorem c6_run {l : Launch} {G : XG} {r : Int32} {M' : SX} {M : SX} (a1 : Int32) (hf : p6_run a1 M = some (r, M')) : Met l yX6_run (.code yX6_run cX6_run 5 (some .int) :: TBL) (rmX 3) (xPc G ZY M [.ref (G.2.1 0), .int a1]) (xQi G ZY r M') 0 0 (inA G ZY) := by
  refine x_met (cc := cX6_run) (by decide) (Nat.le_of_ble_eq_true rfl) ?_
  intro p e s m below meth c ls F hr hk hl hw
  have F : Fx G ZY p m c cX6_run 5 s [.ref (G.2.1 0), .int a1].toArray RX6 := F
  have hl : lv_has ls 5 [(0, .ref (G.2.1 0)), (1, .int a1)] := hl
  have hx := F.1.1
  have hb := F.1.2.1
  unfold p6_run at hf
  refine lv_iload_n hx hb dX6_run_0 rfl (lv_at hl 1 rfl) ?_
  obtain ⟨r3, M2, hc1, hf⟩ := bd_some hf
  refine x_aftI hw (x_runS (rest := []) F hw hl.1 sw_RX6_75 (c6_isRow a1 hc1) rfl rfl (Nat.le_of_ble_eq_true rfl) ⟨Nat.le_of_ble_eq_true rfl, Nat.le_of_ble_eq_true rfl⟩ dX6_run_1) (fun H locs hw => ?_)
  refine lv_if_ne (tgt := 9) hx hb dX6_run_4 (by decide) (fun c4 => ?_) (fun c4 => ?_)
  · have hf := it_f hf c4
    refine lv_aload_n hx hb dX6_run_9 rfl (lv_at hl 0 rfl) ?_
    refine lv_iload_n hx hb dX6_run_10 rfl (lv_at hl 1 rfl) ?_
    refine lv_iconst (v := 0) hx hb dX6_run_11 (by decide) ?_
    refine lv_aload_n hx hb dX6_run_12 rfl (lv_at hl 0 rfl) ?_
    refine g6_1 F hw tw_611 dX6_run_13 ?_
    refine lv_iconst (v := 1) hx hb dX6_run_16 (by decide) ?_
    refine lv_isub hx hb dX6_run_17 ?_
    obtain ⟨r7, M6, hc5, hf⟩ := bd_some hf
    refine x_aftI hw (x_runV (rest := []) F hw hl.1 vw_RX6_247 (sM) rfl (c6_noRow a1 0 ((M2.1 0 1) - 1) hc5) rfl rfl (Nat.le_of_ble_eq_true rfl) ⟨Nat.le_of_ble_eq_true rfl, Nat.le_of_ble_eq_true rfl⟩ dX6_run_18) (fun H locs hw => ?_)
    refine lv_istore_n (lv' := [(2, .int r7), (0, .ref (G.2.1 0)), (1, .int a1)]) hx hb dX6_run_21 rfl hl (by decide) rfl (fun ls hl => ?_)
    refine lv_iload_n hx hb dX6_run_22 rfl (lv_at hl 0 rfl) ?_
    refine lv_if_eq (tgt := 28) hx hb dX6_run_23 (by decide) (fun c8 => ?_) (fun c8 => ?_)
    · have hf := it_t hf c8
      refine lv_aload_n hx hb dX6_run_28 rfl (lv_at hl 1 rfl) ?_
      refine lv_iconst (v := 0) hx hb dX6_run_29 (by decide) ?_
      refine lv_iconst (v := 0) hx hb dX6_run_30 (by decide) ?_
      obtain ⟨M10, hc9, hf⟩ := bv_some hf
      refine x_aftV hw (x_runV (rest := []) F hw hl.1 vw_RX6_231 (sM) rfl (c6_layTried 0 0 hc9) rfl rfl (Nat.le_of_ble_eq_true rfl) ⟨Nat.le_of_ble_eq_true rfl, Nat.le_of_ble_eq_true rfl⟩ dX6_run_31) (fun H locs hw => ?_)
      refine lv_iconst (v := 0) hx hb dX6_run_34 (by decide) ?_
      refine lv_istore_n (lv' := [(3, .int 0), (2, .int r7), (0, .ref (G.2.1 0)), (1, .int a1)]) hx hb dX6_run_35 rfl hl (by decide) rfl (fun ls hl => ?_)
      refine lv_iconst (v := 0) hx hb dX6_run_36 (by decide) ?_
      refine lv_istore (lv' := [(4, .int 0), (3, .int 0), (2, .int r7), (0, .ref (G.2.1 0)), (1, .int a1)]) hx hb dX6_run_37 hl (by decide) rfl (fun ls hl => ?_)
      exact z6_run_39 F hr hk FU a1 0 0 M10 _ _ ls hw (lv_sub hl [3, 4, 1, 0] rfl) hf
    · have hf := it_f hf c8
      refine lv_iload_n hx hb dX6_run_26 rfl (lv_at hl 0 rfl) ?_
      exact x_iret F hw hr hk hf dX6_run_27
  · have hf := it_t hf c4
    refine lv_iconst (v := (-1)) hx hb dX6_run_7 (by decide) ?_
    exact x_iret F hw hr hk hf dX6_run_8
theorem dX6_missing_0 : decode cX6_missing 0 = .ok (.iload_n 1, 1) := by decide +kernel
theorem dX6_missing_1 : decode cX6_missing 1 = .ok (.invokestatic 75, 3) := by decide +kernel
theorem dX6_missing_4 : decode cX6_missing 4 = .ok (.ifCond .ne 5, 3) := by decide +kernel
theorem dX6_missing_7 : decode cX6_missing 7 = .ok (.iconst (-1), 1) := by decide +kernel
theorem dX6_missing_8 : decode cX6_missing 8 = .ok (.ireturn, 1) := by decide +kernel
theorem dX6_missing_9 : decode cX6_missing 9 = .ok (.aload_n 0, 1) := by decide +kernel
theorem dX6_missing_10 : decode cX6_missing 10 = .ok (.iload_n 1, 1) := by decide +kernel
theorem dX6_missing_11 : decode cX6_missing 11 = .ok (.iconst 1, 1) := by decide +kernel
theorem dX6_missing_12 : decode cX6_missing 12 = .ok (.iconst 1, 1) := by decide +kernel
theorem dX6_missing_13 : decode cX6_missing 13 = .ok (.aload_n 0, 1) := by decide +kernel
theorem dX6_missing_14 : decode cX6_missing 14 = .ok (.getfield 140, 3) := by decide +kernel
theorem dX6_missing_17 : decode cX6_missing 17 = .ok (.ishl, 1) := by decide +kernel
theorem dX6_missing_18 : decode cX6_missing 18 = .ok (.iconst 1, 1) := by decide +kernel
theorem dX6_missing_19 : decode cX6_missing 19 = .ok (.isub, 1) := by decide +kernel
theorem dX6_missing_20 : decode cX6_missing 20 = .ok (.invokevirtual 247, 3) := by decide +kernel
theorem dX6_missing_23 : decode cX6_missing 23 = .ok (.istore_n 2, 1) := by decide +kernel
theorem dX6_missing_24 : decode cX6_missing 24 = .ok (.iload_n 2, 1) := by decide +kernel
theorem dX6_missing_25 : decode cX6_missing 25 = .ok (.ifCond .eq 5, 3) := by decide +kernel
theorem dX6_missing_28 : decode cX6_missing 28 = .ok (.iload_n 2, 1) := by decide +kernel
theorem dX6_missing_29 : decode cX6_missing 29 = .ok (.ireturn, 1) := by decide +kernel
theorem dX6_missing_30 : decode cX6_missing 30 = .ok (.aload_n 0, 1) := by decide +kernel
theorem dX6_missing_31 : decode cX6_missing 31 = .ok (.iconst 0, 1) := by decide +kernel
theorem dX6_missing_32 : decode cX6_missing 32 = .ok (.iconst 0, 1) := by decide +kernel
theorem dX6_missing_33 : decode cX6_missing 33 = .ok (.invokevirtual 231, 3) := by decide +kernel
theorem dX6_missing_36 : decode cX6_missing 36 = .ok (.iconst 0, 1) := by decide +kernel
theorem dX6_missing_37 : decode cX6_missing 37 = .ok (.istore_n 3, 1) := by decide +kernel
theorem dX6_missing_38 : decode cX6_missing 38 = .ok (.iconst 0, 1) := by decide +kernel
theorem dX6_missing_39 : decode cX6_missing 39 = .ok (.istore 4, 2) := by decide +kernel
theorem dX6_missing_41 : decode cX6_missing 41 = .ok (.iload 4, 2) := by decide +kernel
theorem dX6_missing_43 : decode cX6_missing 43 = .ok (.aload_n 0, 1) := by decide +kernel
theorem dX6_missing_44 : decode cX6_missing 44 = .ok (.getfield 16, 3) := by decide +kernel
theorem dX6_missing_47 : decode cX6_missing 47 = .ok (.iload_n 1, 1) := by decide +kernel
theorem dX6_missing_48 : decode cX6_missing 48 = .ok (.iaload, 1) := by decide +kernel
theorem dX6_missing_49 : decode cX6_missing 49 = .ok (.if_icmp .ge 87, 3) := by decide +kernel
theorem dX6_missing_52 : decode cX6_missing 52 = .ok (.aload_n 0, 1) := by decide +kernel
theorem dX6_missing_53 : decode cX6_missing 53 = .ok (.getfield 19, 3) := by decide +kernel
theorem dX6_missing_56 : decode cX6_missing 56 = .ok (.bipush 40, 2) := by decide +kernel
theorem dX6_missing_58 : decode cX6_missing 58 = .ok (.iload_n 1, 1) := by decide +kernel
theorem dX6_missing_59 : decode cX6_missing 59 = .ok (.imul, 1) := by decide +kernel
theorem dX6_missing_60 : decode cX6_missing 60 = .ok (.iload 4, 2) := by decide +kernel
theorem dX6_missing_62 : decode cX6_missing 62 = .ok (.iadd, 1) := by decide +kernel
theorem dX6_missing_63 : decode cX6_missing 63 = .ok (.iaload, 1) := by decide +kernel
theorem dX6_missing_64 : decode cX6_missing 64 = .ok (.istore 5, 2) := by decide +kernel
theorem dX6_missing_66 : decode cX6_missing 66 = .ok (.iconst 0, 1) := by decide +kernel
theorem dX6_missing_67 : decode cX6_missing 67 = .ok (.istore 6, 2) := by decide +kernel
theorem dX6_missing_69 : decode cX6_missing 69 = .ok (.iconst 0, 1) := by decide +kernel
theorem dX6_missing_70 : decode cX6_missing 70 = .ok (.istore 7, 2) := by decide +kernel
theorem dX6_missing_72 : decode cX6_missing 72 = .ok (.iload 7, 2) := by decide +kernel
theorem dX6_missing_74 : decode cX6_missing 74 = .ok (.aload_n 0, 1) := by decide +kernel
theorem dX6_missing_75 : decode cX6_missing 75 = .ok (.getfield 140, 3) := by decide +kernel
theorem dX6_missing_78 : decode cX6_missing 78 = .ok (.if_icmp .ge 42, 3) := by decide +kernel
theorem dX6_missing_81 : decode cX6_missing 81 = .ok (.iload 6, 2) := by decide +kernel
theorem dX6_missing_83 : decode cX6_missing 83 = .ok (.ifCond .ne 24, 3) := by decide +kernel
theorem dX6_missing_86 : decode cX6_missing 86 = .ok (.aload_n 0, 1) := by decide +kernel
theorem dX6_missing_87 : decode cX6_missing 87 = .ok (.iload 7, 2) := by decide +kernel
theorem dX6_missing_89 : decode cX6_missing 89 = .ok (.iload_n 3, 1) := by decide +kernel
theorem dX6_missing_90 : decode cX6_missing 90 = .ok (.invokevirtual 225, 3) := by decide +kernel
theorem dX6_missing_93 : decode cX6_missing 93 = .ok (.ifCond .eq 18, 3) := by decide +kernel
theorem dX6_missing_96 : decode cX6_missing 96 = .ok (.iload 5, 2) := by decide +kernel
theorem dX6_missing_98 : decode cX6_missing 98 = .ok (.iload_n 3, 1) := by decide +kernel
theorem dX6_missing_99 : decode cX6_missing 99 = .ok (.iconst 1, 1) := by decide +kernel
theorem dX6_missing_100 : decode cX6_missing 100 = .ok (.iload 7, 2) := by decide +kernel
theorem dX6_missing_102 : decode cX6_missing 102 = .ok (.ishl, 1) := by decide +kernel
theorem dX6_missing_103 : decode cX6_missing 103 = .ok (.ior, 1) := by decide +kernel
theorem dX6_missing_104 : decode cX6_missing 104 = .ok (.if_icmp .ne 7, 3) := by decide +kernel
theorem dX6_missing_107 : decode cX6_missing 107 = .ok (.iconst 1, 1) := by decide +kernel
theorem dX6_missing_108 : decode cX6_missing 108 = .ok (.goto 4, 3) := by decide +kernel
theorem dX6_missing_111 : decode cX6_missing 111 = .ok (.iconst 0, 1) := by decide +kernel
theorem dX6_missing_112 : decode cX6_missing 112 = .ok (.istore 6, 2) := by decide +kernel
theorem dX6_missing_114 : decode cX6_missing 114 = .ok (.iinc 7 1, 3) := by decide +kernel
theorem dX6_missing_117 : decode cX6_missing 117 = .ok (.goto (-45), 3) := by decide +kernel
theorem dX6_missing_120 : decode cX6_missing 120 = .ok (.iload 6, 2) := by decide +kernel
theorem dX6_missing_122 : decode cX6_missing 122 = .ok (.ifCond .ne 5, 3) := by decide +kernel
theorem dX6_missing_125 : decode cX6_missing 125 = .ok (.iconst 0, 1) := by decide +kernel
theorem dX6_missing_126 : decode cX6_missing 126 = .ok (.ireturn, 1) := by decide +kernel
theorem dX6_missing_127 : decode cX6_missing 127 = .ok (.iload 5, 2) := by decide +kernel
theorem dX6_missing_129 : decode cX6_missing 129 = .ok (.istore_n 3, 1) := by decide +kernel
theorem dX6_missing_130 : decode cX6_missing 130 = .ok (.iinc 4 1, 3) := by decide +kernel
theorem dX6_missing_133 : decode cX6_missing 133 = .ok (.goto (-92), 3) := by decide +kernel
theorem dX6_missing_136 : decode cX6_missing 136 = .ok (.iconst 1, 1) := by decide +kernel
theorem dX6_missing_137 : decode cX6_missing 137 = .ok (.ireturn, 1) := by decide +kernel
def p6_missing_112 (k41 : Int32 → Int32 → Int32 → SX → Option (Int32 × SX)) (k72 : Int32 → Int32 → Int32 → Int32 → Int32 → Int32 → SX → Option (Int32 × SX)) (v1 : Int32) (v3 : Int32) (v4 : Int32) (v5 : Int32) (v7 : Int32) (t0 : Int32) (M : SX) : Option (Int32 × SX) :=
  lt_ (v7 + 1) (fun x1 => k72 v1 v3 v4 v5 t0 x1 M)
set_option maxHeartbeats 4000000 in
set_option maxRecDepth 100000 in
theorem w6_missing_112 {G : XG} {p : Program} {l : Launch} {e : Env} {s : State} {m : MethodId} {args : Array Value} {below : List Frame} {meth : Method} {c : Code} (F : Fx G ZY p m c cX6_missing 8 s args RX6) (hr : meth.sig.returnType = some .int) (hk : meth.locks = false) {r : Int32} {M' : SX} (k41 : Int32 → Int32 → Int32 → SX → Option (Int32 × SX)) (hk41 : ∀ (v1 : Int32) (v3 : Int32) (v4 : Int32) (M : SX) (H : Heap) (locs : List Loc) (ls : Array Slot), Wld G ZY M s.heap H locs → lv_has ls 8 [(0, .ref (G.2.1 0)), (1, .int v1), (3, .int v3), (4, .int v4)] → k41 v1 v3 v4 M = some (r, M') → WXi G ZY p l e 3 s m args below meth c r M' H locs (F0 m 41 ls [])) (k72 : Int32 → Int32 → Int32 → Int32 → Int32 → Int32 → SX → Option (Int32 × SX)) (hk72 : ∀ (v1 : Int32) (v3 : Int32) (v4 : Int32) (v5 : Int32) (v6 : Int32) (v7 : Int32) (M : SX) (H : Heap) (locs : List Loc) (ls : Array Slot), Wld G ZY M s.heap H locs → lv_has ls 8 [(0, .ref (G.2.1 0)), (1, .int v1), (3, .int v3), (4, .int v4), (5, .int v5), (6, .int v6), (7, .int v7)] → k72 v1 v3 v4 v5 v6 v7 M = some (r, M') → WXi G ZY p l e 3 s m args below meth c r M' H locs (F0 m 72 ls [])) : ∀ (v1 : Int32) (v3 : Int32) (v4 : Int32) (v5 : Int32) (v7 : Int32) (t0 : Int32) (M : SX) (H : Heap) (locs : List Loc) (ls : Array Slot), Wld G ZY M s.heap H locs → lv_has ls 8 [(0, .ref (G.2.1 0)), (1, .int v1), (3, .int v3), (4, .int v4), (5, .int v5), (7, .int v7)] → p6_missing_112 k41 k72 v1 v3 v4 v5 v7 t0 M = some (r, M') → WXi G ZY p l e 3 s m args below meth c r M' H locs (F0 m 112 ls [.int t0]) := by
  intro v1 v3 v4 v5 v7 t0 M H locs ls hw hl hf
  have hx := F.1.1
  have hb := F.1.2.1
  unfold p6_missing_112 at hf
  refine lv_istore (lv' := [(6, .int t0), (0, .ref (G.2.1 0)), (1, .int v1), (3, .int v3), (4, .int v4), (5, .int v5), (7, .int v7)]) hx hb dX6_missing_112 hl (by decide) rfl (fun ls hl => ?_)
  obtain ⟨x1, ex1, hf⟩ := lt_elim hf
  refine lv_iinc (v := x1) (lv' := [(7, .int x1), (6, .int t0), (0, .ref (G.2.1 0)), (1, .int v1), (3, .int v3), (4, .int v4), (5, .int v5)]) hx hb dX6_missing_114 hl (k := 6) rfl (by rw [ex1]; rfl) (by decide) rfl (fun ls hl => ?_)
  refine lv_goto (tgt := 72) hx hb dX6_missing_117 (by decide) ?_
  exact hk72 v1 v3 v4 v5 t0 x1 M _ _ ls hw (lv_sub hl [2, 3, 4, 5, 6, 1, 0] rfl) hf
def p6_missing_107 (k41 : Int32 → Int32 → Int32 → SX → Option (Int32 × SX)) (k72 : Int32 → Int32 → Int32 → Int32 → Int32 → Int32 → SX → Option (Int32 × SX)) (v1 : Int32) (v3 : Int32) (v4 : Int32) (v5 : Int32) (v7 : Int32) (M : SX) : Option (Int32 × SX) :=
  p6_missing_112 k41 k72 v1 v3 v4 v5 v7 1 M
set_option maxHeartbeats 4000000 in
set_option maxRecDepth 100000 in
theorem w6_missing_107 {G : XG} {p : Program} {l : Launch} {e : Env} {s : State} {m : MethodId} {args : Array Value} {below : List Frame} {meth : Method} {c : Code} (F : Fx G ZY p m c cX6_missing 8 s args RX6) (hr : meth.sig.returnType = some .int) (hk : meth.locks = false) {r : Int32} {M' : SX} (k41 : Int32 → Int32 → Int32 → SX → Option (Int32 × SX)) (hk41 : ∀ (v1 : Int32) (v3 : Int32) (v4 : Int32) (M : SX) (H : Heap) (locs : List Loc) (ls : Array Slot), Wld G ZY M s.heap H locs → lv_has ls 8 [(0, .ref (G.2.1 0)), (1, .int v1), (3, .int v3), (4, .int v4)] → k41 v1 v3 v4 M = some (r, M') → WXi G ZY p l e 3 s m args below meth c r M' H locs (F0 m 41 ls [])) (k72 : Int32 → Int32 → Int32 → Int32 → Int32 → Int32 → SX → Option (Int32 × SX)) (hk72 : ∀ (v1 : Int32) (v3 : Int32) (v4 : Int32) (v5 : Int32) (v6 : Int32) (v7 : Int32) (M : SX) (H : Heap) (locs : List Loc) (ls : Array Slot), Wld G ZY M s.heap H locs → lv_has ls 8 [(0, .ref (G.2.1 0)), (1, .int v1), (3, .int v3), (4, .int v4), (5, .int v5), (6, .int v6), (7, .int v7)] → k72 v1 v3 v4 v5 v6 v7 M = some (r, M') → WXi G ZY p l e 3 s m args below meth c r M' H locs (F0 m 72 ls [])) : ∀ (v1 : Int32) (v3 : Int32) (v4 : Int32) (v5 : Int32) (v7 : Int32) (M : SX) (H : Heap) (locs : List Loc) (ls : Array Slot), Wld G ZY M s.heap H locs → lv_has ls 8 [(0, .ref (G.2.1 0)), (1, .int v1), (3, .int v3), (4, .int v4), (5, .int v5), (7, .int v7)] → p6_missing_107 k41 k72 v1 v3 v4 v5 v7 M = some (r, M') → WXi G ZY p l e 3 s m args below meth c r M' H locs (F0 m 107 ls []) := by
  intro v1 v3 v4 v5 v7 M H locs ls hw hl hf
  have hx := F.1.1
  have hb := F.1.2.1
  unfold p6_missing_107 at hf
  refine lv_iconst (v := 1) hx hb dX6_missing_107 (by decide) ?_
  refine lv_goto (tgt := 112) hx hb dX6_missing_108 (by decide) ?_
  exact w6_missing_112 F hr hk k41 hk41 k72 hk72 v1 v3 v4 v5 v7 1 M _ _ ls hw (lv_sub hl [0, 1, 2, 3, 4, 5] rfl) hf
def p6_missing_111 (k41 : Int32 → Int32 → Int32 → SX → Option (Int32 × SX)) (k72 : Int32 → Int32 → Int32 → Int32 → Int32 → Int32 → SX → Option (Int32 × SX)) (v1 : Int32) (v3 : Int32) (v4 : Int32) (v5 : Int32) (v7 : Int32) (M : SX) : Option (Int32 × SX) :=
  p6_missing_112 k41 k72 v1 v3 v4 v5 v7 0 M
set_option maxHeartbeats 4000000 in
set_option maxRecDepth 100000 in
theorem w6_missing_111 {G : XG} {p : Program} {l : Launch} {e : Env} {s : State} {m : MethodId} {args : Array Value} {below : List Frame} {meth : Method} {c : Code} (F : Fx G ZY p m c cX6_missing 8 s args RX6) (hr : meth.sig.returnType = some .int) (hk : meth.locks = false) {r : Int32} {M' : SX} (k41 : Int32 → Int32 → Int32 → SX → Option (Int32 × SX)) (hk41 : ∀ (v1 : Int32) (v3 : Int32) (v4 : Int32) (M : SX) (H : Heap) (locs : List Loc) (ls : Array Slot), Wld G ZY M s.heap H locs → lv_has ls 8 [(0, .ref (G.2.1 0)), (1, .int v1), (3, .int v3), (4, .int v4)] → k41 v1 v3 v4 M = some (r, M') → WXi G ZY p l e 3 s m args below meth c r M' H locs (F0 m 41 ls [])) (k72 : Int32 → Int32 → Int32 → Int32 → Int32 → Int32 → SX → Option (Int32 × SX)) (hk72 : ∀ (v1 : Int32) (v3 : Int32) (v4 : Int32) (v5 : Int32) (v6 : Int32) (v7 : Int32) (M : SX) (H : Heap) (locs : List Loc) (ls : Array Slot), Wld G ZY M s.heap H locs → lv_has ls 8 [(0, .ref (G.2.1 0)), (1, .int v1), (3, .int v3), (4, .int v4), (5, .int v5), (6, .int v6), (7, .int v7)] → k72 v1 v3 v4 v5 v6 v7 M = some (r, M') → WXi G ZY p l e 3 s m args below meth c r M' H locs (F0 m 72 ls [])) : ∀ (v1 : Int32) (v3 : Int32) (v4 : Int32) (v5 : Int32) (v7 : Int32) (M : SX) (H : Heap) (locs : List Loc) (ls : Array Slot), Wld G ZY M s.heap H locs → lv_has ls 8 [(0, .ref (G.2.1 0)), (1, .int v1), (3, .int v3), (4, .int v4), (5, .int v5), (7, .int v7)] → p6_missing_111 k41 k72 v1 v3 v4 v5 v7 M = some (r, M') → WXi G ZY p l e 3 s m args below meth c r M' H locs (F0 m 111 ls []) := by
  intro v1 v3 v4 v5 v7 M H locs ls hw hl hf
  have hx := F.1.1
  have hb := F.1.2.1
  unfold p6_missing_111 at hf
  refine lv_iconst (v := 0) hx hb dX6_missing_111 (by decide) ?_
  exact w6_missing_112 F hr hk k41 hk41 k72 hk72 v1 v3 v4 v5 v7 0 M _ _ ls hw (lv_sub hl [0, 1, 2, 3, 4, 5] rfl) hf
def p6_missing_72 (k41 : Int32 → Int32 → Int32 → SX → Option (Int32 × SX)) (k72 : Int32 → Int32 → Int32 → Int32 → Int32 → Int32 → SX → Option (Int32 × SX)) (v1 : Int32) (v3 : Int32) (v4 : Int32) (v5 : Int32) (v6 : Int32) (v7 : Int32) (M : SX) : Option (Int32 × SX) :=
  if (M.1 0 1) ≤ v7 then (if v6 = 0 then (some (0, M))
  else (lt_ (v4 + 1) (fun x3 => k41 v1 v5 x3 M)))
  else (if v6 = 0 then (bd (p6_next v7 v3 M) (fun r7 M6 => if r7 = 0 then (p6_missing_111 k41 k72 v1 v3 v4 v5 v7 M6)
  else (if v5 = (v3 ||| ((1 : Int32) <<< (v7 &&& 31))) then (p6_missing_107 k41 k72 v1 v3 v4 v5 v7 M6)
  else (p6_missing_111 k41 k72 v1 v3 v4 v5 v7 M6))))
  else (p6_missing_107 k41 k72 v1 v3 v4 v5 v7 M))
set_option maxHeartbeats 4000000 in
set_option maxRecDepth 100000 in
theorem w6_missing_72 {G : XG} {p : Program} {l : Launch} {e : Env} {s : State} {m : MethodId} {args : Array Value} {below : List Frame} {meth : Method} {c : Code} (F : Fx G ZY p m c cX6_missing 8 s args RX6) (hr : meth.sig.returnType = some .int) (hk : meth.locks = false) {r : Int32} {M' : SX} (k41 : Int32 → Int32 → Int32 → SX → Option (Int32 × SX)) (hk41 : ∀ (v1 : Int32) (v3 : Int32) (v4 : Int32) (M : SX) (H : Heap) (locs : List Loc) (ls : Array Slot), Wld G ZY M s.heap H locs → lv_has ls 8 [(0, .ref (G.2.1 0)), (1, .int v1), (3, .int v3), (4, .int v4)] → k41 v1 v3 v4 M = some (r, M') → WXi G ZY p l e 3 s m args below meth c r M' H locs (F0 m 41 ls [])) (k72 : Int32 → Int32 → Int32 → Int32 → Int32 → Int32 → SX → Option (Int32 × SX)) (hk72 : ∀ (v1 : Int32) (v3 : Int32) (v4 : Int32) (v5 : Int32) (v6 : Int32) (v7 : Int32) (M : SX) (H : Heap) (locs : List Loc) (ls : Array Slot), Wld G ZY M s.heap H locs → lv_has ls 8 [(0, .ref (G.2.1 0)), (1, .int v1), (3, .int v3), (4, .int v4), (5, .int v5), (6, .int v6), (7, .int v7)] → k72 v1 v3 v4 v5 v6 v7 M = some (r, M') → WXi G ZY p l e 3 s m args below meth c r M' H locs (F0 m 72 ls [])) : ∀ (v1 : Int32) (v3 : Int32) (v4 : Int32) (v5 : Int32) (v6 : Int32) (v7 : Int32) (M : SX) (H : Heap) (locs : List Loc) (ls : Array Slot), Wld G ZY M s.heap H locs → lv_has ls 8 [(0, .ref (G.2.1 0)), (1, .int v1), (3, .int v3), (4, .int v4), (5, .int v5), (6, .int v6), (7, .int v7)] → p6_missing_72 k41 k72 v1 v3 v4 v5 v6 v7 M = some (r, M') → WXi G ZY p l e 3 s m args below meth c r M' H locs (F0 m 72 ls []) := by
  intro v1 v3 v4 v5 v6 v7 M H locs ls hw hl hf
  have hx := F.1.1
  have hb := F.1.2.1
  unfold p6_missing_72 at hf
  refine lv_iload hx hb dX6_missing_72 (lv_at hl 6 rfl) ?_
  refine lv_aload_n hx hb dX6_missing_74 rfl (lv_at hl 0 rfl) ?_
  refine g6_1 F hw tw_611 dX6_missing_75 ?_
  refine lv_icmp_ge (tgt := 120) hx hb dX6_missing_78 (by decide) (fun c1 => ?_) (fun c1 => ?_)
  · have hf := it_t hf c1
    refine lv_iload hx hb dX6_missing_120 (lv_at hl 5 rfl) ?_
    refine lv_if_ne (tgt := 127) hx hb dX6_missing_122 (by decide) (fun c2 => ?_) (fun c2 => ?_)
    · have hf := it_f hf c2
      refine lv_iload hx hb dX6_missing_127 (lv_at hl 4 rfl) ?_
      refine lv_istore_n (lv' := [(3, .int v5), (0, .ref (G.2.1 0)), (1, .int v1), (4, .int v4), (5, .int v5), (6, .int v6), (7, .int v7)]) hx hb dX6_missing_129 rfl hl (by decide) rfl (fun ls hl => ?_)
      obtain ⟨x3, ex3, hf⟩ := lt_elim hf
      refine lv_iinc (v := x3) (lv' := [(4, .int x3), (3, .int v5), (0, .ref (G.2.1 0)), (1, .int v1), (5, .int v5), (6, .int v6), (7, .int v7)]) hx hb dX6_missing_130 hl (k := 3) rfl (by rw [ex3]; rfl) (by decide) rfl (fun ls hl => ?_)
      refine lv_goto (tgt := 41) hx hb dX6_missing_133 (by decide) ?_
      exact hk41 v1 v5 x3 M _ _ ls hw (lv_sub hl [2, 3, 1, 0] rfl) hf
    · have hf := it_t hf c2
      refine lv_iconst (v := 0) hx hb dX6_missing_125 (by decide) ?_
      exact x_iret F hw hr hk hf dX6_missing_126
  · have hf := it_f hf c1
    refine lv_iload hx hb dX6_missing_81 (lv_at hl 5 rfl) ?_
    refine lv_if_ne (tgt := 107) hx hb dX6_missing_83 (by decide) (fun c4 => ?_) (fun c4 => ?_)
    · have hf := it_f hf c4
      exact w6_missing_107 F hr hk k41 hk41 k72 hk72 v1 v3 v4 v5 v7 M _ _ ls hw (lv_sub hl [0, 1, 2, 3, 4, 6] rfl) hf
    · have hf := it_t hf c4
      refine lv_aload_n hx hb dX6_missing_86 rfl (lv_at hl 0 rfl) ?_
      refine lv_iload hx hb dX6_missing_87 (lv_at hl 6 rfl) ?_
      refine lv_iload_n hx hb dX6_missing_89 rfl (lv_at hl 2 rfl) ?_
      obtain ⟨r7, M6, hc5, hf⟩ := bd_some hf
      refine x_aftI hw (x_runV (rest := []) F hw hl.1 vw_RX6_225 (sM) rfl (c6_next v7 v3 hc5) rfl rfl (Nat.le_of_ble_eq_true rfl) ⟨Nat.le_of_ble_eq_true rfl, Nat.le_of_ble_eq_true rfl⟩ dX6_missing_90) (fun H locs hw => ?_)
      refine lv_if_eq (tgt := 111) hx hb dX6_missing_93 (by decide) (fun c8 => ?_) (fun c8 => ?_)
      · have hf := it_t hf c8
        exact w6_missing_111 F hr hk k41 hk41 k72 hk72 v1 v3 v4 v5 v7 M6 _ _ ls hw (lv_sub hl [0, 1, 2, 3, 4, 6] rfl) hf
      · have hf := it_f hf c8
        refine lv_iload hx hb dX6_missing_96 (lv_at hl 4 rfl) ?_
        refine lv_iload_n hx hb dX6_missing_98 rfl (lv_at hl 2 rfl) ?_
        refine lv_iconst (v := 1) hx hb dX6_missing_99 (by decide) ?_
        refine lv_iload hx hb dX6_missing_100 (lv_at hl 6 rfl) ?_
        refine lv_ishl hx hb dX6_missing_102 ?_
        refine lv_ior hx hb dX6_missing_103 ?_
        refine lv_icmp_ne (tgt := 111) hx hb dX6_missing_104 (by decide) (fun c9 => ?_) (fun c9 => ?_)
        · have hf := it_f hf c9
          exact w6_missing_111 F hr hk k41 hk41 k72 hk72 v1 v3 v4 v5 v7 M6 _ _ ls hw (lv_sub hl [0, 1, 2, 3, 4, 6] rfl) hf
        · have hf := it_t hf c9
          exact w6_missing_107 F hr hk k41 hk41 k72 hk72 v1 v3 v4 v5 v7 M6 _ _ ls hw (lv_sub hl [0, 1, 2, 3, 4, 6] rfl) hf
theorem z6_missing_72 {G : XG} {p : Program} {l : Launch} {e : Env} {s : State} {m : MethodId} {args : Array Value} {below : List Frame} {meth : Method} {c : Code} (F : Fx G ZY p m c cX6_missing 8 s args RX6) (hr : meth.sig.returnType = some .int) (hk : meth.locks = false) {r : Int32} {M' : SX} (k41 : Int32 → Int32 → Int32 → SX → Option (Int32 × SX)) (hk41 : ∀ (v1 : Int32) (v3 : Int32) (v4 : Int32) (M : SX) (H : Heap) (locs : List Loc) (ls : Array Slot), Wld G ZY M s.heap H locs → lv_has ls 8 [(0, .ref (G.2.1 0)), (1, .int v1), (3, .int v3), (4, .int v4)] → k41 v1 v3 v4 M = some (r, M') → WXi G ZY p l e 3 s m args below meth c r M' H locs (F0 m 41 ls [])) : ∀ n : Nat, ∀ (v1 : Int32) (v3 : Int32) (v4 : Int32) (v5 : Int32) (v6 : Int32) (v7 : Int32) (M : SX) (H : Heap) (locs : List Loc) (ls : Array Slot), Wld G ZY M s.heap H locs → lv_has ls 8 [(0, .ref (G.2.1 0)), (1, .int v1), (3, .int v3), (4, .int v4), (5, .int v5), (6, .int v6), (7, .int v7)] → xlp6 (p6_missing_72 k41) n v1 v3 v4 v5 v6 v7 M = some (r, M') → WXi G ZY p l e 3 s m args below meth c r M' H locs (F0 m 72 ls []) := by
  intro n
  induction n with
  | zero => intro _ _ _ _ _ _ _ _ _ _ _ _ hf; cases hf
  | succ n ih => exact w6_missing_72 F hr hk k41 hk41 (xlp6 (p6_missing_72 k41) n) ih
def p6_missing_41 (k41 : Int32 → Int32 → Int32 → SX → Option (Int32 × SX)) (v1 : Int32) (v3 : Int32) (v4 : Int32) (M : SX) : Option (Int32 × SX) :=
  gd (bIn v1 6) ( if (M.1 3 (Int32.toNatClampNeg v1)) ≤ v4 then (some (1, M))
  else (gd (bIn ((40 * v1) + v4) 240) ( lt_ (M.1 4 (Int32.toNatClampNeg ((40 * v1) + v4))) (fun x4 => xlp6 (p6_missing_72 k41) FU v1 v3 v4 x4 0 0 M))))
set_option maxHeartbeats 4000000 in
set_option maxRecDepth 100000 in
theorem w6_missing_41 {G : XG} {p : Program} {l : Launch} {e : Env} {s : State} {m : MethodId} {args : Array Value} {below : List Frame} {meth : Method} {c : Code} (F : Fx G ZY p m c cX6_missing 8 s args RX6) (hr : meth.sig.returnType = some .int) (hk : meth.locks = false) {r : Int32} {M' : SX} (k41 : Int32 → Int32 → Int32 → SX → Option (Int32 × SX)) (hk41 : ∀ (v1 : Int32) (v3 : Int32) (v4 : Int32) (M : SX) (H : Heap) (locs : List Loc) (ls : Array Slot), Wld G ZY M s.heap H locs → lv_has ls 8 [(0, .ref (G.2.1 0)), (1, .int v1), (3, .int v3), (4, .int v4)] → k41 v1 v3 v4 M = some (r, M') → WXi G ZY p l e 3 s m args below meth c r M' H locs (F0 m 41 ls [])) : ∀ (v1 : Int32) (v3 : Int32) (v4 : Int32) (M : SX) (H : Heap) (locs : List Loc) (ls : Array Slot), Wld G ZY M s.heap H locs → lv_has ls 8 [(0, .ref (G.2.1 0)), (1, .int v1), (3, .int v3), (4, .int v4)] → p6_missing_41 k41 v1 v3 v4 M = some (r, M') → WXi G ZY p l e 3 s m args below meth c r M' H locs (F0 m 41 ls []) := by
  intro v1 v3 v4 M H locs ls hw hl hf
  have hx := F.1.1
  have hb := F.1.2.1
  unfold p6_missing_41 at hf
  refine lv_iload hx hb dX6_missing_41 (lv_at hl 3 rfl) ?_
  refine lv_aload_n hx hb dX6_missing_43 rfl (lv_at hl 0 rfl) ?_
  refine g6_3 F hw tw_606 dX6_missing_44 ?_
  refine lv_iload_n hx hb dX6_missing_47 rfl (lv_at hl 1 rfl) ?_
  obtain ⟨g1, hf⟩ := gd_some hf
  refine x_iald F hw sM3 g1 dX6_missing_48 ?_
  refine lv_icmp_ge (tgt := 136) hx hb dX6_missing_49 (by decide) (fun c2 => ?_) (fun c2 => ?_)
  · have hf := it_t hf c2
    refine lv_iconst (v := 1) hx hb dX6_missing_136 (by decide) ?_
    exact x_iret F hw hr hk hf dX6_missing_137
  · have hf := it_f hf c2
    refine lv_aload_n hx hb dX6_missing_52 rfl (lv_at hl 0 rfl) ?_
    refine g6_4 F hw tw_605 dX6_missing_53 ?_
    refine lv_bipush (v := 40) hx hb dX6_missing_56 (by decide) ?_
    refine lv_iload_n hx hb dX6_missing_58 rfl (lv_at hl 1 rfl) ?_
    refine lv_imul hx hb dX6_missing_59 ?_
    refine lv_iload hx hb dX6_missing_60 (lv_at hl 3 rfl) ?_
    refine lv_iadd hx hb dX6_missing_62 ?_
    obtain ⟨g3, hf⟩ := gd_some hf
    refine x_iald F hw sM4 g3 dX6_missing_63 ?_
    obtain ⟨x4, ex4, hf⟩ := lt_elim hf
    refine x_let ex4 ?_
    refine lv_istore (lv' := [(5, .int x4), (0, .ref (G.2.1 0)), (1, .int v1), (3, .int v3), (4, .int v4)]) hx hb dX6_missing_64 hl (by decide) rfl (fun ls hl => ?_)
    refine lv_iconst (v := 0) hx hb dX6_missing_66 (by decide) ?_
    refine lv_istore (lv' := [(6, .int 0), (5, .int x4), (0, .ref (G.2.1 0)), (1, .int v1), (3, .int v3), (4, .int v4)]) hx hb dX6_missing_67 hl (by decide) rfl (fun ls hl => ?_)
    refine lv_iconst (v := 0) hx hb dX6_missing_69 (by decide) ?_
    refine lv_istore (lv' := [(7, .int 0), (6, .int 0), (5, .int x4), (0, .ref (G.2.1 0)), (1, .int v1), (3, .int v3), (4, .int v4)]) hx hb dX6_missing_70 hl (by decide) rfl (fun ls hl => ?_)
    exact z6_missing_72 F hr hk k41 hk41 FU v1 v3 v4 x4 0 0 M _ _ ls hw (lv_sub hl [3, 4, 5, 6, 2, 1, 0] rfl) hf
theorem z6_missing_41 {G : XG} {p : Program} {l : Launch} {e : Env} {s : State} {m : MethodId} {args : Array Value} {below : List Frame} {meth : Method} {c : Code} (F : Fx G ZY p m c cX6_missing 8 s args RX6) (hr : meth.sig.returnType = some .int) (hk : meth.locks = false) {r : Int32} {M' : SX} : ∀ n : Nat, ∀ (v1 : Int32) (v3 : Int32) (v4 : Int32) (M : SX) (H : Heap) (locs : List Loc) (ls : Array Slot), Wld G ZY M s.heap H locs → lv_has ls 8 [(0, .ref (G.2.1 0)), (1, .int v1), (3, .int v3), (4, .int v4)] → xlp3 p6_missing_41 n v1 v3 v4 M = some (r, M') → WXi G ZY p l e 3 s m args below meth c r M' H locs (F0 m 41 ls []) := by
  intro n
  induction n with
  | zero => intro _ _ _ _ _ _ _ _ _ hf; cases hf
  | succ n ih => exact w6_missing_41 F hr hk (xlp3 p6_missing_41 n) ih
def p6_missing (a1 : Int32) (M : SX) : Option (Int32 × SX) :=
  bd (p6_isRow a1 M) (fun r3 M2 => if r3 = 0 then (some ((-1), M2))
  else (bd (p6_noRow a1 1 (((1 : Int32) <<< ((M2.1 0 1) &&& 31)) - 1) M2) (fun r7 M6 => if r7 = 0 then (bv (p6_layTried 0 0 M6) (fun M10 => xlp3 p6_missing_41 FU a1 0 0 M10))
  else (some (r7, M6)))))
set_option maxHeartbeats 4000000 in
set_option maxRecDepth 100000 in
theorem c6_missing {l : Launch} {G : XG} {r : Int32} {M' : SX} {M : SX} (a1 : Int32) (hf : p6_missing a1 M = some (r, M')) : Met l yX6_missing (.code yX6_missing cX6_missing 8 (some .int) :: TBL) (rmX 3) (xPc G ZY M [.ref (G.2.1 0), .int a1]) (xQi G ZY r M') 0 0 (inA G ZY) := by
  refine x_met (cc := cX6_missing) (by decide) (Nat.le_of_ble_eq_true rfl) ?_
  intro p e s m below meth c ls F hr hk hl hw
  have F : Fx G ZY p m c cX6_missing 8 s [.ref (G.2.1 0), .int a1].toArray RX6 := F
  have hl : lv_has ls 8 [(0, .ref (G.2.1 0)), (1, .int a1)] := hl
  have hx := F.1.1
  have hb := F.1.2.1
  unfold p6_missing at hf
  refine lv_iload_n hx hb dX6_missing_0 rfl (lv_at hl 1 rfl) ?_
  obtain ⟨r3, M2, hc1, hf⟩ := bd_some hf
  refine x_aftI hw (x_runS (rest := []) F hw hl.1 sw_RX6_75 (c6_isRow a1 hc1) rfl rfl (Nat.le_of_ble_eq_true rfl) ⟨Nat.le_of_ble_eq_true rfl, Nat.le_of_ble_eq_true rfl⟩ dX6_missing_1) (fun H locs hw => ?_)
  refine lv_if_ne (tgt := 9) hx hb dX6_missing_4 (by decide) (fun c4 => ?_) (fun c4 => ?_)
  · have hf := it_f hf c4
    refine lv_aload_n hx hb dX6_missing_9 rfl (lv_at hl 0 rfl) ?_
    refine lv_iload_n hx hb dX6_missing_10 rfl (lv_at hl 1 rfl) ?_
    refine lv_iconst (v := 1) hx hb dX6_missing_11 (by decide) ?_
    refine lv_iconst (v := 1) hx hb dX6_missing_12 (by decide) ?_
    refine lv_aload_n hx hb dX6_missing_13 rfl (lv_at hl 0 rfl) ?_
    refine g6_1 F hw tw_611 dX6_missing_14 ?_
    refine lv_ishl hx hb dX6_missing_17 ?_
    refine lv_iconst (v := 1) hx hb dX6_missing_18 (by decide) ?_
    refine lv_isub hx hb dX6_missing_19 ?_
    obtain ⟨r7, M6, hc5, hf⟩ := bd_some hf
    refine x_aftI hw (x_runV (rest := []) F hw hl.1 vw_RX6_247 (sM) rfl (c6_noRow a1 1 (((1 : Int32) <<< ((M2.1 0 1) &&& 31)) - 1) hc5) rfl rfl (Nat.le_of_ble_eq_true rfl) ⟨Nat.le_of_ble_eq_true rfl, Nat.le_of_ble_eq_true rfl⟩ dX6_missing_20) (fun H locs hw => ?_)
    refine lv_istore_n (lv' := [(2, .int r7), (0, .ref (G.2.1 0)), (1, .int a1)]) hx hb dX6_missing_23 rfl hl (by decide) rfl (fun ls hl => ?_)
    refine lv_iload_n hx hb dX6_missing_24 rfl (lv_at hl 0 rfl) ?_
    refine lv_if_eq (tgt := 30) hx hb dX6_missing_25 (by decide) (fun c8 => ?_) (fun c8 => ?_)
    · have hf := it_t hf c8
      refine lv_aload_n hx hb dX6_missing_30 rfl (lv_at hl 1 rfl) ?_
      refine lv_iconst (v := 0) hx hb dX6_missing_31 (by decide) ?_
      refine lv_iconst (v := 0) hx hb dX6_missing_32 (by decide) ?_
      obtain ⟨M10, hc9, hf⟩ := bv_some hf
      refine x_aftV hw (x_runV (rest := []) F hw hl.1 vw_RX6_231 (sM) rfl (c6_layTried 0 0 hc9) rfl rfl (Nat.le_of_ble_eq_true rfl) ⟨Nat.le_of_ble_eq_true rfl, Nat.le_of_ble_eq_true rfl⟩ dX6_missing_33) (fun H locs hw => ?_)
      refine lv_iconst (v := 0) hx hb dX6_missing_36 (by decide) ?_
      refine lv_istore_n (lv' := [(3, .int 0), (2, .int r7), (0, .ref (G.2.1 0)), (1, .int a1)]) hx hb dX6_missing_37 rfl hl (by decide) rfl (fun ls hl => ?_)
      refine lv_iconst (v := 0) hx hb dX6_missing_38 (by decide) ?_
      refine lv_istore (lv' := [(4, .int 0), (3, .int 0), (2, .int r7), (0, .ref (G.2.1 0)), (1, .int a1)]) hx hb dX6_missing_39 hl (by decide) rfl (fun ls hl => ?_)
      exact z6_missing_41 F hr hk FU a1 0 0 M10 _ _ ls hw (lv_sub hl [3, 4, 1, 0] rfl) hf
    · have hf := it_f hf c8
      refine lv_iload_n hx hb dX6_missing_28 rfl (lv_at hl 0 rfl) ?_
      exact x_iret F hw hr hk hf dX6_missing_29
  · have hf := it_t hf c4
    refine lv_iconst (v := (-1)) hx hb dX6_missing_7 (by decide) ?_
    exact x_iret F hw hr hk hf dX6_missing_8
