theorem dX6_undo_0 : decode cX6_undo 0 = .ok (.iload_n 1, 1) := by decide +kernel
theorem dX6_undo_1 : decode cX6_undo 1 = .ok (.i2l, 1) := by decide +kernel
theorem dX6_undo_2 : decode cX6_undo 2 = .ok (.lconst 0, 1) := by decide +kernel
theorem dX6_undo_3 : decode cX6_undo 3 = .ok (.aload_n 0, 1) := by decide +kernel
theorem dX6_undo_4 : decode cX6_undo 4 = .ok (.getfield 7, 3) := by decide +kernel
theorem dX6_undo_7 : decode cX6_undo 7 = .ok (.iconst 0, 1) := by decide +kernel
theorem dX6_undo_8 : decode cX6_undo 8 = .ok (.iaload, 1) := by decide +kernel
theorem dX6_undo_9 : decode cX6_undo 9 = .ok (.i2l, 1) := by decide +kernel
theorem dX6_undo_10 : decode cX6_undo 10 = .ok (.invokestatic 69, 3) := by decide +kernel
theorem dX6_undo_13 : decode cX6_undo 13 = .ok (.ifCond .ne 5, 3) := by decide +kernel
theorem dX6_undo_16 : decode cX6_undo 16 = .ok (.iconst (-1), 1) := by decide +kernel
theorem dX6_undo_17 : decode cX6_undo 17 = .ok (.ireturn, 1) := by decide +kernel
theorem dX6_undo_18 : decode cX6_undo 18 = .ok (.aload_n 0, 1) := by decide +kernel
theorem dX6_undo_19 : decode cX6_undo 19 = .ok (.getfield 7, 3) := by decide +kernel
theorem dX6_undo_22 : decode cX6_undo 22 = .ok (.iconst 0, 1) := by decide +kernel
theorem dX6_undo_23 : decode cX6_undo 23 = .ok (.iaload, 1) := by decide +kernel
theorem dX6_undo_24 : decode cX6_undo 24 = .ok (.iload_n 1, 1) := by decide +kernel
theorem dX6_undo_25 : decode cX6_undo 25 = .ok (.isub, 1) := by decide +kernel
theorem dX6_undo_26 : decode cX6_undo 26 = .ok (.istore_n 2, 1) := by decide +kernel
theorem dX6_undo_27 : decode cX6_undo 27 = .ok (.iconst 0, 1) := by decide +kernel
theorem dX6_undo_28 : decode cX6_undo 28 = .ok (.istore_n 3, 1) := by decide +kernel
theorem dX6_undo_29 : decode cX6_undo 29 = .ok (.iload_n 3, 1) := by decide +kernel
theorem dX6_undo_30 : decode cX6_undo 30 = .ok (.bipush 24, 2) := by decide +kernel
theorem dX6_undo_32 : decode cX6_undo 32 = .ok (.if_icmp .ge 35, 3) := by decide +kernel
theorem dX6_undo_35 : decode cX6_undo 35 = .ok (.iload_n 2, 1) := by decide +kernel
theorem dX6_undo_36 : decode cX6_undo 36 = .ok (.ifCond .le 31, 3) := by decide +kernel
theorem dX6_undo_39 : decode cX6_undo 39 = .ok (.aload_n 0, 1) := by decide +kernel
theorem dX6_undo_40 : decode cX6_undo 40 = .ok (.getfield 7, 3) := by decide +kernel
theorem dX6_undo_43 : decode cX6_undo 43 = .ok (.iconst 1, 1) := by decide +kernel
theorem dX6_undo_44 : decode cX6_undo 44 = .ok (.iload_n 3, 1) := by decide +kernel
theorem dX6_undo_45 : decode cX6_undo 45 = .ok (.iadd, 1) := by decide +kernel
theorem dX6_undo_46 : decode cX6_undo 46 = .ok (.aload_n 0, 1) := by decide +kernel
theorem dX6_undo_47 : decode cX6_undo 47 = .ok (.getfield 7, 3) := by decide +kernel
theorem dX6_undo_50 : decode cX6_undo 50 = .ok (.bipush 31, 2) := by decide +kernel
theorem dX6_undo_52 : decode cX6_undo 52 = .ok (.bipush 24, 2) := by decide +kernel
theorem dX6_undo_54 : decode cX6_undo 54 = .ok (.iload_n 1, 1) := by decide +kernel
theorem dX6_undo_55 : decode cX6_undo 55 = .ok (.imul, 1) := by decide +kernel
theorem dX6_undo_56 : decode cX6_undo 56 = .ok (.iadd, 1) := by decide +kernel
theorem dX6_undo_57 : decode cX6_undo 57 = .ok (.iload_n 3, 1) := by decide +kernel
theorem dX6_undo_58 : decode cX6_undo 58 = .ok (.iadd, 1) := by decide +kernel
theorem dX6_undo_59 : decode cX6_undo 59 = .ok (.iaload, 1) := by decide +kernel
theorem dX6_undo_60 : decode cX6_undo 60 = .ok (.iastore, 1) := by decide +kernel
theorem dX6_undo_61 : decode cX6_undo 61 = .ok (.iinc 3 1, 3) := by decide +kernel
theorem dX6_undo_64 : decode cX6_undo 64 = .ok (.goto (-35), 3) := by decide +kernel
theorem dX6_undo_67 : decode cX6_undo 67 = .ok (.aload_n 0, 1) := by decide +kernel
theorem dX6_undo_68 : decode cX6_undo 68 = .ok (.getfield 7, 3) := by decide +kernel
theorem dX6_undo_71 : decode cX6_undo 71 = .ok (.iconst 0, 1) := by decide +kernel
theorem dX6_undo_72 : decode cX6_undo 72 = .ok (.iload_n 1, 1) := by decide +kernel
theorem dX6_undo_73 : decode cX6_undo 73 = .ok (.iastore, 1) := by decide +kernel
theorem dX6_undo_74 : decode cX6_undo 74 = .ok (.iload_n 2, 1) := by decide +kernel
theorem dX6_undo_75 : decode cX6_undo 75 = .ok (.ireturn, 1) := by decide +kernel
def p6_undo_67 (v1 : Int32) (v2 : Int32) (M : SX) : Option (Int32 × SX) :=
  gd (bIn 0 3964) ( lt_ (wI M 1 (Int32.toNatClampNeg 0) v1) (fun M2 => some (v2, M2)))
set_option maxHeartbeats 4000000 in
set_option maxRecDepth 100000 in
theorem w6_undo_67 {G : XG} {p : Program} {l : Launch} {e : Env} {s : State} {m : MethodId} {args : Array Value} {below : List Frame} {meth : Method} {c : Code} (F : Fx G ZY p m c cX6_undo 4 s args RX6) (hr : meth.sig.returnType = some .int) (hk : meth.locks = false) {r : Int32} {M' : SX} : ∀ (v1 : Int32) (v2 : Int32) (M : SX) (H : Heap) (locs : List Loc) (ls : Array Slot), Wld G ZY M s.heap H locs → lv_has ls 4 [(0, .ref (G.2.1 0)), (1, .int v1), (2, .int v2)] → p6_undo_67 v1 v2 M = some (r, M') → WXi G ZY p l e 1 s m args below meth c r M' H locs (F0 m 67 ls []) := by
  intro v1 v2 M H locs ls hw hl hf
  have hx := F.1.1
  have hb := F.1.2.1
  unfold p6_undo_67 at hf
  refine lv_aload_n hx hb dX6_undo_67 rfl (lv_at hl 0 rfl) ?_
  refine g6_0 F hw tw_610 dX6_undo_68 ?_
  refine lv_iconst (v := 0) hx hb dX6_undo_71 (by decide) ?_
  refine lv_iload_n hx hb dX6_undo_72 rfl (lv_at hl 1 rfl) ?_
  obtain ⟨g1, hf⟩ := gd_some hf
  refine x_iast F hw sM1 g1 dX6_undo_73 (fun H locs hw => ?_)
  obtain ⟨M2, eM2, hf⟩ := lt_elim hf
  rw [← eM2] at hw
  refine lv_iload_n hx hb dX6_undo_74 rfl (lv_at hl 2 rfl) ?_
  exact x_iret F hw hr hk hf dX6_undo_75
def p6_undo_29 (k29 : Int32 → Int32 → Int32 → SX → Option (Int32 × SX)) (v1 : Int32) (v2 : Int32) (v3 : Int32) (M : SX) : Option (Int32 × SX) :=
  if (24 : Int32) ≤ v3 then (p6_undo_67 v1 v2 M)
  else (if v2 ≤ 0 then (p6_undo_67 v1 v2 M)
  else (gd (bIn ((31 + (24 * v1)) + v3) 3964) ( gd (bIn (1 + v3) 3964) ( lt_ (wI M 1 (Int32.toNatClampNeg (1 + v3)) (M.1 1 (Int32.toNatClampNeg ((31 + (24 * v1)) + v3)))) (fun M5 => lt_ (v3 + 1) (fun x6 => k29 v1 v2 x6 M5))))))
set_option maxHeartbeats 4000000 in
set_option maxRecDepth 100000 in
theorem w6_undo_29 {G : XG} {p : Program} {l : Launch} {e : Env} {s : State} {m : MethodId} {args : Array Value} {below : List Frame} {meth : Method} {c : Code} (F : Fx G ZY p m c cX6_undo 4 s args RX6) (hr : meth.sig.returnType = some .int) (hk : meth.locks = false) {r : Int32} {M' : SX} (k29 : Int32 → Int32 → Int32 → SX → Option (Int32 × SX)) (hk29 : ∀ (v1 : Int32) (v2 : Int32) (v3 : Int32) (M : SX) (H : Heap) (locs : List Loc) (ls : Array Slot), Wld G ZY M s.heap H locs → lv_has ls 4 [(0, .ref (G.2.1 0)), (1, .int v1), (2, .int v2), (3, .int v3)] → k29 v1 v2 v3 M = some (r, M') → WXi G ZY p l e 1 s m args below meth c r M' H locs (F0 m 29 ls [])) : ∀ (v1 : Int32) (v2 : Int32) (v3 : Int32) (M : SX) (H : Heap) (locs : List Loc) (ls : Array Slot), Wld G ZY M s.heap H locs → lv_has ls 4 [(0, .ref (G.2.1 0)), (1, .int v1), (2, .int v2), (3, .int v3)] → p6_undo_29 k29 v1 v2 v3 M = some (r, M') → WXi G ZY p l e 1 s m args below meth c r M' H locs (F0 m 29 ls []) := by
  intro v1 v2 v3 M H locs ls hw hl hf
  have hx := F.1.1
  have hb := F.1.2.1
  unfold p6_undo_29 at hf
  refine lv_iload_n hx hb dX6_undo_29 rfl (lv_at hl 3 rfl) ?_
  refine lv_bipush (v := 24) hx hb dX6_undo_30 (by decide) ?_
  refine lv_icmp_ge (tgt := 67) hx hb dX6_undo_32 (by decide) (fun c1 => ?_) (fun c1 => ?_)
  · have hf := it_t hf c1
    exact w6_undo_67 F hr hk v1 v2 M _ _ ls hw (lv_sub hl [0, 1, 2] rfl) hf
  · have hf := it_f hf c1
    refine lv_iload_n hx hb dX6_undo_35 rfl (lv_at hl 2 rfl) ?_
    refine lv_if_le (tgt := 67) hx hb dX6_undo_36 (by decide) (fun c2 => ?_) (fun c2 => ?_)
    · have hf := it_t hf c2
      exact w6_undo_67 F hr hk v1 v2 M _ _ ls hw (lv_sub hl [0, 1, 2] rfl) hf
    · have hf := it_f hf c2
      refine lv_aload_n hx hb dX6_undo_39 rfl (lv_at hl 0 rfl) ?_
      refine g6_0 F hw tw_610 dX6_undo_40 ?_
      refine lv_iconst (v := 1) hx hb dX6_undo_43 (by decide) ?_
      refine lv_iload_n hx hb dX6_undo_44 rfl (lv_at hl 3 rfl) ?_
      refine lv_iadd hx hb dX6_undo_45 ?_
      refine lv_aload_n hx hb dX6_undo_46 rfl (lv_at hl 0 rfl) ?_
      refine g6_0 F hw tw_610 dX6_undo_47 ?_
      refine lv_bipush (v := 31) hx hb dX6_undo_50 (by decide) ?_
      refine lv_bipush (v := 24) hx hb dX6_undo_52 (by decide) ?_
      refine lv_iload_n hx hb dX6_undo_54 rfl (lv_at hl 1 rfl) ?_
      refine lv_imul hx hb dX6_undo_55 ?_
      refine lv_iadd hx hb dX6_undo_56 ?_
      refine lv_iload_n hx hb dX6_undo_57 rfl (lv_at hl 3 rfl) ?_
      refine lv_iadd hx hb dX6_undo_58 ?_
      obtain ⟨g3, hf⟩ := gd_some hf
      refine x_iald F hw sM1 g3 dX6_undo_59 ?_
      obtain ⟨g4, hf⟩ := gd_some hf
      refine x_iast F hw sM1 g4 dX6_undo_60 (fun H locs hw => ?_)
      obtain ⟨M5, eM5, hf⟩ := lt_elim hf
      rw [← eM5] at hw
      obtain ⟨x6, ex6, hf⟩ := lt_elim hf
      refine lv_iinc (v := x6) (lv' := [(3, .int x6), (0, .ref (G.2.1 0)), (1, .int v1), (2, .int v2)]) hx hb dX6_undo_61 hl (k := 3) rfl (by rw [ex6]; rfl) (by decide) rfl (fun ls hl => ?_)
      refine lv_goto (tgt := 29) hx hb dX6_undo_64 (by decide) ?_
      exact hk29 v1 v2 x6 M5 _ _ ls hw (lv_sub hl [1, 2, 3, 0] rfl) hf
theorem z6_undo_29 {G : XG} {p : Program} {l : Launch} {e : Env} {s : State} {m : MethodId} {args : Array Value} {below : List Frame} {meth : Method} {c : Code} (F : Fx G ZY p m c cX6_undo 4 s args RX6) (hr : meth.sig.returnType = some .int) (hk : meth.locks = false) {r : Int32} {M' : SX} : ∀ n : Nat, ∀ (v1 : Int32) (v2 : Int32) (v3 : Int32) (M : SX) (H : Heap) (locs : List Loc) (ls : Array Slot), Wld G ZY M s.heap H locs → lv_has ls 4 [(0, .ref (G.2.1 0)), (1, .int v1), (2, .int v2), (3, .int v3)] → xlp3 p6_undo_29 n v1 v2 v3 M = some (r, M') → WXi G ZY p l e 1 s m args below meth c r M' H locs (F0 m 29 ls []) := by
  intro n
  induction n with
  | zero => intro _ _ _ _ _ _ _ _ _ hf; cases hf
  | succ n ih => exact w6_undo_29 F hr hk (xlp3 p6_undo_29 n) ih
def p6_undo (a1 : Int32) (M : SX) : Option (Int32 × SX) :=
  gd (bIn 0 3964) ( bd (p6_in (Int32.toInt64 a1) 0 (Int32.toInt64 (M.1 1 (Int32.toNatClampNeg 0))) M) (fun r4 M3 => if r4 = 0 then (some ((-1), M3))
  else (lt_ ((M3.1 1 (Int32.toNatClampNeg 0)) - a1) (fun x6 => xlp3 p6_undo_29 FU a1 x6 0 M3))))
set_option maxHeartbeats 4000000 in
set_option maxRecDepth 100000 in
theorem c6_undo {l : Launch} {G : XG} {r : Int32} {M' : SX} {M : SX} (a1 : Int32) (hf : p6_undo a1 M = some (r, M')) : Met l yX6_undo (.code yX6_undo cX6_undo 4 (some .int) :: TBL) (rmX 1) (xPc G ZY M [.ref (G.2.1 0), .int a1]) (xQi G ZY r M') 0 0 (inA G ZY) := by
  refine x_met (cc := cX6_undo) (by decide) (Nat.le_of_ble_eq_true rfl) ?_
  intro p e s m below meth c ls F hr hk hl hw
  have F : Fx G ZY p m c cX6_undo 4 s [.ref (G.2.1 0), .int a1].toArray RX6 := F
  have hl : lv_has ls 4 [(0, .ref (G.2.1 0)), (1, .int a1)] := hl
  have hx := F.1.1
  have hb := F.1.2.1
  unfold p6_undo at hf
  refine lv_iload_n hx hb dX6_undo_0 rfl (lv_at hl 1 rfl) ?_
  refine lv_i2l (v := Int32.toInt64 a1) hx hb dX6_undo_1 rfl ?_
  refine lv_lconst (v := 0) hx hb dX6_undo_2 (by decide) ?_
  refine lv_aload_n hx hb dX6_undo_3 rfl (lv_at hl 0 rfl) ?_
  refine g6_0 F hw tw_610 dX6_undo_4 ?_
  refine lv_iconst (v := 0) hx hb dX6_undo_7 (by decide) ?_
  obtain ⟨g1, hf⟩ := gd_some hf
  refine x_iald F hw sM1 g1 dX6_undo_8 ?_
  refine lv_i2l (v := Int32.toInt64 (M.1 1 (Int32.toNatClampNeg 0))) hx hb dX6_undo_9 rfl ?_
  obtain ⟨r4, M3, hc2, hf⟩ := bd_some hf
  refine x_aftI hw (x_runS (rest := []) F hw hl.1 sw_RX6_69 (c6_in (Int32.toInt64 a1) 0 (Int32.toInt64 (M.1 1 (Int32.toNatClampNeg 0))) hc2) rfl rfl (Nat.le_of_ble_eq_true rfl) ⟨Nat.le_of_ble_eq_true rfl, Nat.le_of_ble_eq_true rfl⟩ dX6_undo_10) (fun H locs hw => ?_)
  refine lv_if_ne (tgt := 18) hx hb dX6_undo_13 (by decide) (fun c5 => ?_) (fun c5 => ?_)
  · have hf := it_f hf c5
    refine lv_aload_n hx hb dX6_undo_18 rfl (lv_at hl 0 rfl) ?_
    refine g6_0 F hw tw_610 dX6_undo_19 ?_
    refine lv_iconst (v := 0) hx hb dX6_undo_22 (by decide) ?_
    refine x_iald F hw sM1 g1 dX6_undo_23 ?_
    refine lv_iload_n hx hb dX6_undo_24 rfl (lv_at hl 1 rfl) ?_
    refine lv_isub hx hb dX6_undo_25 ?_
    obtain ⟨x6, ex6, hf⟩ := lt_elim hf
    refine x_let ex6 ?_
    refine lv_istore_n (lv' := [(2, .int x6), (0, .ref (G.2.1 0)), (1, .int a1)]) hx hb dX6_undo_26 rfl hl (by decide) rfl (fun ls hl => ?_)
    refine lv_iconst (v := 0) hx hb dX6_undo_27 (by decide) ?_
    refine lv_istore_n (lv' := [(3, .int 0), (2, .int x6), (0, .ref (G.2.1 0)), (1, .int a1)]) hx hb dX6_undo_28 rfl hl (by decide) rfl (fun ls hl => ?_)
    exact z6_undo_29 F hr hk FU a1 x6 0 M3 _ _ ls hw (lv_sub hl [2, 3, 1, 0] rfl) hf
  · have hf := it_t hf c5
    refine lv_iconst (v := (-1)) hx hb dX6_undo_16 (by decide) ?_
    exact x_iret F hw hr hk hf dX6_undo_17
theorem dX6_keep_0 : decode cX6_keep 0 = .ok (.iload_n 1, 1) := by decide +kernel
theorem dX6_keep_1 : decode cX6_keep 1 = .ok (.i2l, 1) := by decide +kernel
theorem dX6_keep_2 : decode cX6_keep 2 = .ok (.lconst 0, 1) := by decide +kernel
theorem dX6_keep_3 : decode cX6_keep 3 = .ok (.ldc2_w 208, 3) := by decide +kernel
theorem dX6_keep_6 : decode cX6_keep 6 = .ok (.invokestatic 69, 3) := by decide +kernel
theorem dX6_keep_9 : decode cX6_keep 9 = .ok (.ifCond .ne 5, 3) := by decide +kernel
theorem dX6_keep_12 : decode cX6_keep 12 = .ok (.iconst (-1), 1) := by decide +kernel
theorem dX6_keep_13 : decode cX6_keep 13 = .ok (.ireturn, 1) := by decide +kernel
theorem dX6_keep_14 : decode cX6_keep 14 = .ok (.aload_n 0, 1) := by decide +kernel
theorem dX6_keep_15 : decode cX6_keep 15 = .ok (.getfield 140, 3) := by decide +kernel
theorem dX6_keep_18 : decode cX6_keep 18 = .ok (.ifCond .ne 6, 3) := by decide +kernel
theorem dX6_keep_21 : decode cX6_keep 21 = .ok (.bipush (-4), 2) := by decide +kernel
theorem dX6_keep_23 : decode cX6_keep 23 = .ok (.ireturn, 1) := by decide +kernel
theorem dX6_keep_24 : decode cX6_keep 24 = .ok (.aload_n 0, 1) := by decide +kernel
theorem dX6_keep_25 : decode cX6_keep 25 = .ok (.iconst 0, 1) := by decide +kernel
theorem dX6_keep_26 : decode cX6_keep 26 = .ok (.sipush 991, 3) := by decide +kernel
theorem dX6_keep_29 : decode cX6_keep 29 = .ok (.iconst 1, 1) := by decide +kernel
theorem dX6_keep_30 : decode cX6_keep 30 = .ok (.iload_n 1, 1) := by decide +kernel
theorem dX6_keep_31 : decode cX6_keep 31 = .ok (.iadd, 1) := by decide +kernel
theorem dX6_keep_32 : decode cX6_keep 32 = .ok (.imul, 1) := by decide +kernel
theorem dX6_keep_33 : decode cX6_keep 33 = .ok (.invokevirtual 210, 3) := by decide +kernel
theorem dX6_keep_36 : decode cX6_keep 36 = .ok (.aload_n 0, 1) := by decide +kernel
theorem dX6_keep_37 : decode cX6_keep 37 = .ok (.getfield 7, 3) := by decide +kernel
theorem dX6_keep_40 : decode cX6_keep 40 = .ok (.iconst 0, 1) := by decide +kernel
theorem dX6_keep_41 : decode cX6_keep 41 = .ok (.iaload, 1) := by decide +kernel
theorem dX6_keep_42 : decode cX6_keep 42 = .ok (.ireturn, 1) := by decide +kernel
def p6_keep (a1 : Int32) (M : SX) : Option (Int32 × SX) :=
  bd (p6_in (Int32.toInt64 a1) 0 2 M) (fun r3 M2 => if r3 = 0 then (some ((-1), M2))
  else (if (M2.1 0 1) = 0 then (some ((-4), M2))
  else (bv (p6_copyLane 0 (991 * (1 + a1)) M2) (fun M7 => gd (bIn 0 3964) ( some (M7.1 1 (Int32.toNatClampNeg 0), M7))))))
set_option maxHeartbeats 4000000 in
set_option maxRecDepth 100000 in
theorem c6_keep {l : Launch} {G : XG} {r : Int32} {M' : SX} {M : SX} (a1 : Int32) (hf : p6_keep a1 M = some (r, M')) : Met l yX6_keep (.code yX6_keep cX6_keep 2 (some .int) :: TBL) (rmX 1) (xPc G ZY M [.ref (G.2.1 0), .int a1]) (xQi G ZY r M') 0 0 (inA G ZY) := by
  refine x_met (cc := cX6_keep) (by decide) (Nat.le_of_ble_eq_true rfl) ?_
  intro p e s m below meth c ls F hr hk hl hw
  have F : Fx G ZY p m c cX6_keep 2 s [.ref (G.2.1 0), .int a1].toArray RX6 := F
  have hl : lv_has ls 2 [(0, .ref (G.2.1 0)), (1, .int a1)] := hl
  have hx := F.1.1
  have hb := F.1.2.1
  unfold p6_keep at hf
  refine lv_iload_n hx hb dX6_keep_0 rfl (lv_at hl 1 rfl) ?_
  refine lv_i2l (v := Int32.toInt64 a1) hx hb dX6_keep_1 rfl ?_
  refine lv_lconst (v := 0) hx hb dX6_keep_2 (by decide) ?_
  refine lv_ldc2 (v := 2) hx hb F.1.2.2.2.1 (F.1.2.2.2.2 _ tw_639) dX6_keep_3 ?_
  obtain ⟨r3, M2, hc1, hf⟩ := bd_some hf
  refine x_aftI hw (x_runS (rest := []) F hw hl.1 sw_RX6_69 (c6_in (Int32.toInt64 a1) 0 2 hc1) rfl rfl (Nat.le_of_ble_eq_true rfl) ⟨Nat.le_of_ble_eq_true rfl, Nat.le_of_ble_eq_true rfl⟩ dX6_keep_6) (fun H locs hw => ?_)
  refine lv_if_ne (tgt := 14) hx hb dX6_keep_9 (by decide) (fun c4 => ?_) (fun c4 => ?_)
  · have hf := it_f hf c4
    refine lv_aload_n hx hb dX6_keep_14 rfl (lv_at hl 0 rfl) ?_
    refine g6_1 F hw tw_611 dX6_keep_15 ?_
    refine lv_if_ne (tgt := 24) hx hb dX6_keep_18 (by decide) (fun c5 => ?_) (fun c5 => ?_)
    · have hf := it_f hf c5
      refine lv_aload_n hx hb dX6_keep_24 rfl (lv_at hl 0 rfl) ?_
      refine lv_iconst (v := 0) hx hb dX6_keep_25 (by decide) ?_
      refine lv_sipush (v := 991) hx hb dX6_keep_26 (by decide) ?_
      refine lv_iconst (v := 1) hx hb dX6_keep_29 (by decide) ?_
      refine lv_iload_n hx hb dX6_keep_30 rfl (lv_at hl 1 rfl) ?_
      refine lv_iadd hx hb dX6_keep_31 ?_
      refine lv_imul hx hb dX6_keep_32 ?_
      obtain ⟨M7, hc6, hf⟩ := bv_some hf
      refine x_aftV hw (x_runV (rest := []) F hw hl.1 vw_RX6_210 (sM) rfl (c6_copyLane 0 (991 * (1 + a1)) hc6) rfl rfl (Nat.le_of_ble_eq_true rfl) ⟨Nat.le_of_ble_eq_true rfl, Nat.le_of_ble_eq_true rfl⟩ dX6_keep_33) (fun H locs hw => ?_)
      refine lv_aload_n hx hb dX6_keep_36 rfl (lv_at hl 0 rfl) ?_
      refine g6_0 F hw tw_610 dX6_keep_37 ?_
      refine lv_iconst (v := 0) hx hb dX6_keep_40 (by decide) ?_
      obtain ⟨g8, hf⟩ := gd_some hf
      refine x_iald F hw sM1 g8 dX6_keep_41 ?_
      exact x_iret F hw hr hk hf dX6_keep_42
    · have hf := it_t hf c5
      refine lv_bipush (v := (-4)) hx hb dX6_keep_21 (by decide) ?_
      exact x_iret F hw hr hk hf dX6_keep_23
  · have hf := it_t hf c4
    refine lv_iconst (v := (-1)) hx hb dX6_keep_12 (by decide) ?_
    exact x_iret F hw hr hk hf dX6_keep_13
theorem dX6_on_0 : decode cX6_on 0 = .ok (.iload_n 1, 1) := by decide +kernel
theorem dX6_on_1 : decode cX6_on 1 = .ok (.i2l, 1) := by decide +kernel
theorem dX6_on_2 : decode cX6_on 2 = .ok (.lconst 0, 1) := by decide +kernel
theorem dX6_on_3 : decode cX6_on 3 = .ok (.ldc2_w 208, 3) := by decide +kernel
theorem dX6_on_6 : decode cX6_on 6 = .ok (.invokestatic 69, 3) := by decide +kernel
theorem dX6_on_9 : decode cX6_on 9 = .ok (.ifCond .ne 5, 3) := by decide +kernel
theorem dX6_on_12 : decode cX6_on 12 = .ok (.iconst (-1), 1) := by decide +kernel
theorem dX6_on_13 : decode cX6_on 13 = .ok (.ireturn, 1) := by decide +kernel
theorem dX6_on_14 : decode cX6_on 14 = .ok (.aload_n 0, 1) := by decide +kernel
theorem dX6_on_15 : decode cX6_on 15 = .ok (.getfield 7, 3) := by decide +kernel
theorem dX6_on_18 : decode cX6_on 18 = .ok (.sipush 991, 3) := by decide +kernel
theorem dX6_on_21 : decode cX6_on 21 = .ok (.iconst 1, 1) := by decide +kernel
theorem dX6_on_22 : decode cX6_on 22 = .ok (.iload_n 1, 1) := by decide +kernel
theorem dX6_on_23 : decode cX6_on 23 = .ok (.iadd, 1) := by decide +kernel
theorem dX6_on_24 : decode cX6_on 24 = .ok (.imul, 1) := by decide +kernel
theorem dX6_on_25 : decode cX6_on 25 = .ok (.iconst 0, 1) := by decide +kernel
theorem dX6_on_26 : decode cX6_on 26 = .ok (.iadd, 1) := by decide +kernel
theorem dX6_on_27 : decode cX6_on 27 = .ok (.iaload, 1) := by decide +kernel
theorem dX6_on_28 : decode cX6_on 28 = .ok (.ifCond .ge 9, 3) := by decide +kernel
theorem dX6_on_31 : decode cX6_on 31 = .ok (.aload_n 0, 1) := by decide +kernel
theorem dX6_on_32 : decode cX6_on 32 = .ok (.iconst 1, 1) := by decide +kernel
theorem dX6_on_33 : decode cX6_on 33 = .ok (.invokevirtual 79, 3) := by decide +kernel
theorem dX6_on_36 : decode cX6_on 36 = .ok (.ireturn, 1) := by decide +kernel
theorem dX6_on_37 : decode cX6_on 37 = .ok (.aload_n 0, 1) := by decide +kernel
theorem dX6_on_38 : decode cX6_on 38 = .ok (.sipush 991, 3) := by decide +kernel
theorem dX6_on_41 : decode cX6_on 41 = .ok (.iconst 1, 1) := by decide +kernel
theorem dX6_on_42 : decode cX6_on 42 = .ok (.iload_n 1, 1) := by decide +kernel
theorem dX6_on_43 : decode cX6_on 43 = .ok (.iadd, 1) := by decide +kernel
theorem dX6_on_44 : decode cX6_on 44 = .ok (.imul, 1) := by decide +kernel
theorem dX6_on_45 : decode cX6_on 45 = .ok (.iconst 0, 1) := by decide +kernel
theorem dX6_on_46 : decode cX6_on 46 = .ok (.invokevirtual 210, 3) := by decide +kernel
theorem dX6_on_49 : decode cX6_on 49 = .ok (.aload_n 0, 1) := by decide +kernel
theorem dX6_on_50 : decode cX6_on 50 = .ok (.getfield 7, 3) := by decide +kernel
theorem dX6_on_53 : decode cX6_on 53 = .ok (.iconst 0, 1) := by decide +kernel
theorem dX6_on_54 : decode cX6_on 54 = .ok (.iaload, 1) := by decide +kernel
theorem dX6_on_55 : decode cX6_on 55 = .ok (.ireturn, 1) := by decide +kernel
def p6_on (a1 : Int32) (M : SX) : Option (Int32 × SX) :=
  bd (p6_in (Int32.toInt64 a1) 0 2 M) (fun r3 M2 => if r3 = 0 then (some ((-1), M2))
  else (gd (bIn ((991 * (1 + a1)) + 0) 3964) ( if 0 ≤ (M2.1 1 (Int32.toNatClampNeg ((991 * (1 + a1)) + 0))) then (bv (p6_copyLane (991 * (1 + a1)) 0 M2) (fun M8 => gd (bIn 0 3964) ( some (M8.1 1 (Int32.toNatClampNeg 0), M8))))
  else (bd (p6_find 1 M2) (fun r12 M11 => some (r12, M11))))))
set_option maxHeartbeats 4000000 in
set_option maxRecDepth 100000 in
theorem c6_on {l : Launch} {G : XG} {r : Int32} {M' : SX} {M : SX} (a1 : Int32) (hf : p6_on a1 M = some (r, M')) : Met l yX6_on (.code yX6_on cX6_on 2 (some .int) :: TBL) (rmX 1) (xPc G ZY M [.ref (G.2.1 0), .int a1]) (xQi G ZY r M') 0 0 (inA G ZY) := by
  refine x_met (cc := cX6_on) (by decide) (Nat.le_of_ble_eq_true rfl) ?_
  intro p e s m below meth c ls F hr hk hl hw
  have F : Fx G ZY p m c cX6_on 2 s [.ref (G.2.1 0), .int a1].toArray RX6 := F
  have hl : lv_has ls 2 [(0, .ref (G.2.1 0)), (1, .int a1)] := hl
  have hx := F.1.1
  have hb := F.1.2.1
  unfold p6_on at hf
  refine lv_iload_n hx hb dX6_on_0 rfl (lv_at hl 1 rfl) ?_
  refine lv_i2l (v := Int32.toInt64 a1) hx hb dX6_on_1 rfl ?_
  refine lv_lconst (v := 0) hx hb dX6_on_2 (by decide) ?_
  refine lv_ldc2 (v := 2) hx hb F.1.2.2.2.1 (F.1.2.2.2.2 _ tw_639) dX6_on_3 ?_
  obtain ⟨r3, M2, hc1, hf⟩ := bd_some hf
  refine x_aftI hw (x_runS (rest := []) F hw hl.1 sw_RX6_69 (c6_in (Int32.toInt64 a1) 0 2 hc1) rfl rfl (Nat.le_of_ble_eq_true rfl) ⟨Nat.le_of_ble_eq_true rfl, Nat.le_of_ble_eq_true rfl⟩ dX6_on_6) (fun H locs hw => ?_)
  refine lv_if_ne (tgt := 14) hx hb dX6_on_9 (by decide) (fun c4 => ?_) (fun c4 => ?_)
  · have hf := it_f hf c4
    refine lv_aload_n hx hb dX6_on_14 rfl (lv_at hl 0 rfl) ?_
    refine g6_0 F hw tw_610 dX6_on_15 ?_
    refine lv_sipush (v := 991) hx hb dX6_on_18 (by decide) ?_
    refine lv_iconst (v := 1) hx hb dX6_on_21 (by decide) ?_
    refine lv_iload_n hx hb dX6_on_22 rfl (lv_at hl 1 rfl) ?_
    refine lv_iadd hx hb dX6_on_23 ?_
    refine lv_imul hx hb dX6_on_24 ?_
    refine lv_iconst (v := 0) hx hb dX6_on_25 (by decide) ?_
    refine lv_iadd hx hb dX6_on_26 ?_
    obtain ⟨g5, hf⟩ := gd_some hf
    refine x_iald F hw sM1 g5 dX6_on_27 ?_
    refine lv_if_ge (tgt := 37) hx hb dX6_on_28 (by decide) (fun c6 => ?_) (fun c6 => ?_)
    · have hf := it_t hf c6
      refine lv_aload_n hx hb dX6_on_37 rfl (lv_at hl 0 rfl) ?_
      refine lv_sipush (v := 991) hx hb dX6_on_38 (by decide) ?_
      refine lv_iconst (v := 1) hx hb dX6_on_41 (by decide) ?_
      refine lv_iload_n hx hb dX6_on_42 rfl (lv_at hl 1 rfl) ?_
      refine lv_iadd hx hb dX6_on_43 ?_
      refine lv_imul hx hb dX6_on_44 ?_
      refine lv_iconst (v := 0) hx hb dX6_on_45 (by decide) ?_
      obtain ⟨M8, hc7, hf⟩ := bv_some hf
      refine x_aftV hw (x_runV (rest := []) F hw hl.1 vw_RX6_210 (sM) rfl (c6_copyLane (991 * (1 + a1)) 0 hc7) rfl rfl (Nat.le_of_ble_eq_true rfl) ⟨Nat.le_of_ble_eq_true rfl, Nat.le_of_ble_eq_true rfl⟩ dX6_on_46) (fun H locs hw => ?_)
      refine lv_aload_n hx hb dX6_on_49 rfl (lv_at hl 0 rfl) ?_
      refine g6_0 F hw tw_610 dX6_on_50 ?_
      refine lv_iconst (v := 0) hx hb dX6_on_53 (by decide) ?_
      obtain ⟨g9, hf⟩ := gd_some hf
      refine x_iald F hw sM1 g9 dX6_on_54 ?_
      exact x_iret F hw hr hk hf dX6_on_55
    · have hf := it_f hf c6
      refine lv_aload_n hx hb dX6_on_31 rfl (lv_at hl 0 rfl) ?_
      refine lv_iconst (v := 1) hx hb dX6_on_32 (by decide) ?_
      obtain ⟨r12, M11, hc10, hf⟩ := bd_some hf
      refine x_aftI hw (x_runV (rest := []) F hw hl.1 vw_RX6_79 (sM) rfl (c6_find 1 hc10) rfl rfl (Nat.le_of_ble_eq_true rfl) ⟨Nat.le_of_ble_eq_true rfl, Nat.le_of_ble_eq_true rfl⟩ dX6_on_33) (fun H locs hw => ?_)
      exact x_iret F hw hr hk hf dX6_on_36
  · have hf := it_t hf c4
    refine lv_iconst (v := (-1)) hx hb dX6_on_12 (by decide) ?_
    exact x_iret F hw hr hk hf dX6_on_13
theorem dX6_insideOf_0 : decode cX6_insideOf 0 = .ok (.iconst 1, 1) := by decide +kernel
theorem dX6_insideOf_1 : decode cX6_insideOf 1 = .ok (.iload_n 1, 1) := by decide +kernel
theorem dX6_insideOf_2 : decode cX6_insideOf 2 = .ok (.ishl, 1) := by decide +kernel
theorem dX6_insideOf_3 : decode cX6_insideOf 3 = .ok (.istore_n 2, 1) := by decide +kernel
theorem dX6_insideOf_4 : decode cX6_insideOf 4 = .ok (.iconst 0, 1) := by decide +kernel
theorem dX6_insideOf_5 : decode cX6_insideOf 5 = .ok (.istore_n 3, 1) := by decide +kernel
theorem dX6_insideOf_6 : decode cX6_insideOf 6 = .ok (.iload_n 3, 1) := by decide +kernel
theorem dX6_insideOf_7 : decode cX6_insideOf 7 = .ok (.bipush 6, 2) := by decide +kernel
theorem dX6_insideOf_9 : decode cX6_insideOf 9 = .ok (.if_icmp .ge 64, 3) := by decide +kernel
theorem dX6_insideOf_12 : decode cX6_insideOf 12 = .ok (.iconst 0, 1) := by decide +kernel
theorem dX6_insideOf_13 : decode cX6_insideOf 13 = .ok (.istore 4, 2) := by decide +kernel
theorem dX6_insideOf_15 : decode cX6_insideOf 15 = .ok (.iload 4, 2) := by decide +kernel
theorem dX6_insideOf_17 : decode cX6_insideOf 17 = .ok (.aload_n 0, 1) := by decide +kernel
theorem dX6_insideOf_18 : decode cX6_insideOf 18 = .ok (.getfield 140, 3) := by decide +kernel
theorem dX6_insideOf_21 : decode cX6_insideOf 21 = .ok (.if_icmp .ge 46, 3) := by decide +kernel
theorem dX6_insideOf_24 : decode cX6_insideOf 24 = .ok (.iload_n 2, 1) := by decide +kernel
theorem dX6_insideOf_25 : decode cX6_insideOf 25 = .ok (.aload_n 0, 1) := by decide +kernel
theorem dX6_insideOf_26 : decode cX6_insideOf 26 = .ok (.iload 4, 2) := by decide +kernel
theorem dX6_insideOf_28 : decode cX6_insideOf 28 = .ok (.invokevirtual 143, 3) := by decide +kernel
theorem dX6_insideOf_31 : decode cX6_insideOf 31 = .ok (.ifCond .eq 27, 3) := by decide +kernel
theorem dX6_insideOf_34 : decode cX6_insideOf 34 = .ok (.iload_n 2, 1) := by decide +kernel
theorem dX6_insideOf_35 : decode cX6_insideOf 35 = .ok (.aload_n 0, 1) := by decide +kernel
theorem dX6_insideOf_36 : decode cX6_insideOf 36 = .ok (.getfield 7, 3) := by decide +kernel
theorem dX6_insideOf_39 : decode cX6_insideOf 39 = .ok (.bipush 7, 2) := by decide +kernel
theorem dX6_insideOf_41 : decode cX6_insideOf 41 = .ok (.iload 4, 2) := by decide +kernel
theorem dX6_insideOf_43 : decode cX6_insideOf 43 = .ok (.iadd, 1) := by decide +kernel
theorem dX6_insideOf_44 : decode cX6_insideOf 44 = .ok (.iaload, 1) := by decide +kernel
theorem dX6_insideOf_45 : decode cX6_insideOf 45 = .ok (.invokestatic 181, 3) := by decide +kernel
theorem dX6_insideOf_48 : decode cX6_insideOf 48 = .ok (.ifCond .eq 10, 3) := by decide +kernel
theorem dX6_insideOf_51 : decode cX6_insideOf 51 = .ok (.iconst 1, 1) := by decide +kernel
theorem dX6_insideOf_52 : decode cX6_insideOf 52 = .ok (.iload 4, 2) := by decide +kernel
theorem dX6_insideOf_54 : decode cX6_insideOf 54 = .ok (.ishl, 1) := by decide +kernel
theorem dX6_insideOf_55 : decode cX6_insideOf 55 = .ok (.goto 4, 3) := by decide +kernel
theorem dX6_insideOf_58 : decode cX6_insideOf 58 = .ok (.iconst 0, 1) := by decide +kernel
theorem dX6_insideOf_59 : decode cX6_insideOf 59 = .ok (.ior, 1) := by decide +kernel
theorem dX6_insideOf_60 : decode cX6_insideOf 60 = .ok (.istore_n 2, 1) := by decide +kernel
theorem dX6_insideOf_61 : decode cX6_insideOf 61 = .ok (.iinc 4 1, 3) := by decide +kernel
theorem dX6_insideOf_64 : decode cX6_insideOf 64 = .ok (.goto (-49), 3) := by decide +kernel
theorem dX6_insideOf_67 : decode cX6_insideOf 67 = .ok (.iinc 3 1, 3) := by decide +kernel
theorem dX6_insideOf_70 : decode cX6_insideOf 70 = .ok (.goto (-64), 3) := by decide +kernel
theorem dX6_insideOf_73 : decode cX6_insideOf 73 = .ok (.iload_n 2, 1) := by decide +kernel
theorem dX6_insideOf_74 : decode cX6_insideOf 74 = .ok (.ireturn, 1) := by decide +kernel
def p6_insideOf_59 (k6 : Int32 → Int32 → SX → Option (Int32 × SX)) (k15 : Int32 → Int32 → Int32 → SX → Option (Int32 × SX)) (v3 : Int32) (v4 : Int32) (t0 : Int32) (t1 : Int32) (M : SX) : Option (Int32 × SX) :=
  lt_ (t0 ||| t1) (fun x1 => lt_ (v4 + 1) (fun x2 => k15 x1 v3 x2 M))
set_option maxHeartbeats 4000000 in
set_option maxRecDepth 100000 in
theorem w6_insideOf_59 {G : XG} {p : Program} {l : Launch} {e : Env} {s : State} {m : MethodId} {args : Array Value} {below : List Frame} {meth : Method} {c : Code} (F : Fx G ZY p m c cX6_insideOf 5 s args RX6) (hr : meth.sig.returnType = some .int) (hk : meth.locks = false) {r : Int32} {M' : SX} (k6 : Int32 → Int32 → SX → Option (Int32 × SX)) (hk6 : ∀ (v2 : Int32) (v3 : Int32) (M : SX) (H : Heap) (locs : List Loc) (ls : Array Slot), Wld G ZY M s.heap H locs → lv_has ls 5 [(0, .ref (G.2.1 0)), (2, .int v2), (3, .int v3)] → k6 v2 v3 M = some (r, M') → WXi G ZY p l e 1 s m args below meth c r M' H locs (F0 m 6 ls [])) (k15 : Int32 → Int32 → Int32 → SX → Option (Int32 × SX)) (hk15 : ∀ (v2 : Int32) (v3 : Int32) (v4 : Int32) (M : SX) (H : Heap) (locs : List Loc) (ls : Array Slot), Wld G ZY M s.heap H locs → lv_has ls 5 [(0, .ref (G.2.1 0)), (2, .int v2), (3, .int v3), (4, .int v4)] → k15 v2 v3 v4 M = some (r, M') → WXi G ZY p l e 1 s m args below meth c r M' H locs (F0 m 15 ls [])) : ∀ (v3 : Int32) (v4 : Int32) (t0 : Int32) (t1 : Int32) (M : SX) (H : Heap) (locs : List Loc) (ls : Array Slot), Wld G ZY M s.heap H locs → lv_has ls 5 [(0, .ref (G.2.1 0)), (3, .int v3), (4, .int v4)] → p6_insideOf_59 k6 k15 v3 v4 t0 t1 M = some (r, M') → WXi G ZY p l e 1 s m args below meth c r M' H locs (F0 m 59 ls [.int t1, .int t0]) := by
  intro v3 v4 t0 t1 M H locs ls hw hl hf
  have hx := F.1.1
  have hb := F.1.2.1
  unfold p6_insideOf_59 at hf
  refine lv_ior hx hb dX6_insideOf_59 ?_
  obtain ⟨x1, ex1, hf⟩ := lt_elim hf
  refine x_let ex1 ?_
  refine lv_istore_n (lv' := [(2, .int x1), (0, .ref (G.2.1 0)), (3, .int v3), (4, .int v4)]) hx hb dX6_insideOf_60 rfl hl (by decide) rfl (fun ls hl => ?_)
  obtain ⟨x2, ex2, hf⟩ := lt_elim hf
  refine lv_iinc (v := x2) (lv' := [(4, .int x2), (2, .int x1), (0, .ref (G.2.1 0)), (3, .int v3)]) hx hb dX6_insideOf_61 hl (k := 3) rfl (by rw [ex2]; rfl) (by decide) rfl (fun ls hl => ?_)
  refine lv_goto (tgt := 15) hx hb dX6_insideOf_64 (by decide) ?_
  exact hk15 x1 v3 x2 M _ _ ls hw (lv_sub hl [2, 1, 3, 0] rfl) hf
def p6_insideOf_58 (k6 : Int32 → Int32 → SX → Option (Int32 × SX)) (k15 : Int32 → Int32 → Int32 → SX → Option (Int32 × SX)) (v3 : Int32) (v4 : Int32) (t0 : Int32) (M : SX) : Option (Int32 × SX) :=
  p6_insideOf_59 k6 k15 v3 v4 t0 0 M
set_option maxHeartbeats 4000000 in
set_option maxRecDepth 100000 in
theorem w6_insideOf_58 {G : XG} {p : Program} {l : Launch} {e : Env} {s : State} {m : MethodId} {args : Array Value} {below : List Frame} {meth : Method} {c : Code} (F : Fx G ZY p m c cX6_insideOf 5 s args RX6) (hr : meth.sig.returnType = some .int) (hk : meth.locks = false) {r : Int32} {M' : SX} (k6 : Int32 → Int32 → SX → Option (Int32 × SX)) (hk6 : ∀ (v2 : Int32) (v3 : Int32) (M : SX) (H : Heap) (locs : List Loc) (ls : Array Slot), Wld G ZY M s.heap H locs → lv_has ls 5 [(0, .ref (G.2.1 0)), (2, .int v2), (3, .int v3)] → k6 v2 v3 M = some (r, M') → WXi G ZY p l e 1 s m args below meth c r M' H locs (F0 m 6 ls [])) (k15 : Int32 → Int32 → Int32 → SX → Option (Int32 × SX)) (hk15 : ∀ (v2 : Int32) (v3 : Int32) (v4 : Int32) (M : SX) (H : Heap) (locs : List Loc) (ls : Array Slot), Wld G ZY M s.heap H locs → lv_has ls 5 [(0, .ref (G.2.1 0)), (2, .int v2), (3, .int v3), (4, .int v4)] → k15 v2 v3 v4 M = some (r, M') → WXi G ZY p l e 1 s m args below meth c r M' H locs (F0 m 15 ls [])) : ∀ (v3 : Int32) (v4 : Int32) (t0 : Int32) (M : SX) (H : Heap) (locs : List Loc) (ls : Array Slot), Wld G ZY M s.heap H locs → lv_has ls 5 [(0, .ref (G.2.1 0)), (3, .int v3), (4, .int v4)] → p6_insideOf_58 k6 k15 v3 v4 t0 M = some (r, M') → WXi G ZY p l e 1 s m args below meth c r M' H locs (F0 m 58 ls [.int t0]) := by
  intro v3 v4 t0 M H locs ls hw hl hf
  have hx := F.1.1
  have hb := F.1.2.1
  unfold p6_insideOf_58 at hf
  refine lv_iconst (v := 0) hx hb dX6_insideOf_58 (by decide) ?_
  exact w6_insideOf_59 F hr hk k6 hk6 k15 hk15 v3 v4 t0 0 M _ _ ls hw (lv_sub hl [0, 1, 2] rfl) hf
def p6_insideOf_15 (k6 : Int32 → Int32 → SX → Option (Int32 × SX)) (k15 : Int32 → Int32 → Int32 → SX → Option (Int32 × SX)) (v2 : Int32) (v3 : Int32) (v4 : Int32) (M : SX) : Option (Int32 × SX) :=
  if (M.1 0 1) ≤ v4 then (lt_ (v3 + 1) (fun x2 => k6 v2 x2 M))
  else (bd (p6_isPawned v4 M) (fun r5 M4 => if r5 = 0 then (p6_insideOf_58 k6 k15 v3 v4 v2 M4)
  else (gd (bIn (7 + v4) 3964) ( bd (p6_has v2 (M4.1 1 (Int32.toNatClampNeg (7 + v4))) M4) (fun r10 M9 => if r10 = 0 then (p6_insideOf_58 k6 k15 v3 v4 v2 M9)
  else (p6_insideOf_59 k6 k15 v3 v4 v2 ((1 : Int32) <<< (v4 &&& 31)) M9))))))
set_option maxHeartbeats 4000000 in
set_option maxRecDepth 100000 in
theorem w6_insideOf_15 {G : XG} {p : Program} {l : Launch} {e : Env} {s : State} {m : MethodId} {args : Array Value} {below : List Frame} {meth : Method} {c : Code} (F : Fx G ZY p m c cX6_insideOf 5 s args RX6) (hr : meth.sig.returnType = some .int) (hk : meth.locks = false) {r : Int32} {M' : SX} (k6 : Int32 → Int32 → SX → Option (Int32 × SX)) (hk6 : ∀ (v2 : Int32) (v3 : Int32) (M : SX) (H : Heap) (locs : List Loc) (ls : Array Slot), Wld G ZY M s.heap H locs → lv_has ls 5 [(0, .ref (G.2.1 0)), (2, .int v2), (3, .int v3)] → k6 v2 v3 M = some (r, M') → WXi G ZY p l e 1 s m args below meth c r M' H locs (F0 m 6 ls [])) (k15 : Int32 → Int32 → Int32 → SX → Option (Int32 × SX)) (hk15 : ∀ (v2 : Int32) (v3 : Int32) (v4 : Int32) (M : SX) (H : Heap) (locs : List Loc) (ls : Array Slot), Wld G ZY M s.heap H locs → lv_has ls 5 [(0, .ref (G.2.1 0)), (2, .int v2), (3, .int v3), (4, .int v4)] → k15 v2 v3 v4 M = some (r, M') → WXi G ZY p l e 1 s m args below meth c r M' H locs (F0 m 15 ls [])) : ∀ (v2 : Int32) (v3 : Int32) (v4 : Int32) (M : SX) (H : Heap) (locs : List Loc) (ls : Array Slot), Wld G ZY M s.heap H locs → lv_has ls 5 [(0, .ref (G.2.1 0)), (2, .int v2), (3, .int v3), (4, .int v4)] → p6_insideOf_15 k6 k15 v2 v3 v4 M = some (r, M') → WXi G ZY p l e 1 s m args below meth c r M' H locs (F0 m 15 ls []) := by
  intro v2 v3 v4 M H locs ls hw hl hf
  have hx := F.1.1
  have hb := F.1.2.1
  unfold p6_insideOf_15 at hf
  refine lv_iload hx hb dX6_insideOf_15 (lv_at hl 3 rfl) ?_
  refine lv_aload_n hx hb dX6_insideOf_17 rfl (lv_at hl 0 rfl) ?_
  refine g6_1 F hw tw_611 dX6_insideOf_18 ?_
  refine lv_icmp_ge (tgt := 67) hx hb dX6_insideOf_21 (by decide) (fun c1 => ?_) (fun c1 => ?_)
  · have hf := it_t hf c1
    obtain ⟨x2, ex2, hf⟩ := lt_elim hf
    refine lv_iinc (v := x2) (lv' := [(3, .int x2), (0, .ref (G.2.1 0)), (2, .int v2), (4, .int v4)]) hx hb dX6_insideOf_67 hl (k := 2) rfl (by rw [ex2]; rfl) (by decide) rfl (fun ls hl => ?_)
    refine lv_goto (tgt := 6) hx hb dX6_insideOf_70 (by decide) ?_
    exact hk6 v2 x2 M _ _ ls hw (lv_sub hl [1, 2, 0] rfl) hf
  · have hf := it_f hf c1
    refine lv_iload_n hx hb dX6_insideOf_24 rfl (lv_at hl 1 rfl) ?_
    refine lv_aload_n hx hb dX6_insideOf_25 rfl (lv_at hl 0 rfl) ?_
    refine lv_iload hx hb dX6_insideOf_26 (lv_at hl 3 rfl) ?_
    obtain ⟨r5, M4, hc3, hf⟩ := bd_some hf
    refine x_aftI hw (x_runV (rest := [.int v2]) F hw hl.1 vw_RX6_143 (sM) rfl (c6_isPawned v4 hc3) rfl rfl (Nat.le_of_ble_eq_true rfl) ⟨Nat.le_of_ble_eq_true rfl, Nat.le_of_ble_eq_true rfl⟩ dX6_insideOf_28) (fun H locs hw => ?_)
    refine lv_if_eq (tgt := 58) hx hb dX6_insideOf_31 (by decide) (fun c6 => ?_) (fun c6 => ?_)
    · have hf := it_t hf c6
      exact w6_insideOf_58 F hr hk k6 hk6 k15 hk15 v3 v4 v2 M4 _ _ ls hw (lv_sub hl [0, 2, 3] rfl) hf
    · have hf := it_f hf c6
      refine lv_iload_n hx hb dX6_insideOf_34 rfl (lv_at hl 1 rfl) ?_
      refine lv_aload_n hx hb dX6_insideOf_35 rfl (lv_at hl 0 rfl) ?_
      refine g6_0 F hw tw_610 dX6_insideOf_36 ?_
      refine lv_bipush (v := 7) hx hb dX6_insideOf_39 (by decide) ?_
      refine lv_iload hx hb dX6_insideOf_41 (lv_at hl 3 rfl) ?_
      refine lv_iadd hx hb dX6_insideOf_43 ?_
      obtain ⟨g7, hf⟩ := gd_some hf
      refine x_iald F hw sM1 g7 dX6_insideOf_44 ?_
      obtain ⟨r10, M9, hc8, hf⟩ := bd_some hf
      refine x_aftI hw (x_runS (rest := [.int v2]) F hw hl.1 sw_RX6_181 (c6_has v2 (M4.1 1 (Int32.toNatClampNeg (7 + v4))) hc8) rfl rfl (Nat.le_of_ble_eq_true rfl) ⟨Nat.le_of_ble_eq_true rfl, Nat.le_of_ble_eq_true rfl⟩ dX6_insideOf_45) (fun H locs hw => ?_)
      refine lv_if_eq (tgt := 58) hx hb dX6_insideOf_48 (by decide) (fun c11 => ?_) (fun c11 => ?_)
      · have hf := it_t hf c11
        exact w6_insideOf_58 F hr hk k6 hk6 k15 hk15 v3 v4 v2 M9 _ _ ls hw (lv_sub hl [0, 2, 3] rfl) hf
      · have hf := it_f hf c11
        refine lv_iconst (v := 1) hx hb dX6_insideOf_51 (by decide) ?_
        refine lv_iload hx hb dX6_insideOf_52 (lv_at hl 3 rfl) ?_
        refine lv_ishl hx hb dX6_insideOf_54 ?_
        refine lv_goto (tgt := 59) hx hb dX6_insideOf_55 (by decide) ?_
        exact w6_insideOf_59 F hr hk k6 hk6 k15 hk15 v3 v4 v2 ((1 : Int32) <<< (v4 &&& 31)) M9 _ _ ls hw (lv_sub hl [0, 2, 3] rfl) hf
theorem z6_insideOf_15 {G : XG} {p : Program} {l : Launch} {e : Env} {s : State} {m : MethodId} {args : Array Value} {below : List Frame} {meth : Method} {c : Code} (F : Fx G ZY p m c cX6_insideOf 5 s args RX6) (hr : meth.sig.returnType = some .int) (hk : meth.locks = false) {r : Int32} {M' : SX} (k6 : Int32 → Int32 → SX → Option (Int32 × SX)) (hk6 : ∀ (v2 : Int32) (v3 : Int32) (M : SX) (H : Heap) (locs : List Loc) (ls : Array Slot), Wld G ZY M s.heap H locs → lv_has ls 5 [(0, .ref (G.2.1 0)), (2, .int v2), (3, .int v3)] → k6 v2 v3 M = some (r, M') → WXi G ZY p l e 1 s m args below meth c r M' H locs (F0 m 6 ls [])) : ∀ n : Nat, ∀ (v2 : Int32) (v3 : Int32) (v4 : Int32) (M : SX) (H : Heap) (locs : List Loc) (ls : Array Slot), Wld G ZY M s.heap H locs → lv_has ls 5 [(0, .ref (G.2.1 0)), (2, .int v2), (3, .int v3), (4, .int v4)] → xlp3 (p6_insideOf_15 k6) n v2 v3 v4 M = some (r, M') → WXi G ZY p l e 1 s m args below meth c r M' H locs (F0 m 15 ls []) := by
  intro n
  induction n with
  | zero => intro _ _ _ _ _ _ _ _ _ hf; cases hf
  | succ n ih => exact w6_insideOf_15 F hr hk k6 hk6 (xlp3 (p6_insideOf_15 k6) n) ih
def p6_insideOf_6 (k6 : Int32 → Int32 → SX → Option (Int32 × SX)) (v2 : Int32) (v3 : Int32) (M : SX) : Option (Int32 × SX) :=
  if (6 : Int32) ≤ v3 then (some (v2, M))
  else (xlp3 (p6_insideOf_15 k6) FU v2 v3 0 M)
set_option maxHeartbeats 4000000 in
set_option maxRecDepth 100000 in
theorem w6_insideOf_6 {G : XG} {p : Program} {l : Launch} {e : Env} {s : State} {m : MethodId} {args : Array Value} {below : List Frame} {meth : Method} {c : Code} (F : Fx G ZY p m c cX6_insideOf 5 s args RX6) (hr : meth.sig.returnType = some .int) (hk : meth.locks = false) {r : Int32} {M' : SX} (k6 : Int32 → Int32 → SX → Option (Int32 × SX)) (hk6 : ∀ (v2 : Int32) (v3 : Int32) (M : SX) (H : Heap) (locs : List Loc) (ls : Array Slot), Wld G ZY M s.heap H locs → lv_has ls 5 [(0, .ref (G.2.1 0)), (2, .int v2), (3, .int v3)] → k6 v2 v3 M = some (r, M') → WXi G ZY p l e 1 s m args below meth c r M' H locs (F0 m 6 ls [])) : ∀ (v2 : Int32) (v3 : Int32) (M : SX) (H : Heap) (locs : List Loc) (ls : Array Slot), Wld G ZY M s.heap H locs → lv_has ls 5 [(0, .ref (G.2.1 0)), (2, .int v2), (3, .int v3)] → p6_insideOf_6 k6 v2 v3 M = some (r, M') → WXi G ZY p l e 1 s m args below meth c r M' H locs (F0 m 6 ls []) := by
  intro v2 v3 M H locs ls hw hl hf
  have hx := F.1.1
  have hb := F.1.2.1
  unfold p6_insideOf_6 at hf
  refine lv_iload_n hx hb dX6_insideOf_6 rfl (lv_at hl 2 rfl) ?_
  refine lv_bipush (v := 6) hx hb dX6_insideOf_7 (by decide) ?_
  refine lv_icmp_ge (tgt := 73) hx hb dX6_insideOf_9 (by decide) (fun c1 => ?_) (fun c1 => ?_)
  · have hf := it_t hf c1
    refine lv_iload_n hx hb dX6_insideOf_73 rfl (lv_at hl 1 rfl) ?_
    exact x_iret F hw hr hk hf dX6_insideOf_74
  · have hf := it_f hf c1
    refine lv_iconst (v := 0) hx hb dX6_insideOf_12 (by decide) ?_
    refine lv_istore (lv' := [(4, .int 0), (0, .ref (G.2.1 0)), (2, .int v2), (3, .int v3)]) hx hb dX6_insideOf_13 hl (by decide) rfl (fun ls hl => ?_)
    exact z6_insideOf_15 F hr hk k6 hk6 FU v2 v3 0 M _ _ ls hw (lv_sub hl [1, 2, 3, 0] rfl) hf
theorem z6_insideOf_6 {G : XG} {p : Program} {l : Launch} {e : Env} {s : State} {m : MethodId} {args : Array Value} {below : List Frame} {meth : Method} {c : Code} (F : Fx G ZY p m c cX6_insideOf 5 s args RX6) (hr : meth.sig.returnType = some .int) (hk : meth.locks = false) {r : Int32} {M' : SX} : ∀ n : Nat, ∀ (v2 : Int32) (v3 : Int32) (M : SX) (H : Heap) (locs : List Loc) (ls : Array Slot), Wld G ZY M s.heap H locs → lv_has ls 5 [(0, .ref (G.2.1 0)), (2, .int v2), (3, .int v3)] → xlp2 p6_insideOf_6 n v2 v3 M = some (r, M') → WXi G ZY p l e 1 s m args below meth c r M' H locs (F0 m 6 ls []) := by
  intro n
  induction n with
  | zero => intro _ _ _ _ _ _ _ _ hf; cases hf
  | succ n ih => exact w6_insideOf_6 F hr hk (xlp2 p6_insideOf_6 n) ih
def p6_insideOf (a1 : Int32) (M : SX) : Option (Int32 × SX) :=
  lt_ ((1 : Int32) <<< (a1 &&& 31)) (fun x1 => xlp2 p6_insideOf_6 FU x1 0 M)
set_option maxHeartbeats 4000000 in
set_option maxRecDepth 100000 in
theorem c6_insideOf {l : Launch} {G : XG} {r : Int32} {M' : SX} {M : SX} (a1 : Int32) (hf : p6_insideOf a1 M = some (r, M')) : Met l yX6_insideOf (.code yX6_insideOf cX6_insideOf 5 (some .int) :: TBL) (rmX 1) (xPc G ZY M [.ref (G.2.1 0), .int a1]) (xQi G ZY r M') 0 0 (inA G ZY) := by
  refine x_met (cc := cX6_insideOf) (by decide) (Nat.le_of_ble_eq_true rfl) ?_
  intro p e s m below meth c ls F hr hk hl hw
  have F : Fx G ZY p m c cX6_insideOf 5 s [.ref (G.2.1 0), .int a1].toArray RX6 := F
  have hl : lv_has ls 5 [(0, .ref (G.2.1 0)), (1, .int a1)] := hl
  have hx := F.1.1
  have hb := F.1.2.1
  unfold p6_insideOf at hf
  refine lv_iconst (v := 1) hx hb dX6_insideOf_0 (by decide) ?_
  refine lv_iload_n hx hb dX6_insideOf_1 rfl (lv_at hl 1 rfl) ?_
  refine lv_ishl hx hb dX6_insideOf_2 ?_
  obtain ⟨x1, ex1, hf⟩ := lt_elim hf
  refine x_let ex1 ?_
  refine lv_istore_n (lv' := [(2, .int x1), (0, .ref (G.2.1 0)), (1, .int a1)]) hx hb dX6_insideOf_3 rfl hl (by decide) rfl (fun ls hl => ?_)
  refine lv_iconst (v := 0) hx hb dX6_insideOf_4 (by decide) ?_
  refine lv_istore_n (lv' := [(3, .int 0), (2, .int x1), (0, .ref (G.2.1 0)), (1, .int a1)]) hx hb dX6_insideOf_5 rfl hl (by decide) rfl (fun ls hl => ?_)
  exact z6_insideOf_6 F hr hk FU x1 0 M _ _ ls hw (lv_sub hl [2, 1, 0] rfl) hf
theorem dX6_ringOf_0 : decode cX6_ringOf 0 = .ok (.iconst 0, 1) := by decide +kernel
theorem dX6_ringOf_1 : decode cX6_ringOf 1 = .ok (.istore_n 2, 1) := by decide +kernel
theorem dX6_ringOf_2 : decode cX6_ringOf 2 = .ok (.iload_n 1, 1) := by decide +kernel
theorem dX6_ringOf_3 : decode cX6_ringOf 3 = .ok (.istore_n 3, 1) := by decide +kernel
theorem dX6_ringOf_4 : decode cX6_ringOf 4 = .ok (.iload_n 3, 1) := by decide +kernel
theorem dX6_ringOf_5 : decode cX6_ringOf 5 = .ok (.bipush (-9), 2) := by decide +kernel
theorem dX6_ringOf_7 : decode cX6_ringOf 7 = .ok (.if_icmp .eq 30, 3) := by decide +kernel
theorem dX6_ringOf_10 : decode cX6_ringOf 10 = .ok (.iload_n 2, 1) := by decide +kernel
theorem dX6_ringOf_11 : decode cX6_ringOf 11 = .ok (.iload_n 3, 1) := by decide +kernel
theorem dX6_ringOf_12 : decode cX6_ringOf 12 = .ok (.invokestatic 181, 3) := by decide +kernel
theorem dX6_ringOf_15 : decode cX6_ringOf 15 = .ok (.ifCond .ne 22, 3) := by decide +kernel
theorem dX6_ringOf_18 : decode cX6_ringOf 18 = .ok (.iload_n 2, 1) := by decide +kernel
theorem dX6_ringOf_19 : decode cX6_ringOf 19 = .ok (.iconst 1, 1) := by decide +kernel
theorem dX6_ringOf_20 : decode cX6_ringOf 20 = .ok (.iload_n 3, 1) := by decide +kernel
theorem dX6_ringOf_21 : decode cX6_ringOf 21 = .ok (.ishl, 1) := by decide +kernel
theorem dX6_ringOf_22 : decode cX6_ringOf 22 = .ok (.ior, 1) := by decide +kernel
theorem dX6_ringOf_23 : decode cX6_ringOf 23 = .ok (.istore_n 2, 1) := by decide +kernel
theorem dX6_ringOf_24 : decode cX6_ringOf 24 = .ok (.aload_n 0, 1) := by decide +kernel
theorem dX6_ringOf_25 : decode cX6_ringOf 25 = .ok (.getfield 7, 3) := by decide +kernel
theorem dX6_ringOf_28 : decode cX6_ringOf 28 = .ok (.bipush 7, 2) := by decide +kernel
theorem dX6_ringOf_30 : decode cX6_ringOf 30 = .ok (.iload_n 3, 1) := by decide +kernel
theorem dX6_ringOf_31 : decode cX6_ringOf 31 = .ok (.iadd, 1) := by decide +kernel
theorem dX6_ringOf_32 : decode cX6_ringOf 32 = .ok (.iaload, 1) := by decide +kernel
theorem dX6_ringOf_33 : decode cX6_ringOf 33 = .ok (.istore_n 3, 1) := by decide +kernel
theorem dX6_ringOf_34 : decode cX6_ringOf 34 = .ok (.goto (-30), 3) := by decide +kernel
theorem dX6_ringOf_37 : decode cX6_ringOf 37 = .ok (.iload_n 3, 1) := by decide +kernel
theorem dX6_ringOf_38 : decode cX6_ringOf 38 = .ok (.iload_n 1, 1) := by decide +kernel
theorem dX6_ringOf_39 : decode cX6_ringOf 39 = .ok (.if_icmp .ne 7, 3) := by decide +kernel
theorem dX6_ringOf_42 : decode cX6_ringOf 42 = .ok (.iload_n 2, 1) := by decide +kernel
theorem dX6_ringOf_43 : decode cX6_ringOf 43 = .ok (.goto 4, 3) := by decide +kernel
theorem dX6_ringOf_46 : decode cX6_ringOf 46 = .ok (.iconst 0, 1) := by decide +kernel
theorem dX6_ringOf_47 : decode cX6_ringOf 47 = .ok (.ireturn, 1) := by decide +kernel
def p6_ringOf_37 (v1 : Int32) (v2 : Int32) (v3 : Int32) (M : SX) : Option (Int32 × SX) :=
  if v3 = v1 then (some (v2, M))
  else (some (0, M))
set_option maxHeartbeats 4000000 in
set_option maxRecDepth 100000 in
theorem w6_ringOf_37 {G : XG} {p : Program} {l : Launch} {e : Env} {s : State} {m : MethodId} {args : Array Value} {below : List Frame} {meth : Method} {c : Code} (F : Fx G ZY p m c cX6_ringOf 4 s args RX6) (hr : meth.sig.returnType = some .int) (hk : meth.locks = false) {r : Int32} {M' : SX} : ∀ (v1 : Int32) (v2 : Int32) (v3 : Int32) (M : SX) (H : Heap) (locs : List Loc) (ls : Array Slot), Wld G ZY M s.heap H locs → lv_has ls 4 [(1, .int v1), (2, .int v2), (3, .int v3)] → p6_ringOf_37 v1 v2 v3 M = some (r, M') → WXi G ZY p l e 1 s m args below meth c r M' H locs (F0 m 37 ls []) := by
  intro v1 v2 v3 M H locs ls hw hl hf
  have hx := F.1.1
  have hb := F.1.2.1
  unfold p6_ringOf_37 at hf
  refine lv_iload_n hx hb dX6_ringOf_37 rfl (lv_at hl 2 rfl) ?_
  refine lv_iload_n hx hb dX6_ringOf_38 rfl (lv_at hl 0 rfl) ?_
  refine lv_icmp_ne (tgt := 46) hx hb dX6_ringOf_39 (by decide) (fun c1 => ?_) (fun c1 => ?_)
  · have hf := it_f hf c1
    refine lv_iconst (v := 0) hx hb dX6_ringOf_46 (by decide) ?_
    exact x_iret F hw hr hk hf dX6_ringOf_47
  · have hf := it_t hf c1
    refine lv_iload_n hx hb dX6_ringOf_42 rfl (lv_at hl 1 rfl) ?_
    refine lv_goto (tgt := 47) hx hb dX6_ringOf_43 (by decide) ?_
    exact x_iret F hw hr hk hf dX6_ringOf_47
def p6_ringOf_4 (k4 : Int32 → Int32 → Int32 → SX → Option (Int32 × SX)) (v1 : Int32) (v2 : Int32) (v3 : Int32) (M : SX) : Option (Int32 × SX) :=
  if v3 = (-9 : Int32) then (p6_ringOf_37 v1 v2 v3 M)
  else (bd (p6_has v2 v3 M) (fun r4 M3 => if r4 = 0 then (lt_ (v2 ||| ((1 : Int32) <<< (v3 &&& 31))) (fun x6 => gd (bIn (7 + v3) 3964) ( lt_ (M3.1 1 (Int32.toNatClampNeg (7 + v3))) (fun x8 => k4 v1 x6 x8 M3))))
  else (p6_ringOf_37 v1 v2 v3 M3)))
set_option maxHeartbeats 4000000 in
set_option maxRecDepth 100000 in
theorem w6_ringOf_4 {G : XG} {p : Program} {l : Launch} {e : Env} {s : State} {m : MethodId} {args : Array Value} {below : List Frame} {meth : Method} {c : Code} (F : Fx G ZY p m c cX6_ringOf 4 s args RX6) (hr : meth.sig.returnType = some .int) (hk : meth.locks = false) {r : Int32} {M' : SX} (k4 : Int32 → Int32 → Int32 → SX → Option (Int32 × SX)) (hk4 : ∀ (v1 : Int32) (v2 : Int32) (v3 : Int32) (M : SX) (H : Heap) (locs : List Loc) (ls : Array Slot), Wld G ZY M s.heap H locs → lv_has ls 4 [(0, .ref (G.2.1 0)), (1, .int v1), (2, .int v2), (3, .int v3)] → k4 v1 v2 v3 M = some (r, M') → WXi G ZY p l e 1 s m args below meth c r M' H locs (F0 m 4 ls [])) : ∀ (v1 : Int32) (v2 : Int32) (v3 : Int32) (M : SX) (H : Heap) (locs : List Loc) (ls : Array Slot), Wld G ZY M s.heap H locs → lv_has ls 4 [(0, .ref (G.2.1 0)), (1, .int v1), (2, .int v2), (3, .int v3)] → p6_ringOf_4 k4 v1 v2 v3 M = some (r, M') → WXi G ZY p l e 1 s m args below meth c r M' H locs (F0 m 4 ls []) := by
  intro v1 v2 v3 M H locs ls hw hl hf
  have hx := F.1.1
  have hb := F.1.2.1
  unfold p6_ringOf_4 at hf
  refine lv_iload_n hx hb dX6_ringOf_4 rfl (lv_at hl 3 rfl) ?_
  refine lv_bipush (v := (-9)) hx hb dX6_ringOf_5 (by decide) ?_
  refine lv_icmp_eq (tgt := 37) hx hb dX6_ringOf_7 (by decide) (fun c1 => ?_) (fun c1 => ?_)
  · have hf := it_t hf c1
    exact w6_ringOf_37 F hr hk v1 v2 v3 M _ _ ls hw (lv_sub hl [1, 2, 3] rfl) hf
  · have hf := it_f hf c1
    refine lv_iload_n hx hb dX6_ringOf_10 rfl (lv_at hl 2 rfl) ?_
    refine lv_iload_n hx hb dX6_ringOf_11 rfl (lv_at hl 3 rfl) ?_
    obtain ⟨r4, M3, hc2, hf⟩ := bd_some hf
    refine x_aftI hw (x_runS (rest := []) F hw hl.1 sw_RX6_181 (c6_has v2 v3 hc2) rfl rfl (Nat.le_of_ble_eq_true rfl) ⟨Nat.le_of_ble_eq_true rfl, Nat.le_of_ble_eq_true rfl⟩ dX6_ringOf_12) (fun H locs hw => ?_)
    refine lv_if_ne (tgt := 37) hx hb dX6_ringOf_15 (by decide) (fun c5 => ?_) (fun c5 => ?_)
    · have hf := it_f hf c5
      exact w6_ringOf_37 F hr hk v1 v2 v3 M3 _ _ ls hw (lv_sub hl [1, 2, 3] rfl) hf
    · have hf := it_t hf c5
      refine lv_iload_n hx hb dX6_ringOf_18 rfl (lv_at hl 2 rfl) ?_
      refine lv_iconst (v := 1) hx hb dX6_ringOf_19 (by decide) ?_
      refine lv_iload_n hx hb dX6_ringOf_20 rfl (lv_at hl 3 rfl) ?_
      refine lv_ishl hx hb dX6_ringOf_21 ?_
      refine lv_ior hx hb dX6_ringOf_22 ?_
      obtain ⟨x6, ex6, hf⟩ := lt_elim hf
      refine x_let ex6 ?_
      refine lv_istore_n (lv' := [(2, .int x6), (0, .ref (G.2.1 0)), (1, .int v1), (3, .int v3)]) hx hb dX6_ringOf_23 rfl hl (by decide) rfl (fun ls hl => ?_)
      refine lv_aload_n hx hb dX6_ringOf_24 rfl (lv_at hl 1 rfl) ?_
      refine g6_0 F hw tw_610 dX6_ringOf_25 ?_
      refine lv_bipush (v := 7) hx hb dX6_ringOf_28 (by decide) ?_
      refine lv_iload_n hx hb dX6_ringOf_30 rfl (lv_at hl 3 rfl) ?_
      refine lv_iadd hx hb dX6_ringOf_31 ?_
      obtain ⟨g7, hf⟩ := gd_some hf
      refine x_iald F hw sM1 g7 dX6_ringOf_32 ?_
      obtain ⟨x8, ex8, hf⟩ := lt_elim hf
      refine x_let ex8 ?_
      refine lv_istore_n (lv' := [(3, .int x8), (2, .int x6), (0, .ref (G.2.1 0)), (1, .int v1)]) hx hb dX6_ringOf_33 rfl hl (by decide) rfl (fun ls hl => ?_)
      refine lv_goto (tgt := 4) hx hb dX6_ringOf_34 (by decide) ?_
      exact hk4 v1 x6 x8 M3 _ _ ls hw (lv_sub hl [2, 3, 1, 0] rfl) hf
theorem z6_ringOf_4 {G : XG} {p : Program} {l : Launch} {e : Env} {s : State} {m : MethodId} {args : Array Value} {below : List Frame} {meth : Method} {c : Code} (F : Fx G ZY p m c cX6_ringOf 4 s args RX6) (hr : meth.sig.returnType = some .int) (hk : meth.locks = false) {r : Int32} {M' : SX} : ∀ n : Nat, ∀ (v1 : Int32) (v2 : Int32) (v3 : Int32) (M : SX) (H : Heap) (locs : List Loc) (ls : Array Slot), Wld G ZY M s.heap H locs → lv_has ls 4 [(0, .ref (G.2.1 0)), (1, .int v1), (2, .int v2), (3, .int v3)] → xlp3 p6_ringOf_4 n v1 v2 v3 M = some (r, M') → WXi G ZY p l e 1 s m args below meth c r M' H locs (F0 m 4 ls []) := by
  intro n
  induction n with
  | zero => intro _ _ _ _ _ _ _ _ _ hf; cases hf
  | succ n ih => exact w6_ringOf_4 F hr hk (xlp3 p6_ringOf_4 n) ih
def p6_ringOf (a1 : Int32) (M : SX) : Option (Int32 × SX) :=
  xlp3 p6_ringOf_4 FU a1 0 a1 M
set_option maxHeartbeats 4000000 in
set_option maxRecDepth 100000 in
theorem c6_ringOf {l : Launch} {G : XG} {r : Int32} {M' : SX} {M : SX} (a1 : Int32) (hf : p6_ringOf a1 M = some (r, M')) : Met l yX6_ringOf (.code yX6_ringOf cX6_ringOf 4 (some .int) :: TBL) (rmX 1) (xPc G ZY M [.ref (G.2.1 0), .int a1]) (xQi G ZY r M') 0 0 (inA G ZY) := by
  refine x_met (cc := cX6_ringOf) (by decide) (Nat.le_of_ble_eq_true rfl) ?_
  intro p e s m below meth c ls F hr hk hl hw
  have F : Fx G ZY p m c cX6_ringOf 4 s [.ref (G.2.1 0), .int a1].toArray RX6 := F
  have hl : lv_has ls 4 [(0, .ref (G.2.1 0)), (1, .int a1)] := hl
  have hx := F.1.1
  have hb := F.1.2.1
  unfold p6_ringOf at hf
  refine lv_iconst (v := 0) hx hb dX6_ringOf_0 (by decide) ?_
  refine lv_istore_n (lv' := [(2, .int 0), (0, .ref (G.2.1 0)), (1, .int a1)]) hx hb dX6_ringOf_1 rfl hl (by decide) rfl (fun ls hl => ?_)
  refine lv_iload_n hx hb dX6_ringOf_2 rfl (lv_at hl 2 rfl) ?_
  refine lv_istore_n (lv' := [(3, .int a1), (2, .int 0), (0, .ref (G.2.1 0)), (1, .int a1)]) hx hb dX6_ringOf_3 rfl hl (by decide) rfl (fun ls hl => ?_)
  exact z6_ringOf_4 F hr hk FU a1 0 a1 M _ _ ls hw (lv_sub hl [2, 3, 1, 0] rfl) hf
theorem dX6_cashBy_0 : decode cX6_cashBy 0 = .ok (.aload_n 0, 1) := by decide +kernel
theorem dX6_cashBy_1 : decode cX6_cashBy 1 = .ok (.getfield 47, 3) := by decide +kernel
theorem dX6_cashBy_4 : decode cX6_cashBy 4 = .ok (.iload_n 1, 1) := by decide +kernel
theorem dX6_cashBy_5 : decode cX6_cashBy 5 = .ok (.iaload, 1) := by decide +kernel
theorem dX6_cashBy_6 : decode cX6_cashBy 6 = .ok (.iload_n 2, 1) := by decide +kernel
theorem dX6_cashBy_7 : decode cX6_cashBy 7 = .ok (.iload_n 1, 1) := by decide +kernel
theorem dX6_cashBy_8 : decode cX6_cashBy 8 = .ok (.invokestatic 181, 3) := by decide +kernel
theorem dX6_cashBy_11 : decode cX6_cashBy 11 = .ok (.ifCond .eq 12, 3) := by decide +kernel
theorem dX6_cashBy_14 : decode cX6_cashBy 14 = .ok (.aload_n 0, 1) := by decide +kernel
theorem dX6_cashBy_15 : decode cX6_cashBy 15 = .ok (.getfield 44, 3) := by decide +kernel
theorem dX6_cashBy_18 : decode cX6_cashBy 18 = .ok (.iload_n 1, 1) := by decide +kernel
theorem dX6_cashBy_19 : decode cX6_cashBy 19 = .ok (.iaload, 1) := by decide +kernel
theorem dX6_cashBy_20 : decode cX6_cashBy 20 = .ok (.goto 4, 3) := by decide +kernel
theorem dX6_cashBy_23 : decode cX6_cashBy 23 = .ok (.iconst 0, 1) := by decide +kernel
theorem dX6_cashBy_24 : decode cX6_cashBy 24 = .ok (.isub, 1) := by decide +kernel
theorem dX6_cashBy_25 : decode cX6_cashBy 25 = .ok (.istore_n 3, 1) := by decide +kernel
theorem dX6_cashBy_26 : decode cX6_cashBy 26 = .ok (.iconst 0, 1) := by decide +kernel
theorem dX6_cashBy_27 : decode cX6_cashBy 27 = .ok (.istore 4, 2) := by decide +kernel
theorem dX6_cashBy_29 : decode cX6_cashBy 29 = .ok (.iload 4, 2) := by decide +kernel
theorem dX6_cashBy_31 : decode cX6_cashBy 31 = .ok (.aload_n 0, 1) := by decide +kernel
theorem dX6_cashBy_32 : decode cX6_cashBy 32 = .ok (.getfield 140, 3) := by decide +kernel
theorem dX6_cashBy_35 : decode cX6_cashBy 35 = .ok (.if_icmp .ge 46, 3) := by decide +kernel
theorem dX6_cashBy_38 : decode cX6_cashBy 38 = .ok (.iload_n 3, 1) := by decide +kernel
theorem dX6_cashBy_39 : decode cX6_cashBy 39 = .ok (.iload_n 2, 1) := by decide +kernel
theorem dX6_cashBy_40 : decode cX6_cashBy 40 = .ok (.iload 4, 2) := by decide +kernel
theorem dX6_cashBy_42 : decode cX6_cashBy 42 = .ok (.invokestatic 181, 3) := by decide +kernel
theorem dX6_cashBy_45 : decode cX6_cashBy 45 = .ok (.ifCond .eq 27, 3) := by decide +kernel
theorem dX6_cashBy_48 : decode cX6_cashBy 48 = .ok (.aload_n 0, 1) := by decide +kernel
theorem dX6_cashBy_49 : decode cX6_cashBy 49 = .ok (.getfield 7, 3) := by decide +kernel
theorem dX6_cashBy_52 : decode cX6_cashBy 52 = .ok (.bipush 7, 2) := by decide +kernel
theorem dX6_cashBy_54 : decode cX6_cashBy 54 = .ok (.iload 4, 2) := by decide +kernel
theorem dX6_cashBy_56 : decode cX6_cashBy 56 = .ok (.iadd, 1) := by decide +kernel
theorem dX6_cashBy_57 : decode cX6_cashBy 57 = .ok (.iaload, 1) := by decide +kernel
theorem dX6_cashBy_58 : decode cX6_cashBy 58 = .ok (.iload_n 1, 1) := by decide +kernel
theorem dX6_cashBy_59 : decode cX6_cashBy 59 = .ok (.if_icmp .ne 13, 3) := by decide +kernel
theorem dX6_cashBy_62 : decode cX6_cashBy 62 = .ok (.aload_n 0, 1) := by decide +kernel
theorem dX6_cashBy_63 : decode cX6_cashBy 63 = .ok (.getfield 44, 3) := by decide +kernel
theorem dX6_cashBy_66 : decode cX6_cashBy 66 = .ok (.iload 4, 2) := by decide +kernel
theorem dX6_cashBy_68 : decode cX6_cashBy 68 = .ok (.iaload, 1) := by decide +kernel
theorem dX6_cashBy_69 : decode cX6_cashBy 69 = .ok (.goto 4, 3) := by decide +kernel
theorem dX6_cashBy_72 : decode cX6_cashBy 72 = .ok (.iconst 0, 1) := by decide +kernel
theorem dX6_cashBy_73 : decode cX6_cashBy 73 = .ok (.iadd, 1) := by decide +kernel
theorem dX6_cashBy_74 : decode cX6_cashBy 74 = .ok (.istore_n 3, 1) := by decide +kernel
theorem dX6_cashBy_75 : decode cX6_cashBy 75 = .ok (.iinc 4 1, 3) := by decide +kernel
theorem dX6_cashBy_78 : decode cX6_cashBy 78 = .ok (.goto (-49), 3) := by decide +kernel
theorem dX6_cashBy_81 : decode cX6_cashBy 81 = .ok (.iload_n 3, 1) := by decide +kernel
theorem dX6_cashBy_82 : decode cX6_cashBy 82 = .ok (.ireturn, 1) := by decide +kernel
def p6_cashBy_73 (k29 : Int32 → Int32 → Int32 → Int32 → SX → Option (Int32 × SX)) (v1 : Int32) (v2 : Int32) (v4 : Int32) (t0 : Int32) (t1 : Int32) (M : SX) : Option (Int32 × SX) :=
  lt_ (t0 + t1) (fun x1 => lt_ (v4 + 1) (fun x2 => k29 v1 v2 x1 x2 M))
set_option maxHeartbeats 4000000 in
set_option maxRecDepth 100000 in
theorem w6_cashBy_73 {G : XG} {p : Program} {l : Launch} {e : Env} {s : State} {m : MethodId} {args : Array Value} {below : List Frame} {meth : Method} {c : Code} (F : Fx G ZY p m c cX6_cashBy 5 s args RX6) (hr : meth.sig.returnType = some .int) (hk : meth.locks = false) {r : Int32} {M' : SX} (k29 : Int32 → Int32 → Int32 → Int32 → SX → Option (Int32 × SX)) (hk29 : ∀ (v1 : Int32) (v2 : Int32) (v3 : Int32) (v4 : Int32) (M : SX) (H : Heap) (locs : List Loc) (ls : Array Slot), Wld G ZY M s.heap H locs → lv_has ls 5 [(0, .ref (G.2.1 0)), (1, .int v1), (2, .int v2), (3, .int v3), (4, .int v4)] → k29 v1 v2 v3 v4 M = some (r, M') → WXi G ZY p l e 1 s m args below meth c r M' H locs (F0 m 29 ls [])) : ∀ (v1 : Int32) (v2 : Int32) (v4 : Int32) (t0 : Int32) (t1 : Int32) (M : SX) (H : Heap) (locs : List Loc) (ls : Array Slot), Wld G ZY M s.heap H locs → lv_has ls 5 [(0, .ref (G.2.1 0)), (1, .int v1), (2, .int v2), (4, .int v4)] → p6_cashBy_73 k29 v1 v2 v4 t0 t1 M = some (r, M') → WXi G ZY p l e 1 s m args below meth c r M' H locs (F0 m 73 ls [.int t1, .int t0]) := by
  intro v1 v2 v4 t0 t1 M H locs ls hw hl hf
  have hx := F.1.1
  have hb := F.1.2.1
  unfold p6_cashBy_73 at hf
  refine lv_iadd hx hb dX6_cashBy_73 ?_
  obtain ⟨x1, ex1, hf⟩ := lt_elim hf
  refine x_let ex1 ?_
  refine lv_istore_n (lv' := [(3, .int x1), (0, .ref (G.2.1 0)), (1, .int v1), (2, .int v2), (4, .int v4)]) hx hb dX6_cashBy_74 rfl hl (by decide) rfl (fun ls hl => ?_)
  obtain ⟨x2, ex2, hf⟩ := lt_elim hf
  refine lv_iinc (v := x2) (lv' := [(4, .int x2), (3, .int x1), (0, .ref (G.2.1 0)), (1, .int v1), (2, .int v2)]) hx hb dX6_cashBy_75 hl (k := 4) rfl (by rw [ex2]; rfl) (by decide) rfl (fun ls hl => ?_)
  refine lv_goto (tgt := 29) hx hb dX6_cashBy_78 (by decide) ?_
  exact hk29 v1 v2 x1 x2 M _ _ ls hw (lv_sub hl [2, 3, 4, 1, 0] rfl) hf
def p6_cashBy_72 (k29 : Int32 → Int32 → Int32 → Int32 → SX → Option (Int32 × SX)) (v1 : Int32) (v2 : Int32) (v4 : Int32) (t0 : Int32) (M : SX) : Option (Int32 × SX) :=
  p6_cashBy_73 k29 v1 v2 v4 t0 0 M
set_option maxHeartbeats 4000000 in
set_option maxRecDepth 100000 in
theorem w6_cashBy_72 {G : XG} {p : Program} {l : Launch} {e : Env} {s : State} {m : MethodId} {args : Array Value} {below : List Frame} {meth : Method} {c : Code} (F : Fx G ZY p m c cX6_cashBy 5 s args RX6) (hr : meth.sig.returnType = some .int) (hk : meth.locks = false) {r : Int32} {M' : SX} (k29 : Int32 → Int32 → Int32 → Int32 → SX → Option (Int32 × SX)) (hk29 : ∀ (v1 : Int32) (v2 : Int32) (v3 : Int32) (v4 : Int32) (M : SX) (H : Heap) (locs : List Loc) (ls : Array Slot), Wld G ZY M s.heap H locs → lv_has ls 5 [(0, .ref (G.2.1 0)), (1, .int v1), (2, .int v2), (3, .int v3), (4, .int v4)] → k29 v1 v2 v3 v4 M = some (r, M') → WXi G ZY p l e 1 s m args below meth c r M' H locs (F0 m 29 ls [])) : ∀ (v1 : Int32) (v2 : Int32) (v4 : Int32) (t0 : Int32) (M : SX) (H : Heap) (locs : List Loc) (ls : Array Slot), Wld G ZY M s.heap H locs → lv_has ls 5 [(0, .ref (G.2.1 0)), (1, .int v1), (2, .int v2), (4, .int v4)] → p6_cashBy_72 k29 v1 v2 v4 t0 M = some (r, M') → WXi G ZY p l e 1 s m args below meth c r M' H locs (F0 m 72 ls [.int t0]) := by
  intro v1 v2 v4 t0 M H locs ls hw hl hf
  have hx := F.1.1
  have hb := F.1.2.1
  unfold p6_cashBy_72 at hf
  refine lv_iconst (v := 0) hx hb dX6_cashBy_72 (by decide) ?_
  exact w6_cashBy_73 F hr hk k29 hk29 v1 v2 v4 t0 0 M _ _ ls hw (lv_sub hl [0, 1, 2, 3] rfl) hf
def p6_cashBy_29 (k29 : Int32 → Int32 → Int32 → Int32 → SX → Option (Int32 × SX)) (v1 : Int32) (v2 : Int32) (v3 : Int32) (v4 : Int32) (M : SX) : Option (Int32 × SX) :=
  if (M.1 0 1) ≤ v4 then (some (v3, M))
  else (bd (p6_has v2 v4 M) (fun r4 M3 => if r4 = 0 then (p6_cashBy_72 k29 v1 v2 v4 v3 M3)
  else (gd (bIn (7 + v4) 3964) ( if (M3.1 1 (Int32.toNatClampNeg (7 + v4))) = v1 then (gd (bIn v4 6) ( p6_cashBy_73 k29 v1 v2 v4 v3 (M3.1 11 (Int32.toNatClampNeg v4)) M3))
  else (p6_cashBy_72 k29 v1 v2 v4 v3 M3)))))
set_option maxHeartbeats 4000000 in
set_option maxRecDepth 100000 in
theorem w6_cashBy_29 {G : XG} {p : Program} {l : Launch} {e : Env} {s : State} {m : MethodId} {args : Array Value} {below : List Frame} {meth : Method} {c : Code} (F : Fx G ZY p m c cX6_cashBy 5 s args RX6) (hr : meth.sig.returnType = some .int) (hk : meth.locks = false) {r : Int32} {M' : SX} (k29 : Int32 → Int32 → Int32 → Int32 → SX → Option (Int32 × SX)) (hk29 : ∀ (v1 : Int32) (v2 : Int32) (v3 : Int32) (v4 : Int32) (M : SX) (H : Heap) (locs : List Loc) (ls : Array Slot), Wld G ZY M s.heap H locs → lv_has ls 5 [(0, .ref (G.2.1 0)), (1, .int v1), (2, .int v2), (3, .int v3), (4, .int v4)] → k29 v1 v2 v3 v4 M = some (r, M') → WXi G ZY p l e 1 s m args below meth c r M' H locs (F0 m 29 ls [])) : ∀ (v1 : Int32) (v2 : Int32) (v3 : Int32) (v4 : Int32) (M : SX) (H : Heap) (locs : List Loc) (ls : Array Slot), Wld G ZY M s.heap H locs → lv_has ls 5 [(0, .ref (G.2.1 0)), (1, .int v1), (2, .int v2), (3, .int v3), (4, .int v4)] → p6_cashBy_29 k29 v1 v2 v3 v4 M = some (r, M') → WXi G ZY p l e 1 s m args below meth c r M' H locs (F0 m 29 ls []) := by
  intro v1 v2 v3 v4 M H locs ls hw hl hf
  have hx := F.1.1
  have hb := F.1.2.1
  unfold p6_cashBy_29 at hf
  refine lv_iload hx hb dX6_cashBy_29 (lv_at hl 4 rfl) ?_
  refine lv_aload_n hx hb dX6_cashBy_31 rfl (lv_at hl 0 rfl) ?_
  refine g6_1 F hw tw_611 dX6_cashBy_32 ?_
  refine lv_icmp_ge (tgt := 81) hx hb dX6_cashBy_35 (by decide) (fun c1 => ?_) (fun c1 => ?_)
  · have hf := it_t hf c1
    refine lv_iload_n hx hb dX6_cashBy_81 rfl (lv_at hl 3 rfl) ?_
    exact x_iret F hw hr hk hf dX6_cashBy_82
  · have hf := it_f hf c1
    refine lv_iload_n hx hb dX6_cashBy_38 rfl (lv_at hl 3 rfl) ?_
    refine lv_iload_n hx hb dX6_cashBy_39 rfl (lv_at hl 2 rfl) ?_
    refine lv_iload hx hb dX6_cashBy_40 (lv_at hl 4 rfl) ?_
    obtain ⟨r4, M3, hc2, hf⟩ := bd_some hf
    refine x_aftI hw (x_runS (rest := [.int v3]) F hw hl.1 sw_RX6_181 (c6_has v2 v4 hc2) rfl rfl (Nat.le_of_ble_eq_true rfl) ⟨Nat.le_of_ble_eq_true rfl, Nat.le_of_ble_eq_true rfl⟩ dX6_cashBy_42) (fun H locs hw => ?_)
    refine lv_if_eq (tgt := 72) hx hb dX6_cashBy_45 (by decide) (fun c5 => ?_) (fun c5 => ?_)
    · have hf := it_t hf c5
      exact w6_cashBy_72 F hr hk k29 hk29 v1 v2 v4 v3 M3 _ _ ls hw (lv_sub hl [0, 1, 2, 4] rfl) hf
    · have hf := it_f hf c5
      refine lv_aload_n hx hb dX6_cashBy_48 rfl (lv_at hl 0 rfl) ?_
      refine g6_0 F hw tw_610 dX6_cashBy_49 ?_
      refine lv_bipush (v := 7) hx hb dX6_cashBy_52 (by decide) ?_
      refine lv_iload hx hb dX6_cashBy_54 (lv_at hl 4 rfl) ?_
      refine lv_iadd hx hb dX6_cashBy_56 ?_
      obtain ⟨g6, hf⟩ := gd_some hf
      refine x_iald F hw sM1 g6 dX6_cashBy_57 ?_
      refine lv_iload_n hx hb dX6_cashBy_58 rfl (lv_at hl 1 rfl) ?_
      refine lv_icmp_ne (tgt := 72) hx hb dX6_cashBy_59 (by decide) (fun c7 => ?_) (fun c7 => ?_)
      · have hf := it_f hf c7
        exact w6_cashBy_72 F hr hk k29 hk29 v1 v2 v4 v3 M3 _ _ ls hw (lv_sub hl [0, 1, 2, 4] rfl) hf
      · have hf := it_t hf c7
        refine lv_aload_n hx hb dX6_cashBy_62 rfl (lv_at hl 0 rfl) ?_
        refine g6_20 F hw tw_654 dX6_cashBy_63 ?_
        refine lv_iload hx hb dX6_cashBy_66 (lv_at hl 4 rfl) ?_
        obtain ⟨g8, hf⟩ := gd_some hf
        refine x_iald F hw sM11 g8 dX6_cashBy_68 ?_
        refine lv_goto (tgt := 73) hx hb dX6_cashBy_69 (by decide) ?_
        exact w6_cashBy_73 F hr hk k29 hk29 v1 v2 v4 v3 (M3.1 11 (Int32.toNatClampNeg v4)) M3 _ _ ls hw (lv_sub hl [0, 1, 2, 4] rfl) hf
theorem z6_cashBy_29 {G : XG} {p : Program} {l : Launch} {e : Env} {s : State} {m : MethodId} {args : Array Value} {below : List Frame} {meth : Method} {c : Code} (F : Fx G ZY p m c cX6_cashBy 5 s args RX6) (hr : meth.sig.returnType = some .int) (hk : meth.locks = false) {r : Int32} {M' : SX} : ∀ n : Nat, ∀ (v1 : Int32) (v2 : Int32) (v3 : Int32) (v4 : Int32) (M : SX) (H : Heap) (locs : List Loc) (ls : Array Slot), Wld G ZY M s.heap H locs → lv_has ls 5 [(0, .ref (G.2.1 0)), (1, .int v1), (2, .int v2), (3, .int v3), (4, .int v4)] → xlp4 p6_cashBy_29 n v1 v2 v3 v4 M = some (r, M') → WXi G ZY p l e 1 s m args below meth c r M' H locs (F0 m 29 ls []) := by
  intro n
  induction n with
  | zero => intro _ _ _ _ _ _ _ _ _ _ hf; cases hf
  | succ n ih => exact w6_cashBy_29 F hr hk (xlp4 p6_cashBy_29 n) ih
def p6_cashBy_24 (v1 : Int32) (v2 : Int32) (t0 : Int32) (t1 : Int32) (M : SX) : Option (Int32 × SX) :=
  lt_ (t0 - t1) (fun x1 => xlp4 p6_cashBy_29 FU v1 v2 x1 0 M)
set_option maxHeartbeats 4000000 in
set_option maxRecDepth 100000 in
theorem w6_cashBy_24 {G : XG} {p : Program} {l : Launch} {e : Env} {s : State} {m : MethodId} {args : Array Value} {below : List Frame} {meth : Method} {c : Code} (F : Fx G ZY p m c cX6_cashBy 5 s args RX6) (hr : meth.sig.returnType = some .int) (hk : meth.locks = false) {r : Int32} {M' : SX} : ∀ (v1 : Int32) (v2 : Int32) (t0 : Int32) (t1 : Int32) (M : SX) (H : Heap) (locs : List Loc) (ls : Array Slot), Wld G ZY M s.heap H locs → lv_has ls 5 [(0, .ref (G.2.1 0)), (1, .int v1), (2, .int v2)] → p6_cashBy_24 v1 v2 t0 t1 M = some (r, M') → WXi G ZY p l e 1 s m args below meth c r M' H locs (F0 m 24 ls [.int t1, .int t0]) := by
  intro v1 v2 t0 t1 M H locs ls hw hl hf
  have hx := F.1.1
  have hb := F.1.2.1
  unfold p6_cashBy_24 at hf
  refine lv_isub hx hb dX6_cashBy_24 ?_
  obtain ⟨x1, ex1, hf⟩ := lt_elim hf
  refine x_let ex1 ?_
  refine lv_istore_n (lv' := [(3, .int x1), (0, .ref (G.2.1 0)), (1, .int v1), (2, .int v2)]) hx hb dX6_cashBy_25 rfl hl (by decide) rfl (fun ls hl => ?_)
  refine lv_iconst (v := 0) hx hb dX6_cashBy_26 (by decide) ?_
  refine lv_istore (lv' := [(4, .int 0), (3, .int x1), (0, .ref (G.2.1 0)), (1, .int v1), (2, .int v2)]) hx hb dX6_cashBy_27 hl (by decide) rfl (fun ls hl => ?_)
  exact z6_cashBy_29 F hr hk FU v1 v2 x1 0 M _ _ ls hw (lv_sub hl [2, 3, 4, 1, 0] rfl) hf
def p6_cashBy (a1 : Int32) (a2 : Int32) (M : SX) : Option (Int32 × SX) :=
  gd (bIn a1 6) ( bd (p6_has a2 a1 M) (fun r4 M3 => if r4 = 0 then (p6_cashBy_24 a1 a2 (M.1 12 (Int32.toNatClampNeg a1)) 0 M3)
  else (p6_cashBy_24 a1 a2 (M.1 12 (Int32.toNatClampNeg a1)) (M3.1 11 (Int32.toNatClampNeg a1)) M3)))
set_option maxHeartbeats 4000000 in
set_option maxRecDepth 100000 in
theorem c6_cashBy {l : Launch} {G : XG} {r : Int32} {M' : SX} {M : SX} (a1 : Int32) (a2 : Int32) (hf : p6_cashBy a1 a2 M = some (r, M')) : Met l yX6_cashBy (.code yX6_cashBy cX6_cashBy 5 (some .int) :: TBL) (rmX 1) (xPc G ZY M [.ref (G.2.1 0), .int a1, .int a2]) (xQi G ZY r M') 0 0 (inA G ZY) := by
  refine x_met (cc := cX6_cashBy) (by decide) (Nat.le_of_ble_eq_true rfl) ?_
  intro p e s m below meth c ls F hr hk hl hw
  have F : Fx G ZY p m c cX6_cashBy 5 s [.ref (G.2.1 0), .int a1, .int a2].toArray RX6 := F
  have hl : lv_has ls 5 [(0, .ref (G.2.1 0)), (1, .int a1), (2, .int a2)] := hl
  have hx := F.1.1
  have hb := F.1.2.1
  unfold p6_cashBy at hf
  refine lv_aload_n hx hb dX6_cashBy_0 rfl (lv_at hl 0 rfl) ?_
  refine g6_21 F hw tw_655 dX6_cashBy_1 ?_
  refine lv_iload_n hx hb dX6_cashBy_4 rfl (lv_at hl 1 rfl) ?_
  obtain ⟨g1, hf⟩ := gd_some hf
  refine x_iald F hw sM12 g1 dX6_cashBy_5 ?_
  refine lv_iload_n hx hb dX6_cashBy_6 rfl (lv_at hl 2 rfl) ?_
  refine lv_iload_n hx hb dX6_cashBy_7 rfl (lv_at hl 1 rfl) ?_
  obtain ⟨r4, M3, hc2, hf⟩ := bd_some hf
  refine x_aftI hw (x_runS (rest := [.int (M.1 12 (Int32.toNatClampNeg a1))]) F hw hl.1 sw_RX6_181 (c6_has a2 a1 hc2) rfl rfl (Nat.le_of_ble_eq_true rfl) ⟨Nat.le_of_ble_eq_true rfl, Nat.le_of_ble_eq_true rfl⟩ dX6_cashBy_8) (fun H locs hw => ?_)
  refine lv_if_eq (tgt := 23) hx hb dX6_cashBy_11 (by decide) (fun c5 => ?_) (fun c5 => ?_)
  · have hf := it_t hf c5
    refine lv_iconst (v := 0) hx hb dX6_cashBy_23 (by decide) ?_
    exact w6_cashBy_24 F hr hk a1 a2 (M.1 12 (Int32.toNatClampNeg a1)) 0 M3 _ _ ls hw (lv_sub hl [0, 1, 2] rfl) hf
  · have hf := it_f hf c5
    refine lv_aload_n hx hb dX6_cashBy_14 rfl (lv_at hl 0 rfl) ?_
    refine g6_20 F hw tw_654 dX6_cashBy_15 ?_
    refine lv_iload_n hx hb dX6_cashBy_18 rfl (lv_at hl 1 rfl) ?_
    refine x_iald F hw sM11 g1 dX6_cashBy_19 ?_
    refine lv_goto (tgt := 24) hx hb dX6_cashBy_20 (by decide) ?_
    exact w6_cashBy_24 F hr hk a1 a2 (M.1 12 (Int32.toNatClampNeg a1)) (M3.1 11 (Int32.toNatClampNeg a1)) M3 _ _ ls hw (lv_sub hl [0, 1, 2] rfl) hf
theorem dX6_noRow_0 : decode cX6_noRow 0 = .ok (.aload_n 0, 1) := by decide +kernel
theorem dX6_noRow_1 : decode cX6_noRow 1 = .ok (.getfield 140, 3) := by decide +kernel
theorem dX6_noRow_4 : decode cX6_noRow 4 = .ok (.ifCond .ne 6, 3) := by decide +kernel
theorem dX6_noRow_7 : decode cX6_noRow 7 = .ok (.bipush (-4), 2) := by decide +kernel
theorem dX6_noRow_9 : decode cX6_noRow 9 = .ok (.ireturn, 1) := by decide +kernel
theorem dX6_noRow_10 : decode cX6_noRow 10 = .ok (.aload_n 0, 1) := by decide +kernel
theorem dX6_noRow_11 : decode cX6_noRow 11 = .ok (.getfield 16, 3) := by decide +kernel
theorem dX6_noRow_14 : decode cX6_noRow 14 = .ok (.iload_n 1, 1) := by decide +kernel
theorem dX6_noRow_15 : decode cX6_noRow 15 = .ok (.iaload, 1) := by decide +kernel
theorem dX6_noRow_16 : decode cX6_noRow 16 = .ok (.ifCond .ge 9, 3) := by decide +kernel
theorem dX6_noRow_19 : decode cX6_noRow 19 = .ok (.aload_n 0, 1) := by decide +kernel
theorem dX6_noRow_20 : decode cX6_noRow 20 = .ok (.iconst 1, 1) := by decide +kernel
theorem dX6_noRow_21 : decode cX6_noRow 21 = .ok (.invokevirtual 79, 3) := by decide +kernel
theorem dX6_noRow_24 : decode cX6_noRow 24 = .ok (.ireturn, 1) := by decide +kernel
theorem dX6_noRow_25 : decode cX6_noRow 25 = .ok (.aload_n 0, 1) := by decide +kernel
theorem dX6_noRow_26 : decode cX6_noRow 26 = .ok (.getfield 16, 3) := by decide +kernel
theorem dX6_noRow_29 : decode cX6_noRow 29 = .ok (.iload_n 1, 1) := by decide +kernel
theorem dX6_noRow_30 : decode cX6_noRow 30 = .ok (.iaload, 1) := by decide +kernel
theorem dX6_noRow_31 : decode cX6_noRow 31 = .ok (.iload_n 2, 1) := by decide +kernel
theorem dX6_noRow_32 : decode cX6_noRow 32 = .ok (.if_icmp .lt 14, 3) := by decide +kernel
theorem dX6_noRow_35 : decode cX6_noRow 35 = .ok (.aload_n 0, 1) := by decide +kernel
theorem dX6_noRow_36 : decode cX6_noRow 36 = .ok (.getfield 16, 3) := by decide +kernel
theorem dX6_noRow_39 : decode cX6_noRow 39 = .ok (.iload_n 1, 1) := by decide +kernel
theorem dX6_noRow_40 : decode cX6_noRow 40 = .ok (.iaload, 1) := by decide +kernel
theorem dX6_noRow_41 : decode cX6_noRow 41 = .ok (.bipush 6, 2) := by decide +kernel
theorem dX6_noRow_43 : decode cX6_noRow 43 = .ok (.if_icmp .le 9, 3) := by decide +kernel
theorem dX6_noRow_46 : decode cX6_noRow 46 = .ok (.aload_n 0, 1) := by decide +kernel
theorem dX6_noRow_47 : decode cX6_noRow 47 = .ok (.iconst 5, 1) := by decide +kernel
theorem dX6_noRow_48 : decode cX6_noRow 48 = .ok (.invokevirtual 79, 3) := by decide +kernel
theorem dX6_noRow_51 : decode cX6_noRow 51 = .ok (.ireturn, 1) := by decide +kernel
theorem dX6_noRow_52 : decode cX6_noRow 52 = .ok (.iconst 1, 1) := by decide +kernel
theorem dX6_noRow_53 : decode cX6_noRow 53 = .ok (.istore 4, 2) := by decide +kernel
theorem dX6_noRow_55 : decode cX6_noRow 55 = .ok (.iconst 0, 1) := by decide +kernel
theorem dX6_noRow_56 : decode cX6_noRow 56 = .ok (.istore 5, 2) := by decide +kernel
theorem dX6_noRow_58 : decode cX6_noRow 58 = .ok (.iload 5, 2) := by decide +kernel
theorem dX6_noRow_60 : decode cX6_noRow 60 = .ok (.aload_n 0, 1) := by decide +kernel
theorem dX6_noRow_61 : decode cX6_noRow 61 = .ok (.getfield 16, 3) := by decide +kernel
theorem dX6_noRow_64 : decode cX6_noRow 64 = .ok (.iload_n 1, 1) := by decide +kernel
theorem dX6_noRow_65 : decode cX6_noRow 65 = .ok (.iaload, 1) := by decide +kernel
theorem dX6_noRow_66 : decode cX6_noRow 66 = .ok (.if_icmp .ge 43, 3) := by decide +kernel
theorem dX6_noRow_69 : decode cX6_noRow 69 = .ok (.iload 4, 2) := by decide +kernel
theorem dX6_noRow_71 : decode cX6_noRow 71 = .ok (.ifCond .eq 29, 3) := by decide +kernel
theorem dX6_noRow_74 : decode cX6_noRow 74 = .ok (.aload_n 0, 1) := by decide +kernel
theorem dX6_noRow_75 : decode cX6_noRow 75 = .ok (.getfield 19, 3) := by decide +kernel
theorem dX6_noRow_78 : decode cX6_noRow 78 = .ok (.bipush 40, 2) := by decide +kernel
theorem dX6_noRow_80 : decode cX6_noRow 80 = .ok (.iload_n 1, 1) := by decide +kernel
theorem dX6_noRow_81 : decode cX6_noRow 81 = .ok (.imul, 1) := by decide +kernel
theorem dX6_noRow_82 : decode cX6_noRow 82 = .ok (.iload 5, 2) := by decide +kernel
theorem dX6_noRow_84 : decode cX6_noRow 84 = .ok (.iadd, 1) := by decide +kernel
theorem dX6_noRow_85 : decode cX6_noRow 85 = .ok (.iaload, 1) := by decide +kernel
theorem dX6_noRow_86 : decode cX6_noRow 86 = .ok (.i2l, 1) := by decide +kernel
theorem dX6_noRow_87 : decode cX6_noRow 87 = .ok (.lconst 0, 1) := by decide +kernel
theorem dX6_noRow_88 : decode cX6_noRow 88 = .ok (.iload_n 3, 1) := by decide +kernel
theorem dX6_noRow_89 : decode cX6_noRow 89 = .ok (.i2l, 1) := by decide +kernel
theorem dX6_noRow_90 : decode cX6_noRow 90 = .ok (.invokestatic 69, 3) := by decide +kernel
theorem dX6_noRow_93 : decode cX6_noRow 93 = .ok (.ifCond .eq 7, 3) := by decide +kernel
theorem dX6_noRow_96 : decode cX6_noRow 96 = .ok (.iconst 1, 1) := by decide +kernel
theorem dX6_noRow_97 : decode cX6_noRow 97 = .ok (.goto 4, 3) := by decide +kernel
theorem dX6_noRow_100 : decode cX6_noRow 100 = .ok (.iconst 0, 1) := by decide +kernel
theorem dX6_noRow_101 : decode cX6_noRow 101 = .ok (.istore 4, 2) := by decide +kernel
theorem dX6_noRow_103 : decode cX6_noRow 103 = .ok (.iinc 5 1, 3) := by decide +kernel
theorem dX6_noRow_106 : decode cX6_noRow 106 = .ok (.goto (-48), 3) := by decide +kernel
theorem dX6_noRow_109 : decode cX6_noRow 109 = .ok (.iload 4, 2) := by decide +kernel
theorem dX6_noRow_111 : decode cX6_noRow 111 = .ok (.ifCond .eq 7, 3) := by decide +kernel
theorem dX6_noRow_114 : decode cX6_noRow 114 = .ok (.iconst 0, 1) := by decide +kernel
theorem dX6_noRow_115 : decode cX6_noRow 115 = .ok (.goto 8, 3) := by decide +kernel
theorem dX6_noRow_118 : decode cX6_noRow 118 = .ok (.aload_n 0, 1) := by decide +kernel
theorem dX6_noRow_119 : decode cX6_noRow 119 = .ok (.iconst 3, 1) := by decide +kernel
theorem dX6_noRow_120 : decode cX6_noRow 120 = .ok (.invokevirtual 79, 3) := by decide +kernel
theorem dX6_noRow_123 : decode cX6_noRow 123 = .ok (.ireturn, 1) := by decide +kernel
def p6_noRow_46 (M : SX) : Option (Int32 × SX) :=
  bd (p6_find 5 M) (fun r3 M2 => some (r3, M2))
set_option maxHeartbeats 4000000 in
set_option maxRecDepth 100000 in
theorem w6_noRow_46 {G : XG} {p : Program} {l : Launch} {e : Env} {s : State} {m : MethodId} {args : Array Value} {below : List Frame} {meth : Method} {c : Code} (F : Fx G ZY p m c cX6_noRow 6 s args RX6) (hr : meth.sig.returnType = some .int) (hk : meth.locks = false) {r : Int32} {M' : SX} : ∀ (M : SX) (H : Heap) (locs : List Loc) (ls : Array Slot), Wld G ZY M s.heap H locs → lv_has ls 6 [(0, .ref (G.2.1 0))] → p6_noRow_46 M = some (r, M') → WXi G ZY p l e 1 s m args below meth c r M' H locs (F0 m 46 ls []) := by
  intro M H locs ls hw hl hf
  have hx := F.1.1
  have hb := F.1.2.1
  unfold p6_noRow_46 at hf
  refine lv_aload_n hx hb dX6_noRow_46 rfl (lv_at hl 0 rfl) ?_
  refine lv_iconst (v := 5) hx hb dX6_noRow_47 (by decide) ?_
  obtain ⟨r3, M2, hc1, hf⟩ := bd_some hf
  refine x_aftI hw (x_runV (rest := []) F hw hl.1 vw_RX6_79 (sM) rfl (c6_find 5 hc1) rfl rfl (Nat.le_of_ble_eq_true rfl) ⟨Nat.le_of_ble_eq_true rfl, Nat.le_of_ble_eq_true rfl⟩ dX6_noRow_48) (fun H locs hw => ?_)
  exact x_iret F hw hr hk hf dX6_noRow_51
def p6_noRow_101 (k58 : Int32 → Int32 → Int32 → Int32 → SX → Option (Int32 × SX)) (v1 : Int32) (v3 : Int32) (v5 : Int32) (t0 : Int32) (M : SX) : Option (Int32 × SX) :=
  lt_ (v5 + 1) (fun x1 => k58 v1 v3 t0 x1 M)
set_option maxHeartbeats 4000000 in
set_option maxRecDepth 100000 in
theorem w6_noRow_101 {G : XG} {p : Program} {l : Launch} {e : Env} {s : State} {m : MethodId} {args : Array Value} {below : List Frame} {meth : Method} {c : Code} (F : Fx G ZY p m c cX6_noRow 6 s args RX6) (hr : meth.sig.returnType = some .int) (hk : meth.locks = false) {r : Int32} {M' : SX} (k58 : Int32 → Int32 → Int32 → Int32 → SX → Option (Int32 × SX)) (hk58 : ∀ (v1 : Int32) (v3 : Int32) (v4 : Int32) (v5 : Int32) (M : SX) (H : Heap) (locs : List Loc) (ls : Array Slot), Wld G ZY M s.heap H locs → lv_has ls 6 [(0, .ref (G.2.1 0)), (1, .int v1), (3, .int v3), (4, .int v4), (5, .int v5)] → k58 v1 v3 v4 v5 M = some (r, M') → WXi G ZY p l e 1 s m args below meth c r M' H locs (F0 m 58 ls [])) : ∀ (v1 : Int32) (v3 : Int32) (v5 : Int32) (t0 : Int32) (M : SX) (H : Heap) (locs : List Loc) (ls : Array Slot), Wld G ZY M s.heap H locs → lv_has ls 6 [(0, .ref (G.2.1 0)), (1, .int v1), (3, .int v3), (5, .int v5)] → p6_noRow_101 k58 v1 v3 v5 t0 M = some (r, M') → WXi G ZY p l e 1 s m args below meth c r M' H locs (F0 m 101 ls [.int t0]) := by
  intro v1 v3 v5 t0 M H locs ls hw hl hf
  have hx := F.1.1
  have hb := F.1.2.1
  unfold p6_noRow_101 at hf
  refine lv_istore (lv' := [(4, .int t0), (0, .ref (G.2.1 0)), (1, .int v1), (3, .int v3), (5, .int v5)]) hx hb dX6_noRow_101 hl (by decide) rfl (fun ls hl => ?_)
  obtain ⟨x1, ex1, hf⟩ := lt_elim hf
  refine lv_iinc (v := x1) (lv' := [(5, .int x1), (4, .int t0), (0, .ref (G.2.1 0)), (1, .int v1), (3, .int v3)]) hx hb dX6_noRow_103 hl (k := 4) rfl (by rw [ex1]; rfl) (by decide) rfl (fun ls hl => ?_)
  refine lv_goto (tgt := 58) hx hb dX6_noRow_106 (by decide) ?_
  exact hk58 v1 v3 t0 x1 M _ _ ls hw (lv_sub hl [2, 3, 4, 1, 0] rfl) hf
def p6_noRow_100 (k58 : Int32 → Int32 → Int32 → Int32 → SX → Option (Int32 × SX)) (v1 : Int32) (v3 : Int32) (v5 : Int32) (M : SX) : Option (Int32 × SX) :=
  p6_noRow_101 k58 v1 v3 v5 0 M
set_option maxHeartbeats 4000000 in
set_option maxRecDepth 100000 in
theorem w6_noRow_100 {G : XG} {p : Program} {l : Launch} {e : Env} {s : State} {m : MethodId} {args : Array Value} {below : List Frame} {meth : Method} {c : Code} (F : Fx G ZY p m c cX6_noRow 6 s args RX6) (hr : meth.sig.returnType = some .int) (hk : meth.locks = false) {r : Int32} {M' : SX} (k58 : Int32 → Int32 → Int32 → Int32 → SX → Option (Int32 × SX)) (hk58 : ∀ (v1 : Int32) (v3 : Int32) (v4 : Int32) (v5 : Int32) (M : SX) (H : Heap) (locs : List Loc) (ls : Array Slot), Wld G ZY M s.heap H locs → lv_has ls 6 [(0, .ref (G.2.1 0)), (1, .int v1), (3, .int v3), (4, .int v4), (5, .int v5)] → k58 v1 v3 v4 v5 M = some (r, M') → WXi G ZY p l e 1 s m args below meth c r M' H locs (F0 m 58 ls [])) : ∀ (v1 : Int32) (v3 : Int32) (v5 : Int32) (M : SX) (H : Heap) (locs : List Loc) (ls : Array Slot), Wld G ZY M s.heap H locs → lv_has ls 6 [(0, .ref (G.2.1 0)), (1, .int v1), (3, .int v3), (5, .int v5)] → p6_noRow_100 k58 v1 v3 v5 M = some (r, M') → WXi G ZY p l e 1 s m args below meth c r M' H locs (F0 m 100 ls []) := by
  intro v1 v3 v5 M H locs ls hw hl hf
  have hx := F.1.1
  have hb := F.1.2.1
  unfold p6_noRow_100 at hf
  refine lv_iconst (v := 0) hx hb dX6_noRow_100 (by decide) ?_
  exact w6_noRow_101 F hr hk k58 hk58 v1 v3 v5 0 M _ _ ls hw (lv_sub hl [0, 1, 2, 3] rfl) hf
def p6_noRow_58 (k58 : Int32 → Int32 → Int32 → Int32 → SX → Option (Int32 × SX)) (v1 : Int32) (v3 : Int32) (v4 : Int32) (v5 : Int32) (M : SX) : Option (Int32 × SX) :=
  gd (bIn v1 6) ( if (M.1 3 (Int32.toNatClampNeg v1)) ≤ v5 then (if v4 = 0 then (bd (p6_find 3 M) (fun r6 M5 => some (r6, M5)))
  else (some (0, M)))
  else (if v4 = 0 then (p6_noRow_100 k58 v1 v3 v5 M)
  else (gd (bIn ((40 * v1) + v5) 240) ( bd (p6_in (Int32.toInt64 (M.1 4 (Int32.toNatClampNeg ((40 * v1) + v5)))) 0 (Int32.toInt64 v3) M) (fun r11 M10 => if r11 = 0 then (p6_noRow_100 k58 v1 v3 v5 M10)
  else (p6_noRow_101 k58 v1 v3 v5 1 M10))))))
set_option maxHeartbeats 4000000 in
set_option maxRecDepth 100000 in
theorem w6_noRow_58 {G : XG} {p : Program} {l : Launch} {e : Env} {s : State} {m : MethodId} {args : Array Value} {below : List Frame} {meth : Method} {c : Code} (F : Fx G ZY p m c cX6_noRow 6 s args RX6) (hr : meth.sig.returnType = some .int) (hk : meth.locks = false) {r : Int32} {M' : SX} (k58 : Int32 → Int32 → Int32 → Int32 → SX → Option (Int32 × SX)) (hk58 : ∀ (v1 : Int32) (v3 : Int32) (v4 : Int32) (v5 : Int32) (M : SX) (H : Heap) (locs : List Loc) (ls : Array Slot), Wld G ZY M s.heap H locs → lv_has ls 6 [(0, .ref (G.2.1 0)), (1, .int v1), (3, .int v3), (4, .int v4), (5, .int v5)] → k58 v1 v3 v4 v5 M = some (r, M') → WXi G ZY p l e 1 s m args below meth c r M' H locs (F0 m 58 ls [])) : ∀ (v1 : Int32) (v3 : Int32) (v4 : Int32) (v5 : Int32) (M : SX) (H : Heap) (locs : List Loc) (ls : Array Slot), Wld G ZY M s.heap H locs → lv_has ls 6 [(0, .ref (G.2.1 0)), (1, .int v1), (3, .int v3), (4, .int v4), (5, .int v5)] → p6_noRow_58 k58 v1 v3 v4 v5 M = some (r, M') → WXi G ZY p l e 1 s m args below meth c r M' H locs (F0 m 58 ls []) := by
  intro v1 v3 v4 v5 M H locs ls hw hl hf
  have hx := F.1.1
  have hb := F.1.2.1
  unfold p6_noRow_58 at hf
  refine lv_iload hx hb dX6_noRow_58 (lv_at hl 4 rfl) ?_
  refine lv_aload_n hx hb dX6_noRow_60 rfl (lv_at hl 0 rfl) ?_
  refine g6_3 F hw tw_606 dX6_noRow_61 ?_
  refine lv_iload_n hx hb dX6_noRow_64 rfl (lv_at hl 1 rfl) ?_
  obtain ⟨g1, hf⟩ := gd_some hf
  refine x_iald F hw sM3 g1 dX6_noRow_65 ?_
  refine lv_icmp_ge (tgt := 109) hx hb dX6_noRow_66 (by decide) (fun c2 => ?_) (fun c2 => ?_)
  · have hf := it_t hf c2
    refine lv_iload hx hb dX6_noRow_109 (lv_at hl 3 rfl) ?_
    refine lv_if_eq (tgt := 118) hx hb dX6_noRow_111 (by decide) (fun c3 => ?_) (fun c3 => ?_)
    · have hf := it_t hf c3
      refine lv_aload_n hx hb dX6_noRow_118 rfl (lv_at hl 0 rfl) ?_
      refine lv_iconst (v := 3) hx hb dX6_noRow_119 (by decide) ?_
      obtain ⟨r6, M5, hc4, hf⟩ := bd_some hf
      refine x_aftI hw (x_runV (rest := []) F hw hl.1 vw_RX6_79 (sM) rfl (c6_find 3 hc4) rfl rfl (Nat.le_of_ble_eq_true rfl) ⟨Nat.le_of_ble_eq_true rfl, Nat.le_of_ble_eq_true rfl⟩ dX6_noRow_120) (fun H locs hw => ?_)
      exact x_iret F hw hr hk hf dX6_noRow_123
    · have hf := it_f hf c3
      refine lv_iconst (v := 0) hx hb dX6_noRow_114 (by decide) ?_
      refine lv_goto (tgt := 123) hx hb dX6_noRow_115 (by decide) ?_
      exact x_iret F hw hr hk hf dX6_noRow_123
  · have hf := it_f hf c2
    refine lv_iload hx hb dX6_noRow_69 (lv_at hl 3 rfl) ?_
    refine lv_if_eq (tgt := 100) hx hb dX6_noRow_71 (by decide) (fun c7 => ?_) (fun c7 => ?_)
    · have hf := it_t hf c7
      exact w6_noRow_100 F hr hk k58 hk58 v1 v3 v5 M _ _ ls hw (lv_sub hl [0, 1, 2, 4] rfl) hf
    · have hf := it_f hf c7
      refine lv_aload_n hx hb dX6_noRow_74 rfl (lv_at hl 0 rfl) ?_
      refine g6_4 F hw tw_605 dX6_noRow_75 ?_
      refine lv_bipush (v := 40) hx hb dX6_noRow_78 (by decide) ?_
      refine lv_iload_n hx hb dX6_noRow_80 rfl (lv_at hl 1 rfl) ?_
      refine lv_imul hx hb dX6_noRow_81 ?_
      refine lv_iload hx hb dX6_noRow_82 (lv_at hl 4 rfl) ?_
      refine lv_iadd hx hb dX6_noRow_84 ?_
      obtain ⟨g8, hf⟩ := gd_some hf
      refine x_iald F hw sM4 g8 dX6_noRow_85 ?_
      refine lv_i2l (v := Int32.toInt64 (M.1 4 (Int32.toNatClampNeg ((40 * v1) + v5)))) hx hb dX6_noRow_86 rfl ?_
      refine lv_lconst (v := 0) hx hb dX6_noRow_87 (by decide) ?_
      refine lv_iload_n hx hb dX6_noRow_88 rfl (lv_at hl 2 rfl) ?_
      refine lv_i2l (v := Int32.toInt64 v3) hx hb dX6_noRow_89 rfl ?_
      obtain ⟨r11, M10, hc9, hf⟩ := bd_some hf
      refine x_aftI hw (x_runS (rest := []) F hw hl.1 sw_RX6_69 (c6_in (Int32.toInt64 (M.1 4 (Int32.toNatClampNeg ((40 * v1) + v5)))) 0 (Int32.toInt64 v3) hc9) rfl rfl (Nat.le_of_ble_eq_true rfl) ⟨Nat.le_of_ble_eq_true rfl, Nat.le_of_ble_eq_true rfl⟩ dX6_noRow_90) (fun H locs hw => ?_)
      refine lv_if_eq (tgt := 100) hx hb dX6_noRow_93 (by decide) (fun c12 => ?_) (fun c12 => ?_)
      · have hf := it_t hf c12
        exact w6_noRow_100 F hr hk k58 hk58 v1 v3 v5 M10 _ _ ls hw (lv_sub hl [0, 1, 2, 4] rfl) hf
      · have hf := it_f hf c12
        refine lv_iconst (v := 1) hx hb dX6_noRow_96 (by decide) ?_
        refine lv_goto (tgt := 101) hx hb dX6_noRow_97 (by decide) ?_
        exact w6_noRow_101 F hr hk k58 hk58 v1 v3 v5 1 M10 _ _ ls hw (lv_sub hl [0, 1, 2, 4] rfl) hf
theorem z6_noRow_58 {G : XG} {p : Program} {l : Launch} {e : Env} {s : State} {m : MethodId} {args : Array Value} {below : List Frame} {meth : Method} {c : Code} (F : Fx G ZY p m c cX6_noRow 6 s args RX6) (hr : meth.sig.returnType = some .int) (hk : meth.locks = false) {r : Int32} {M' : SX} : ∀ n : Nat, ∀ (v1 : Int32) (v3 : Int32) (v4 : Int32) (v5 : Int32) (M : SX) (H : Heap) (locs : List Loc) (ls : Array Slot), Wld G ZY M s.heap H locs → lv_has ls 6 [(0, .ref (G.2.1 0)), (1, .int v1), (3, .int v3), (4, .int v4), (5, .int v5)] → xlp4 p6_noRow_58 n v1 v3 v4 v5 M = some (r, M') → WXi G ZY p l e 1 s m args below meth c r M' H locs (F0 m 58 ls []) := by
  intro n
  induction n with
  | zero => intro _ _ _ _ _ _ _ _ _ _ hf; cases hf
  | succ n ih => exact w6_noRow_58 F hr hk (xlp4 p6_noRow_58 n) ih
def p6_noRow (a1 : Int32) (a2 : Int32) (a3 : Int32) (M : SX) : Option (Int32 × SX) :=
  if (M.1 0 1) = 0 then (some ((-4), M))
  else (gd (bIn a1 6) ( if 0 ≤ (M.1 3 (Int32.toNatClampNeg a1)) then (if (M.1 3 (Int32.toNatClampNeg a1)) < a2 then (p6_noRow_46 M)
  else (if (M.1 3 (Int32.toNatClampNeg a1)) ≤ (6 : Int32) then (xlp4 p6_noRow_58 FU a1 a3 1 0 M)
  else (p6_noRow_46 M)))
  else (bd (p6_find 1 M) (fun r8 M7 => some (r8, M7)))))
set_option maxHeartbeats 4000000 in
set_option maxRecDepth 100000 in
theorem c6_noRow {l : Launch} {G : XG} {r : Int32} {M' : SX} {M : SX} (a1 : Int32) (a2 : Int32) (a3 : Int32) (hf : p6_noRow a1 a2 a3 M = some (r, M')) : Met l yX6_noRow (.code yX6_noRow cX6_noRow 6 (some .int) :: TBL) (rmX 1) (xPc G ZY M [.ref (G.2.1 0), .int a1, .int a2, .int a3]) (xQi G ZY r M') 0 0 (inA G ZY) := by
  refine x_met (cc := cX6_noRow) (by decide) (Nat.le_of_ble_eq_true rfl) ?_
  intro p e s m below meth c ls F hr hk hl hw
  have F : Fx G ZY p m c cX6_noRow 6 s [.ref (G.2.1 0), .int a1, .int a2, .int a3].toArray RX6 := F
  have hl : lv_has ls 6 [(0, .ref (G.2.1 0)), (1, .int a1), (2, .int a2), (3, .int a3)] := hl
  have hx := F.1.1
  have hb := F.1.2.1
  unfold p6_noRow at hf
  refine lv_aload_n hx hb dX6_noRow_0 rfl (lv_at hl 0 rfl) ?_
  refine g6_1 F hw tw_611 dX6_noRow_1 ?_
  refine lv_if_ne (tgt := 10) hx hb dX6_noRow_4 (by decide) (fun c1 => ?_) (fun c1 => ?_)
  · have hf := it_f hf c1
    refine lv_aload_n hx hb dX6_noRow_10 rfl (lv_at hl 0 rfl) ?_
    refine g6_3 F hw tw_606 dX6_noRow_11 ?_
    refine lv_iload_n hx hb dX6_noRow_14 rfl (lv_at hl 1 rfl) ?_
    obtain ⟨g2, hf⟩ := gd_some hf
    refine x_iald F hw sM3 g2 dX6_noRow_15 ?_
    refine lv_if_ge (tgt := 25) hx hb dX6_noRow_16 (by decide) (fun c3 => ?_) (fun c3 => ?_)
    · have hf := it_t hf c3
      refine lv_aload_n hx hb dX6_noRow_25 rfl (lv_at hl 0 rfl) ?_
      refine g6_3 F hw tw_606 dX6_noRow_26 ?_
      refine lv_iload_n hx hb dX6_noRow_29 rfl (lv_at hl 1 rfl) ?_
      refine x_iald F hw sM3 g2 dX6_noRow_30 ?_
      refine lv_iload_n hx hb dX6_noRow_31 rfl (lv_at hl 2 rfl) ?_
      refine lv_icmp_lt (tgt := 46) hx hb dX6_noRow_32 (by decide) (fun c4 => ?_) (fun c4 => ?_)
      · have hf := it_t hf c4
        exact w6_noRow_46 F hr hk M _ _ ls hw (lv_sub hl [0] rfl) hf
      · have hf := it_f hf c4
        refine lv_aload_n hx hb dX6_noRow_35 rfl (lv_at hl 0 rfl) ?_
        refine g6_3 F hw tw_606 dX6_noRow_36 ?_
        refine lv_iload_n hx hb dX6_noRow_39 rfl (lv_at hl 1 rfl) ?_
        refine x_iald F hw sM3 g2 dX6_noRow_40 ?_
        refine lv_bipush (v := 6) hx hb dX6_noRow_41 (by decide) ?_
        refine lv_icmp_le (tgt := 52) hx hb dX6_noRow_43 (by decide) (fun c5 => ?_) (fun c5 => ?_)
        · have hf := it_t hf c5
          refine lv_iconst (v := 1) hx hb dX6_noRow_52 (by decide) ?_
          refine lv_istore (lv' := [(4, .int 1), (0, .ref (G.2.1 0)), (1, .int a1), (2, .int a2), (3, .int a3)]) hx hb dX6_noRow_53 hl (by decide) rfl (fun ls hl => ?_)
          refine lv_iconst (v := 0) hx hb dX6_noRow_55 (by decide) ?_
          refine lv_istore (lv' := [(5, .int 0), (4, .int 1), (0, .ref (G.2.1 0)), (1, .int a1), (2, .int a2), (3, .int a3)]) hx hb dX6_noRow_56 hl (by decide) rfl (fun ls hl => ?_)
          exact z6_noRow_58 F hr hk FU a1 a3 1 0 M _ _ ls hw (lv_sub hl [2, 3, 5, 1, 0] rfl) hf
        · have hf := it_f hf c5
          exact w6_noRow_46 F hr hk M _ _ ls hw (lv_sub hl [0] rfl) hf
    · have hf := it_f hf c3
      refine lv_aload_n hx hb dX6_noRow_19 rfl (lv_at hl 0 rfl) ?_
      refine lv_iconst (v := 1) hx hb dX6_noRow_20 (by decide) ?_
      obtain ⟨r8, M7, hc6, hf⟩ := bd_some hf
      refine x_aftI hw (x_runV (rest := []) F hw hl.1 vw_RX6_79 (sM) rfl (c6_find 1 hc6) rfl rfl (Nat.le_of_ble_eq_true rfl) ⟨Nat.le_of_ble_eq_true rfl, Nat.le_of_ble_eq_true rfl⟩ dX6_noRow_21) (fun H locs hw => ?_)
      exact x_iret F hw hr hk hf dX6_noRow_24
  · have hf := it_t hf c1
    refine lv_bipush (v := (-4)) hx hb dX6_noRow_7 (by decide) ?_
    exact x_iret F hw hr hk hf dX6_noRow_9
theorem dX6_hawks_0 : decode cX6_hawks 0 = .ok (.iconst 0, 1) := by decide +kernel
theorem dX6_hawks_1 : decode cX6_hawks 1 = .ok (.istore_n 1, 1) := by decide +kernel
theorem dX6_hawks_2 : decode cX6_hawks 2 = .ok (.iconst 0, 1) := by decide +kernel
theorem dX6_hawks_3 : decode cX6_hawks 3 = .ok (.istore_n 2, 1) := by decide +kernel
theorem dX6_hawks_4 : decode cX6_hawks 4 = .ok (.iload_n 2, 1) := by decide +kernel
theorem dX6_hawks_5 : decode cX6_hawks 5 = .ok (.aload_n 0, 1) := by decide +kernel
theorem dX6_hawks_6 : decode cX6_hawks 6 = .ok (.getfield 140, 3) := by decide +kernel
theorem dX6_hawks_9 : decode cX6_hawks 9 = .ok (.if_icmp .ge 26, 3) := by decide +kernel
theorem dX6_hawks_12 : decode cX6_hawks 12 = .ok (.iload_n 1, 1) := by decide +kernel
theorem dX6_hawks_13 : decode cX6_hawks 13 = .ok (.aload_n 0, 1) := by decide +kernel
theorem dX6_hawks_14 : decode cX6_hawks 14 = .ok (.iload_n 2, 1) := by decide +kernel
theorem dX6_hawks_15 : decode cX6_hawks 15 = .ok (.iconst 2, 1) := by decide +kernel
theorem dX6_hawks_16 : decode cX6_hawks 16 = .ok (.invokevirtual 160, 3) := by decide +kernel
theorem dX6_hawks_19 : decode cX6_hawks 19 = .ok (.ifCond .eq 7, 3) := by decide +kernel
theorem dX6_hawks_22 : decode cX6_hawks 22 = .ok (.iconst 1, 1) := by decide +kernel
theorem dX6_hawks_23 : decode cX6_hawks 23 = .ok (.goto 4, 3) := by decide +kernel
theorem dX6_hawks_26 : decode cX6_hawks 26 = .ok (.iconst 0, 1) := by decide +kernel
theorem dX6_hawks_27 : decode cX6_hawks 27 = .ok (.iadd, 1) := by decide +kernel
theorem dX6_hawks_28 : decode cX6_hawks 28 = .ok (.istore_n 1, 1) := by decide +kernel
theorem dX6_hawks_29 : decode cX6_hawks 29 = .ok (.iinc 2 1, 3) := by decide +kernel
theorem dX6_hawks_32 : decode cX6_hawks 32 = .ok (.goto (-28), 3) := by decide +kernel
theorem dX6_hawks_35 : decode cX6_hawks 35 = .ok (.iload_n 1, 1) := by decide +kernel
theorem dX6_hawks_36 : decode cX6_hawks 36 = .ok (.ireturn, 1) := by decide +kernel
def p6_hawks_27 (k4 : Int32 → Int32 → SX → Option (Int32 × SX)) (v2 : Int32) (t0 : Int32) (t1 : Int32) (M : SX) : Option (Int32 × SX) :=
  lt_ (t0 + t1) (fun x1 => lt_ (v2 + 1) (fun x2 => k4 x1 x2 M))
set_option maxHeartbeats 4000000 in
set_option maxRecDepth 100000 in
theorem w6_hawks_27 {G : XG} {p : Program} {l : Launch} {e : Env} {s : State} {m : MethodId} {args : Array Value} {below : List Frame} {meth : Method} {c : Code} (F : Fx G ZY p m c cX6_hawks 3 s args RX6) (hr : meth.sig.returnType = some .int) (hk : meth.locks = false) {r : Int32} {M' : SX} (k4 : Int32 → Int32 → SX → Option (Int32 × SX)) (hk4 : ∀ (v1 : Int32) (v2 : Int32) (M : SX) (H : Heap) (locs : List Loc) (ls : Array Slot), Wld G ZY M s.heap H locs → lv_has ls 3 [(0, .ref (G.2.1 0)), (1, .int v1), (2, .int v2)] → k4 v1 v2 M = some (r, M') → WXi G ZY p l e 1 s m args below meth c r M' H locs (F0 m 4 ls [])) : ∀ (v2 : Int32) (t0 : Int32) (t1 : Int32) (M : SX) (H : Heap) (locs : List Loc) (ls : Array Slot), Wld G ZY M s.heap H locs → lv_has ls 3 [(0, .ref (G.2.1 0)), (2, .int v2)] → p6_hawks_27 k4 v2 t0 t1 M = some (r, M') → WXi G ZY p l e 1 s m args below meth c r M' H locs (F0 m 27 ls [.int t1, .int t0]) := by
  intro v2 t0 t1 M H locs ls hw hl hf
  have hx := F.1.1
  have hb := F.1.2.1
  unfold p6_hawks_27 at hf
  refine lv_iadd hx hb dX6_hawks_27 ?_
  obtain ⟨x1, ex1, hf⟩ := lt_elim hf
  refine x_let ex1 ?_
  refine lv_istore_n (lv' := [(1, .int x1), (0, .ref (G.2.1 0)), (2, .int v2)]) hx hb dX6_hawks_28 rfl hl (by decide) rfl (fun ls hl => ?_)
  obtain ⟨x2, ex2, hf⟩ := lt_elim hf
  refine lv_iinc (v := x2) (lv' := [(2, .int x2), (1, .int x1), (0, .ref (G.2.1 0))]) hx hb dX6_hawks_29 hl (k := 2) rfl (by rw [ex2]; rfl) (by decide) rfl (fun ls hl => ?_)
  refine lv_goto (tgt := 4) hx hb dX6_hawks_32 (by decide) ?_
  exact hk4 x1 x2 M _ _ ls hw (lv_sub hl [2, 1, 0] rfl) hf
def p6_hawks_4 (k4 : Int32 → Int32 → SX → Option (Int32 × SX)) (v1 : Int32) (v2 : Int32) (M : SX) : Option (Int32 × SX) :=
  if (M.1 0 1) ≤ v2 then (some (v1, M))
  else (bd (p6_isOf v2 2 M) (fun r4 M3 => if r4 = 0 then (p6_hawks_27 k4 v2 v1 0 M3)
  else (p6_hawks_27 k4 v2 v1 1 M3)))
set_option maxHeartbeats 4000000 in
set_option maxRecDepth 100000 in
theorem w6_hawks_4 {G : XG} {p : Program} {l : Launch} {e : Env} {s : State} {m : MethodId} {args : Array Value} {below : List Frame} {meth : Method} {c : Code} (F : Fx G ZY p m c cX6_hawks 3 s args RX6) (hr : meth.sig.returnType = some .int) (hk : meth.locks = false) {r : Int32} {M' : SX} (k4 : Int32 → Int32 → SX → Option (Int32 × SX)) (hk4 : ∀ (v1 : Int32) (v2 : Int32) (M : SX) (H : Heap) (locs : List Loc) (ls : Array Slot), Wld G ZY M s.heap H locs → lv_has ls 3 [(0, .ref (G.2.1 0)), (1, .int v1), (2, .int v2)] → k4 v1 v2 M = some (r, M') → WXi G ZY p l e 1 s m args below meth c r M' H locs (F0 m 4 ls [])) : ∀ (v1 : Int32) (v2 : Int32) (M : SX) (H : Heap) (locs : List Loc) (ls : Array Slot), Wld G ZY M s.heap H locs → lv_has ls 3 [(0, .ref (G.2.1 0)), (1, .int v1), (2, .int v2)] → p6_hawks_4 k4 v1 v2 M = some (r, M') → WXi G ZY p l e 1 s m args below meth c r M' H locs (F0 m 4 ls []) := by
  intro v1 v2 M H locs ls hw hl hf
  have hx := F.1.1
  have hb := F.1.2.1
  unfold p6_hawks_4 at hf
  refine lv_iload_n hx hb dX6_hawks_4 rfl (lv_at hl 2 rfl) ?_
  refine lv_aload_n hx hb dX6_hawks_5 rfl (lv_at hl 0 rfl) ?_
  refine g6_1 F hw tw_611 dX6_hawks_6 ?_
  refine lv_icmp_ge (tgt := 35) hx hb dX6_hawks_9 (by decide) (fun c1 => ?_) (fun c1 => ?_)
  · have hf := it_t hf c1
    refine lv_iload_n hx hb dX6_hawks_35 rfl (lv_at hl 1 rfl) ?_
    exact x_iret F hw hr hk hf dX6_hawks_36
  · have hf := it_f hf c1
    refine lv_iload_n hx hb dX6_hawks_12 rfl (lv_at hl 1 rfl) ?_
    refine lv_aload_n hx hb dX6_hawks_13 rfl (lv_at hl 0 rfl) ?_
    refine lv_iload_n hx hb dX6_hawks_14 rfl (lv_at hl 2 rfl) ?_
    refine lv_iconst (v := 2) hx hb dX6_hawks_15 (by decide) ?_
    obtain ⟨r4, M3, hc2, hf⟩ := bd_some hf
    refine x_aftI hw (x_runV (rest := [.int v1]) F hw hl.1 vw_RX6_160 (sM) rfl (c6_isOf v2 2 hc2) rfl rfl (Nat.le_of_ble_eq_true rfl) ⟨Nat.le_of_ble_eq_true rfl, Nat.le_of_ble_eq_true rfl⟩ dX6_hawks_16) (fun H locs hw => ?_)
    refine lv_if_eq (tgt := 26) hx hb dX6_hawks_19 (by decide) (fun c5 => ?_) (fun c5 => ?_)
    · have hf := it_t hf c5
      refine lv_iconst (v := 0) hx hb dX6_hawks_26 (by decide) ?_
      exact w6_hawks_27 F hr hk k4 hk4 v2 v1 0 M3 _ _ ls hw (lv_sub hl [0, 2] rfl) hf
    · have hf := it_f hf c5
      refine lv_iconst (v := 1) hx hb dX6_hawks_22 (by decide) ?_
      refine lv_goto (tgt := 27) hx hb dX6_hawks_23 (by decide) ?_
      exact w6_hawks_27 F hr hk k4 hk4 v2 v1 1 M3 _ _ ls hw (lv_sub hl [0, 2] rfl) hf
theorem z6_hawks_4 {G : XG} {p : Program} {l : Launch} {e : Env} {s : State} {m : MethodId} {args : Array Value} {below : List Frame} {meth : Method} {c : Code} (F : Fx G ZY p m c cX6_hawks 3 s args RX6) (hr : meth.sig.returnType = some .int) (hk : meth.locks = false) {r : Int32} {M' : SX} : ∀ n : Nat, ∀ (v1 : Int32) (v2 : Int32) (M : SX) (H : Heap) (locs : List Loc) (ls : Array Slot), Wld G ZY M s.heap H locs → lv_has ls 3 [(0, .ref (G.2.1 0)), (1, .int v1), (2, .int v2)] → xlp2 p6_hawks_4 n v1 v2 M = some (r, M') → WXi G ZY p l e 1 s m args below meth c r M' H locs (F0 m 4 ls []) := by
  intro n
  induction n with
  | zero => intro _ _ _ _ _ _ _ _ hf; cases hf
  | succ n ih => exact w6_hawks_4 F hr hk (xlp2 p6_hawks_4 n) ih
def p6_hawks (M : SX) : Option (Int32 × SX) :=
  xlp2 p6_hawks_4 FU 0 0 M
set_option maxHeartbeats 4000000 in
set_option maxRecDepth 100000 in
theorem c6_hawks {l : Launch} {G : XG} {r : Int32} {M' : SX} {M : SX} (hf : p6_hawks M = some (r, M')) : Met l yX6_hawks (.code yX6_hawks cX6_hawks 3 (some .int) :: TBL) (rmX 1) (xPc G ZY M [.ref (G.2.1 0)]) (xQi G ZY r M') 0 0 (inA G ZY) := by
  refine x_met (cc := cX6_hawks) (by decide) (Nat.le_of_ble_eq_true rfl) ?_
  intro p e s m below meth c ls F hr hk hl hw
  have F : Fx G ZY p m c cX6_hawks 3 s [.ref (G.2.1 0)].toArray RX6 := F
  have hl : lv_has ls 3 [(0, .ref (G.2.1 0))] := hl
  have hx := F.1.1
  have hb := F.1.2.1
  unfold p6_hawks at hf
  refine lv_iconst (v := 0) hx hb dX6_hawks_0 (by decide) ?_
  refine lv_istore_n (lv' := [(1, .int 0), (0, .ref (G.2.1 0))]) hx hb dX6_hawks_1 rfl hl (by decide) rfl (fun ls hl => ?_)
  refine lv_iconst (v := 0) hx hb dX6_hawks_2 (by decide) ?_
  refine lv_istore_n (lv' := [(2, .int 0), (1, .int 0), (0, .ref (G.2.1 0))]) hx hb dX6_hawks_3 rfl hl (by decide) rfl (fun ls hl => ?_)
  exact z6_hawks_4 F hr hk FU 0 0 M _ _ ls hw (lv_sub hl [2, 1, 0] rfl) hf
theorem dX6_findings_0 : decode cX6_findings 0 = .ok (.iload_n 1, 1) := by decide +kernel
theorem dX6_findings_1 : decode cX6_findings 1 = .ok (.i2l, 1) := by decide +kernel
theorem dX6_findings_2 : decode cX6_findings 2 = .ok (.lconst 1, 1) := by decide +kernel
theorem dX6_findings_3 : decode cX6_findings 3 = .ok (.ldc2_w 67, 3) := by decide +kernel
theorem dX6_findings_6 : decode cX6_findings 6 = .ok (.invokestatic 69, 3) := by decide +kernel
theorem dX6_findings_9 : decode cX6_findings 9 = .ok (.ifCond .eq 12, 3) := by decide +kernel
theorem dX6_findings_12 : decode cX6_findings 12 = .ok (.aload_n 0, 1) := by decide +kernel
theorem dX6_findings_13 : decode cX6_findings 13 = .ok (.getfield 32, 3) := by decide +kernel
theorem dX6_findings_16 : decode cX6_findings 16 = .ok (.iload_n 1, 1) := by decide +kernel
theorem dX6_findings_17 : decode cX6_findings 17 = .ok (.iaload, 1) := by decide +kernel
theorem dX6_findings_18 : decode cX6_findings 18 = .ok (.goto 4, 3) := by decide +kernel
theorem dX6_findings_21 : decode cX6_findings 21 = .ok (.iconst (-1), 1) := by decide +kernel
theorem dX6_findings_22 : decode cX6_findings 22 = .ok (.ireturn, 1) := by decide +kernel
def p6_findings (a1 : Int32) (M : SX) : Option (Int32 × SX) :=
  bd (p6_in (Int32.toInt64 a1) 1 5 M) (fun r3 M2 => if r3 = 0 then (some ((-1), M2))
  else (gd (bIn a1 6) ( some (M2.1 7 (Int32.toNatClampNeg a1), M2))))
set_option maxHeartbeats 4000000 in
set_option maxRecDepth 100000 in
theorem c6_findings {l : Launch} {G : XG} {r : Int32} {M' : SX} {M : SX} (a1 : Int32) (hf : p6_findings a1 M = some (r, M')) : Met l yX6_findings (.code yX6_findings cX6_findings 2 (some .int) :: TBL) (rmX 1) (xPc G ZY M [.ref (G.2.1 0), .int a1]) (xQi G ZY r M') 0 0 (inA G ZY) := by
  refine x_met (cc := cX6_findings) (by decide) (Nat.le_of_ble_eq_true rfl) ?_
  intro p e s m below meth c ls F hr hk hl hw
  have F : Fx G ZY p m c cX6_findings 2 s [.ref (G.2.1 0), .int a1].toArray RX6 := F
  have hl : lv_has ls 2 [(0, .ref (G.2.1 0)), (1, .int a1)] := hl
  have hx := F.1.1
  have hb := F.1.2.1
  unfold p6_findings at hf
  refine lv_iload_n hx hb dX6_findings_0 rfl (lv_at hl 1 rfl) ?_
  refine lv_i2l (v := Int32.toInt64 a1) hx hb dX6_findings_1 rfl ?_
  refine lv_lconst (v := 1) hx hb dX6_findings_2 (by decide) ?_
  refine lv_ldc2 (v := 5) hx hb F.1.2.2.2.1 (F.1.2.2.2.2 _ tw_616) dX6_findings_3 ?_
  obtain ⟨r3, M2, hc1, hf⟩ := bd_some hf
  refine x_aftI hw (x_runS (rest := []) F hw hl.1 sw_RX6_69 (c6_in (Int32.toInt64 a1) 1 5 hc1) rfl rfl (Nat.le_of_ble_eq_true rfl) ⟨Nat.le_of_ble_eq_true rfl, Nat.le_of_ble_eq_true rfl⟩ dX6_findings_6) (fun H locs hw => ?_)
  refine lv_if_eq (tgt := 21) hx hb dX6_findings_9 (by decide) (fun c4 => ?_) (fun c4 => ?_)
  · have hf := it_t hf c4
    refine lv_iconst (v := (-1)) hx hb dX6_findings_21 (by decide) ?_
    exact x_iret F hw hr hk hf dX6_findings_22
  · have hf := it_f hf c4
    refine lv_aload_n hx hb dX6_findings_12 rfl (lv_at hl 0 rfl) ?_
    refine g6_11 F hw tw_603 dX6_findings_13 ?_
    refine lv_iload_n hx hb dX6_findings_16 rfl (lv_at hl 1 rfl) ?_
    obtain ⟨g5, hf⟩ := gd_some hf
    refine x_iald F hw sM7 g5 dX6_findings_17 ?_
    refine lv_goto (tgt := 22) hx hb dX6_findings_18 (by decide) ?_
    exact x_iret F hw hr hk hf dX6_findings_22
theorem dX6_row_0 : decode cX6_row 0 = .ok (.iload_n 1, 1) := by decide +kernel
theorem dX6_row_1 : decode cX6_row 1 = .ok (.invokestatic 75, 3) := by decide +kernel
theorem dX6_row_4 : decode cX6_row 4 = .ok (.ifCond .eq 9, 3) := by decide +kernel
theorem dX6_row_7 : decode cX6_row 7 = .ok (.iload_n 2, 1) := by decide +kernel
theorem dX6_row_8 : decode cX6_row 8 = .ok (.bipush 40, 2) := by decide +kernel
theorem dX6_row_10 : decode cX6_row 10 = .ok (.if_icmp .le 5, 3) := by decide +kernel
theorem dX6_row_13 : decode cX6_row 13 = .ok (.iconst (-1), 1) := by decide +kernel
theorem dX6_row_14 : decode cX6_row 14 = .ok (.ireturn, 1) := by decide +kernel
theorem dX6_row_15 : decode cX6_row 15 = .ok (.iload_n 2, 1) := by decide +kernel
theorem dX6_row_16 : decode cX6_row 16 = .ok (.ifCond .ge 9, 3) := by decide +kernel
theorem dX6_row_19 : decode cX6_row 19 = .ok (.aload_n 0, 1) := by decide +kernel
theorem dX6_row_20 : decode cX6_row 20 = .ok (.iconst 5, 1) := by decide +kernel
theorem dX6_row_21 : decode cX6_row 21 = .ok (.invokevirtual 79, 3) := by decide +kernel
theorem dX6_row_24 : decode cX6_row 24 = .ok (.ireturn, 1) := by decide +kernel
theorem dX6_row_25 : decode cX6_row 25 = .ok (.aload_n 0, 1) := by decide +kernel
theorem dX6_row_26 : decode cX6_row 26 = .ok (.iload_n 1, 1) := by decide +kernel
theorem dX6_row_27 : decode cX6_row 27 = .ok (.iload_n 2, 1) := by decide +kernel
theorem dX6_row_28 : decode cX6_row 28 = .ok (.invokevirtual 83, 3) := by decide +kernel
theorem dX6_row_31 : decode cX6_row 31 = .ok (.iload_n 2, 1) := by decide +kernel
theorem dX6_row_32 : decode cX6_row 32 = .ok (.ireturn, 1) := by decide +kernel
def p6_row (a1 : Int32) (a2 : Int32) (M : SX) : Option (Int32 × SX) :=
  bd (p6_isRow a1 M) (fun r3 M2 => if r3 = 0 then (some ((-1), M2))
  else (if a2 ≤ (40 : Int32) then (if 0 ≤ a2 then (bv (p6_makeRow a1 a2 M2) (fun M8 => some (a2, M8)))
  else (bd (p6_find 5 M2) (fun r11 M10 => some (r11, M10))))
  else (some ((-1), M2))))
set_option maxHeartbeats 4000000 in
set_option maxRecDepth 100000 in
theorem c6_row {l : Launch} {G : XG} {r : Int32} {M' : SX} {M : SX} (a1 : Int32) (a2 : Int32) (hf : p6_row a1 a2 M = some (r, M')) : Met l yX6_row (.code yX6_row cX6_row 3 (some .int) :: TBL) (rmX 2) (xPc G ZY M [.ref (G.2.1 0), .int a1, .int a2]) (xQi G ZY r M') 0 0 (inA G ZY) := by
  refine x_met (cc := cX6_row) (by decide) (Nat.le_of_ble_eq_true rfl) ?_
  intro p e s m below meth c ls F hr hk hl hw
  have F : Fx G ZY p m c cX6_row 3 s [.ref (G.2.1 0), .int a1, .int a2].toArray RX6 := F
  have hl : lv_has ls 3 [(0, .ref (G.2.1 0)), (1, .int a1), (2, .int a2)] := hl
  have hx := F.1.1
  have hb := F.1.2.1
  unfold p6_row at hf
  refine lv_iload_n hx hb dX6_row_0 rfl (lv_at hl 1 rfl) ?_
  obtain ⟨r3, M2, hc1, hf⟩ := bd_some hf
  refine x_aftI hw (x_runS (rest := []) F hw hl.1 sw_RX6_75 (c6_isRow a1 hc1) rfl rfl (Nat.le_of_ble_eq_true rfl) ⟨Nat.le_of_ble_eq_true rfl, Nat.le_of_ble_eq_true rfl⟩ dX6_row_1) (fun H locs hw => ?_)
  refine lv_if_eq (tgt := 13) hx hb dX6_row_4 (by decide) (fun c4 => ?_) (fun c4 => ?_)
  · have hf := it_t hf c4
    refine lv_iconst (v := (-1)) hx hb dX6_row_13 (by decide) ?_
    exact x_iret F hw hr hk hf dX6_row_14
  · have hf := it_f hf c4
    refine lv_iload_n hx hb dX6_row_7 rfl (lv_at hl 2 rfl) ?_
    refine lv_bipush (v := 40) hx hb dX6_row_8 (by decide) ?_
    refine lv_icmp_le (tgt := 15) hx hb dX6_row_10 (by decide) (fun c5 => ?_) (fun c5 => ?_)
    · have hf := it_t hf c5
      refine lv_iload_n hx hb dX6_row_15 rfl (lv_at hl 2 rfl) ?_
      refine lv_if_ge (tgt := 25) hx hb dX6_row_16 (by decide) (fun c6 => ?_) (fun c6 => ?_)
      · have hf := it_t hf c6
        refine lv_aload_n hx hb dX6_row_25 rfl (lv_at hl 0 rfl) ?_
        refine lv_iload_n hx hb dX6_row_26 rfl (lv_at hl 1 rfl) ?_
        refine lv_iload_n hx hb dX6_row_27 rfl (lv_at hl 2 rfl) ?_
        obtain ⟨M8, hc7, hf⟩ := bv_some hf
        refine x_aftV hw (x_runV (rest := []) F hw hl.1 vw_RX6_83 (sM) rfl (c6_makeRow a1 a2 hc7) rfl rfl (Nat.le_of_ble_eq_true rfl) ⟨Nat.le_of_ble_eq_true rfl, Nat.le_of_ble_eq_true rfl⟩ dX6_row_28) (fun H locs hw => ?_)
        refine lv_iload_n hx hb dX6_row_31 rfl (lv_at hl 2 rfl) ?_
        exact x_iret F hw hr hk hf dX6_row_32
      · have hf := it_f hf c6
        refine lv_aload_n hx hb dX6_row_19 rfl (lv_at hl 0 rfl) ?_
        refine lv_iconst (v := 5) hx hb dX6_row_20 (by decide) ?_
        obtain ⟨r11, M10, hc9, hf⟩ := bd_some hf
        refine x_aftI hw (x_runV (rest := []) F hw hl.1 vw_RX6_79 (sM) rfl (c6_find 5 hc9) rfl rfl (Nat.le_of_ble_eq_true rfl) ⟨Nat.le_of_ble_eq_true rfl, Nat.le_of_ble_eq_true rfl⟩ dX6_row_21) (fun H locs hw => ?_)
        exact x_iret F hw hr hk hf dX6_row_24
    · have hf := it_f hf c5
      refine lv_iconst (v := (-1)) hx hb dX6_row_13 (by decide) ?_
      exact x_iret F hw hr hk hf dX6_row_14
