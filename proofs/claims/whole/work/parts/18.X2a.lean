theorem dX2_countOf_0 : decode cX2_countOf 0 = .ok (.aload_n 0, 1) := by decide +kernel
theorem dX2_countOf_1 : decode cX2_countOf 1 = .ok (.getfield 28, 3) := by decide +kernel
theorem dX2_countOf_4 : decode cX2_countOf 4 = .ok (.iload_n 1, 1) := by decide +kernel
theorem dX2_countOf_5 : decode cX2_countOf 5 = .ok (.iaload, 1) := by decide +kernel
theorem dX2_countOf_6 : decode cX2_countOf 6 = .ok (.ireturn, 1) := by decide +kernel
def p2_countOf (a1 : Int32) (M : SX) : Option (Int32 × SX) :=
  gd (bIn a1 64) ( some (M.1 58 (Int32.toNatClampNeg a1), M))
set_option maxHeartbeats 4000000 in
set_option maxRecDepth 100000 in
theorem c2_countOf {l : Launch} {G : XG} {r : Int32} {M' : SX} {M : SX} (a1 : Int32) (hf : p2_countOf a1 M = some (r, M')) : Met l yX2_countOf (.code yX2_countOf cX2_countOf 2 (some .int) :: TBL) (rmX 0) (xPc G ZX M [.ref (G.2.1 54), .int a1]) (xQi G ZX r M') 0 0 (inA G ZX) := by
  refine x_met (cc := cX2_countOf) (by decide) (Nat.le_of_ble_eq_true rfl) ?_
  intro p e s m below meth c ls F hr hk hl hw
  have F : Fx G ZX p m c cX2_countOf 2 s [.ref (G.2.1 54), .int a1].toArray RX2 := F
  have hl : lv_has ls 2 [(0, .ref (G.2.1 54)), (1, .int a1)] := hl
  have hx := F.1.1
  have hb := F.1.2.1
  unfold p2_countOf at hf
  refine lv_aload_n hx hb dX2_countOf_0 rfl (lv_at hl 0 rfl) ?_
  refine g2_5 F hw tw_232 dX2_countOf_1 ?_
  refine lv_iload_n hx hb dX2_countOf_4 rfl (lv_at hl 1 rfl) ?_
  obtain ⟨g1, hf⟩ := gd_some hf
  refine x_iald F hw sO58 g1 dX2_countOf_5 ?_
  exact x_iret F hw hr hk hf dX2_countOf_6
theorem dX2_stepsFrom_0 : decode cX2_stepsFrom 0 = .ok (.aload_n 0, 1) := by decide +kernel
theorem dX2_stepsFrom_1 : decode cX2_stepsFrom 1 = .ok (.getfield 28, 3) := by decide +kernel
theorem dX2_stepsFrom_4 : decode cX2_stepsFrom 4 = .ok (.iload_n 1, 1) := by decide +kernel
theorem dX2_stepsFrom_5 : decode cX2_stepsFrom 5 = .ok (.iaload, 1) := by decide +kernel
theorem dX2_stepsFrom_6 : decode cX2_stepsFrom 6 = .ok (.ldc 78, 2) := by decide +kernel
theorem dX2_stepsFrom_8 : decode cX2_stepsFrom 8 = .ok (.if_icmp .ge 12, 3) := by decide +kernel
theorem dX2_stepsFrom_11 : decode cX2_stepsFrom 11 = .ok (.aload_n 0, 1) := by decide +kernel
theorem dX2_stepsFrom_12 : decode cX2_stepsFrom 12 = .ok (.getfield 28, 3) := by decide +kernel
theorem dX2_stepsFrom_15 : decode cX2_stepsFrom 15 = .ok (.iload_n 1, 1) := by decide +kernel
theorem dX2_stepsFrom_16 : decode cX2_stepsFrom 16 = .ok (.iaload, 1) := by decide +kernel
theorem dX2_stepsFrom_17 : decode cX2_stepsFrom 17 = .ok (.goto 5, 3) := by decide +kernel
theorem dX2_stepsFrom_20 : decode cX2_stepsFrom 20 = .ok (.bipush (-9), 2) := by decide +kernel
theorem dX2_stepsFrom_22 : decode cX2_stepsFrom 22 = .ok (.ireturn, 1) := by decide +kernel
def p2_stepsFrom (a1 : Int32) (M : SX) : Option (Int32 × SX) :=
  gd (bIn a1 64) ( if (1000000 : Int32) ≤ (M.1 58 (Int32.toNatClampNeg a1)) then (some ((-9), M))
  else (some (M.1 58 (Int32.toNatClampNeg a1), M)))
set_option maxHeartbeats 4000000 in
set_option maxRecDepth 100000 in
theorem c2_stepsFrom {l : Launch} {G : XG} {r : Int32} {M' : SX} {M : SX} (a1 : Int32) (hf : p2_stepsFrom a1 M = some (r, M')) : Met l yX2_stepsFrom (.code yX2_stepsFrom cX2_stepsFrom 2 (some .int) :: TBL) (rmX 0) (xPc G ZX M [.ref (G.2.1 54), .int a1]) (xQi G ZX r M') 0 0 (inA G ZX) := by
  refine x_met (cc := cX2_stepsFrom) (by decide) (Nat.le_of_ble_eq_true rfl) ?_
  intro p e s m below meth c ls F hr hk hl hw
  have F : Fx G ZX p m c cX2_stepsFrom 2 s [.ref (G.2.1 54), .int a1].toArray RX2 := F
  have hl : lv_has ls 2 [(0, .ref (G.2.1 54)), (1, .int a1)] := hl
  have hx := F.1.1
  have hb := F.1.2.1
  unfold p2_stepsFrom at hf
  refine lv_aload_n hx hb dX2_stepsFrom_0 rfl (lv_at hl 0 rfl) ?_
  refine g2_5 F hw tw_232 dX2_stepsFrom_1 ?_
  refine lv_iload_n hx hb dX2_stepsFrom_4 rfl (lv_at hl 1 rfl) ?_
  obtain ⟨g1, hf⟩ := gd_some hf
  refine x_iald F hw sO58 g1 dX2_stepsFrom_5 ?_
  refine lv_ldc (v := 1000000) hx hb F.1.2.2.2.1 (F.1.2.2.2.2 _ tw_233) dX2_stepsFrom_6 ?_
  refine lv_icmp_ge (tgt := 20) hx hb dX2_stepsFrom_8 (by decide) (fun c2 => ?_) (fun c2 => ?_)
  · have hf := it_t hf c2
    refine lv_bipush (v := (-9)) hx hb dX2_stepsFrom_20 (by decide) ?_
    exact x_iret F hw hr hk hf dX2_stepsFrom_22
  · have hf := it_f hf c2
    refine lv_aload_n hx hb dX2_stepsFrom_11 rfl (lv_at hl 0 rfl) ?_
    refine g2_5 F hw tw_232 dX2_stepsFrom_12 ?_
    refine lv_iload_n hx hb dX2_stepsFrom_15 rfl (lv_at hl 1 rfl) ?_
    refine x_iald F hw sO58 g1 dX2_stepsFrom_16 ?_
    refine lv_goto (tgt := 22) hx hb dX2_stepsFrom_17 (by decide) ?_
    exact x_iret F hw hr hk hf dX2_stepsFrom_22
theorem dX2_cashAfter_0 : decode cX2_cashAfter 0 = .ok (.iload_n 1, 1) := by decide +kernel
theorem dX2_cashAfter_1 : decode cX2_cashAfter 1 = .ok (.iload_n 2, 1) := by decide +kernel
theorem dX2_cashAfter_2 : decode cX2_cashAfter 2 = .ok (.invokestatic 44, 3) := by decide +kernel
theorem dX2_cashAfter_5 : decode cX2_cashAfter 5 = .ok (.ifCond .eq 19, 3) := by decide +kernel
theorem dX2_cashAfter_8 : decode cX2_cashAfter 8 = .ok (.aload_n 0, 1) := by decide +kernel
theorem dX2_cashAfter_9 : decode cX2_cashAfter 9 = .ok (.getfield 18, 3) := by decide +kernel
theorem dX2_cashAfter_12 : decode cX2_cashAfter 12 = .ok (.iload_n 2, 1) := by decide +kernel
theorem dX2_cashAfter_13 : decode cX2_cashAfter 13 = .ok (.iaload, 1) := by decide +kernel
theorem dX2_cashAfter_14 : decode cX2_cashAfter 14 = .ok (.aload_n 0, 1) := by decide +kernel
theorem dX2_cashAfter_15 : decode cX2_cashAfter 15 = .ok (.getfield 25, 3) := by decide +kernel
theorem dX2_cashAfter_18 : decode cX2_cashAfter 18 = .ok (.iload_n 2, 1) := by decide +kernel
theorem dX2_cashAfter_19 : decode cX2_cashAfter 19 = .ok (.iaload, 1) := by decide +kernel
theorem dX2_cashAfter_20 : decode cX2_cashAfter 20 = .ok (.isub, 1) := by decide +kernel
theorem dX2_cashAfter_21 : decode cX2_cashAfter 21 = .ok (.goto 9, 3) := by decide +kernel
theorem dX2_cashAfter_24 : decode cX2_cashAfter 24 = .ok (.aload_n 0, 1) := by decide +kernel
theorem dX2_cashAfter_25 : decode cX2_cashAfter 25 = .ok (.getfield 18, 3) := by decide +kernel
theorem dX2_cashAfter_28 : decode cX2_cashAfter 28 = .ok (.iload_n 2, 1) := by decide +kernel
theorem dX2_cashAfter_29 : decode cX2_cashAfter 29 = .ok (.iaload, 1) := by decide +kernel
theorem dX2_cashAfter_30 : decode cX2_cashAfter 30 = .ok (.istore_n 3, 1) := by decide +kernel
theorem dX2_cashAfter_31 : decode cX2_cashAfter 31 = .ok (.iconst 0, 1) := by decide +kernel
theorem dX2_cashAfter_32 : decode cX2_cashAfter 32 = .ok (.istore 4, 2) := by decide +kernel
theorem dX2_cashAfter_34 : decode cX2_cashAfter 34 = .ok (.iload 4, 2) := by decide +kernel
theorem dX2_cashAfter_36 : decode cX2_cashAfter 36 = .ok (.aload_n 0, 1) := by decide +kernel
theorem dX2_cashAfter_37 : decode cX2_cashAfter 37 = .ok (.getfield 9, 3) := by decide +kernel
theorem dX2_cashAfter_40 : decode cX2_cashAfter 40 = .ok (.if_icmp .ge 39, 3) := by decide +kernel
theorem dX2_cashAfter_43 : decode cX2_cashAfter 43 = .ok (.aload_n 0, 1) := by decide +kernel
theorem dX2_cashAfter_44 : decode cX2_cashAfter 44 = .ok (.getfield 22, 3) := by decide +kernel
theorem dX2_cashAfter_47 : decode cX2_cashAfter 47 = .ok (.iload 4, 2) := by decide +kernel
theorem dX2_cashAfter_49 : decode cX2_cashAfter 49 = .ok (.iaload, 1) := by decide +kernel
theorem dX2_cashAfter_50 : decode cX2_cashAfter 50 = .ok (.iload_n 2, 1) := by decide +kernel
theorem dX2_cashAfter_51 : decode cX2_cashAfter 51 = .ok (.if_icmp .ne 22, 3) := by decide +kernel
theorem dX2_cashAfter_54 : decode cX2_cashAfter 54 = .ok (.iload_n 1, 1) := by decide +kernel
theorem dX2_cashAfter_55 : decode cX2_cashAfter 55 = .ok (.iload 4, 2) := by decide +kernel
theorem dX2_cashAfter_57 : decode cX2_cashAfter 57 = .ok (.invokestatic 44, 3) := by decide +kernel
theorem dX2_cashAfter_60 : decode cX2_cashAfter 60 = .ok (.ifCond .eq 13, 3) := by decide +kernel
theorem dX2_cashAfter_63 : decode cX2_cashAfter 63 = .ok (.iload_n 3, 1) := by decide +kernel
theorem dX2_cashAfter_64 : decode cX2_cashAfter 64 = .ok (.aload_n 0, 1) := by decide +kernel
theorem dX2_cashAfter_65 : decode cX2_cashAfter 65 = .ok (.getfield 25, 3) := by decide +kernel
theorem dX2_cashAfter_68 : decode cX2_cashAfter 68 = .ok (.iload 4, 2) := by decide +kernel
theorem dX2_cashAfter_70 : decode cX2_cashAfter 70 = .ok (.iaload, 1) := by decide +kernel
theorem dX2_cashAfter_71 : decode cX2_cashAfter 71 = .ok (.iadd, 1) := by decide +kernel
theorem dX2_cashAfter_72 : decode cX2_cashAfter 72 = .ok (.istore_n 3, 1) := by decide +kernel
theorem dX2_cashAfter_73 : decode cX2_cashAfter 73 = .ok (.iinc 4 1, 3) := by decide +kernel
theorem dX2_cashAfter_76 : decode cX2_cashAfter 76 = .ok (.goto (-42), 3) := by decide +kernel
theorem dX2_cashAfter_79 : decode cX2_cashAfter 79 = .ok (.iload_n 3, 1) := by decide +kernel
theorem dX2_cashAfter_80 : decode cX2_cashAfter 80 = .ok (.ireturn, 1) := by decide +kernel
def p2_cashAfter_73 (k34 : Int32 → Int32 → Int32 → Int32 → SX → Option (Int32 × SX)) (v1 : Int32) (v2 : Int32) (v3 : Int32) (v4 : Int32) (M : SX) : Option (Int32 × SX) :=
  lt_ (v4 + 1) (fun x1 => k34 v1 v2 v3 x1 M)
set_option maxHeartbeats 4000000 in
set_option maxRecDepth 100000 in
theorem w2_cashAfter_73 {G : XG} {p : Program} {l : Launch} {e : Env} {s : State} {m : MethodId} {args : Array Value} {below : List Frame} {meth : Method} {c : Code} (F : Fx G ZX p m c cX2_cashAfter 5 s args RX2) (hr : meth.sig.returnType = some .int) (hk : meth.locks = false) {r : Int32} {M' : SX} (k34 : Int32 → Int32 → Int32 → Int32 → SX → Option (Int32 × SX)) (hk34 : ∀ (v1 : Int32) (v2 : Int32) (v3 : Int32) (v4 : Int32) (M : SX) (H : Heap) (locs : List Loc) (ls : Array Slot), Wld G ZX M s.heap H locs → lv_has ls 5 [(0, .ref (G.2.1 54)), (1, .int v1), (2, .int v2), (3, .int v3), (4, .int v4)] → k34 v1 v2 v3 v4 M = some (r, M') → WXi G ZX p l e 1 s m args below meth c r M' H locs (F0 m 34 ls [])) : ∀ (v1 : Int32) (v2 : Int32) (v3 : Int32) (v4 : Int32) (M : SX) (H : Heap) (locs : List Loc) (ls : Array Slot), Wld G ZX M s.heap H locs → lv_has ls 5 [(0, .ref (G.2.1 54)), (1, .int v1), (2, .int v2), (3, .int v3), (4, .int v4)] → p2_cashAfter_73 k34 v1 v2 v3 v4 M = some (r, M') → WXi G ZX p l e 1 s m args below meth c r M' H locs (F0 m 73 ls []) := by
  intro v1 v2 v3 v4 M H locs ls hw hl hf
  have hx := F.1.1
  have hb := F.1.2.1
  unfold p2_cashAfter_73 at hf
  obtain ⟨x1, ex1, hf⟩ := lt_elim hf
  refine lv_iinc (v := x1) (lv' := [(4, .int x1), (0, .ref (G.2.1 54)), (1, .int v1), (2, .int v2), (3, .int v3)]) hx hb dX2_cashAfter_73 hl (k := 4) rfl (by rw [ex1]; rfl) (by decide) rfl (fun ls hl => ?_)
  refine lv_goto (tgt := 34) hx hb dX2_cashAfter_76 (by decide) ?_
  exact hk34 v1 v2 v3 x1 M _ _ ls hw (lv_sub hl [1, 2, 3, 4, 0] rfl) hf
def p2_cashAfter_34 (k34 : Int32 → Int32 → Int32 → Int32 → SX → Option (Int32 × SX)) (v1 : Int32) (v2 : Int32) (v3 : Int32) (v4 : Int32) (M : SX) : Option (Int32 × SX) :=
  if (M.1 54 0) ≤ v4 then (some (v3, M))
  else (gd (bIn v4 6) ( if (M.1 56 (Int32.toNatClampNeg v4)) = v2 then (bd (p5_isIn v1 v4 M) (fun r6 M5 => if r6 = 0 then (p2_cashAfter_73 k34 v1 v2 v3 v4 M5)
  else (lt_ (v3 + (M5.1 57 (Int32.toNatClampNeg v4))) (fun x8 => p2_cashAfter_73 k34 v1 v2 x8 v4 M5))))
  else (p2_cashAfter_73 k34 v1 v2 v3 v4 M)))
set_option maxHeartbeats 4000000 in
set_option maxRecDepth 100000 in
theorem w2_cashAfter_34 {G : XG} {p : Program} {l : Launch} {e : Env} {s : State} {m : MethodId} {args : Array Value} {below : List Frame} {meth : Method} {c : Code} (F : Fx G ZX p m c cX2_cashAfter 5 s args RX2) (hr : meth.sig.returnType = some .int) (hk : meth.locks = false) {r : Int32} {M' : SX} (k34 : Int32 → Int32 → Int32 → Int32 → SX → Option (Int32 × SX)) (hk34 : ∀ (v1 : Int32) (v2 : Int32) (v3 : Int32) (v4 : Int32) (M : SX) (H : Heap) (locs : List Loc) (ls : Array Slot), Wld G ZX M s.heap H locs → lv_has ls 5 [(0, .ref (G.2.1 54)), (1, .int v1), (2, .int v2), (3, .int v3), (4, .int v4)] → k34 v1 v2 v3 v4 M = some (r, M') → WXi G ZX p l e 1 s m args below meth c r M' H locs (F0 m 34 ls [])) : ∀ (v1 : Int32) (v2 : Int32) (v3 : Int32) (v4 : Int32) (M : SX) (H : Heap) (locs : List Loc) (ls : Array Slot), Wld G ZX M s.heap H locs → lv_has ls 5 [(0, .ref (G.2.1 54)), (1, .int v1), (2, .int v2), (3, .int v3), (4, .int v4)] → p2_cashAfter_34 k34 v1 v2 v3 v4 M = some (r, M') → WXi G ZX p l e 1 s m args below meth c r M' H locs (F0 m 34 ls []) := by
  intro v1 v2 v3 v4 M H locs ls hw hl hf
  have hx := F.1.1
  have hb := F.1.2.1
  unfold p2_cashAfter_34 at hf
  refine lv_iload hx hb dX2_cashAfter_34 (lv_at hl 4 rfl) ?_
  refine lv_aload_n hx hb dX2_cashAfter_36 rfl (lv_at hl 0 rfl) ?_
  refine g2_0 F hw tw_234 dX2_cashAfter_37 ?_
  refine lv_icmp_ge (tgt := 79) hx hb dX2_cashAfter_40 (by decide) (fun c1 => ?_) (fun c1 => ?_)
  · have hf := it_t hf c1
    refine lv_iload_n hx hb dX2_cashAfter_79 rfl (lv_at hl 3 rfl) ?_
    exact x_iret F hw hr hk hf dX2_cashAfter_80
  · have hf := it_f hf c1
    refine lv_aload_n hx hb dX2_cashAfter_43 rfl (lv_at hl 0 rfl) ?_
    refine g2_3 F hw tw_235 dX2_cashAfter_44 ?_
    refine lv_iload hx hb dX2_cashAfter_47 (lv_at hl 4 rfl) ?_
    obtain ⟨g2, hf⟩ := gd_some hf
    refine x_iald F hw sO56 g2 dX2_cashAfter_49 ?_
    refine lv_iload_n hx hb dX2_cashAfter_50 rfl (lv_at hl 2 rfl) ?_
    refine lv_icmp_ne (tgt := 73) hx hb dX2_cashAfter_51 (by decide) (fun c3 => ?_) (fun c3 => ?_)
    · have hf := it_f hf c3
      exact w2_cashAfter_73 F hr hk k34 hk34 v1 v2 v3 v4 M _ _ ls hw (lv_sub hl [0, 1, 2, 3, 4] rfl) hf
    · have hf := it_t hf c3
      refine lv_iload_n hx hb dX2_cashAfter_54 rfl (lv_at hl 1 rfl) ?_
      refine lv_iload hx hb dX2_cashAfter_55 (lv_at hl 4 rfl) ?_
      obtain ⟨r6, M5, hc4, hf⟩ := bd_some hf
      refine x_aftI hw (x_runN (rest := []) F hw hl.1 nn_RX2_44 (c5_isIn v1 v4 hc4) rfl rfl (Nat.le_of_ble_eq_true rfl) ⟨Nat.le_of_ble_eq_true rfl, Nat.le_of_ble_eq_true rfl⟩ dX2_cashAfter_57) (fun H locs hw => ?_)
      refine lv_if_eq (tgt := 73) hx hb dX2_cashAfter_60 (by decide) (fun c7 => ?_) (fun c7 => ?_)
      · have hf := it_t hf c7
        exact w2_cashAfter_73 F hr hk k34 hk34 v1 v2 v3 v4 M5 _ _ ls hw (lv_sub hl [0, 1, 2, 3, 4] rfl) hf
      · have hf := it_f hf c7
        refine lv_iload_n hx hb dX2_cashAfter_63 rfl (lv_at hl 3 rfl) ?_
        refine lv_aload_n hx hb dX2_cashAfter_64 rfl (lv_at hl 0 rfl) ?_
        refine g2_4 F hw tw_237 dX2_cashAfter_65 ?_
        refine lv_iload hx hb dX2_cashAfter_68 (lv_at hl 4 rfl) ?_
        refine x_iald F hw sO57 g2 dX2_cashAfter_70 ?_
        refine lv_iadd hx hb dX2_cashAfter_71 ?_
        obtain ⟨x8, ex8, hf⟩ := lt_elim hf
        refine x_let ex8 ?_
        refine lv_istore_n (lv' := [(3, .int x8), (0, .ref (G.2.1 54)), (1, .int v1), (2, .int v2), (4, .int v4)]) hx hb dX2_cashAfter_72 rfl hl (by decide) rfl (fun ls hl => ?_)
        exact w2_cashAfter_73 F hr hk k34 hk34 v1 v2 x8 v4 M5 _ _ ls hw (lv_sub hl [1, 2, 3, 0, 4] rfl) hf
theorem z2_cashAfter_34 {G : XG} {p : Program} {l : Launch} {e : Env} {s : State} {m : MethodId} {args : Array Value} {below : List Frame} {meth : Method} {c : Code} (F : Fx G ZX p m c cX2_cashAfter 5 s args RX2) (hr : meth.sig.returnType = some .int) (hk : meth.locks = false) {r : Int32} {M' : SX} : ∀ n : Nat, ∀ (v1 : Int32) (v2 : Int32) (v3 : Int32) (v4 : Int32) (M : SX) (H : Heap) (locs : List Loc) (ls : Array Slot), Wld G ZX M s.heap H locs → lv_has ls 5 [(0, .ref (G.2.1 54)), (1, .int v1), (2, .int v2), (3, .int v3), (4, .int v4)] → xlp4 p2_cashAfter_34 n v1 v2 v3 v4 M = some (r, M') → WXi G ZX p l e 1 s m args below meth c r M' H locs (F0 m 34 ls []) := by
  intro n
  induction n with
  | zero => intro _ _ _ _ _ _ _ _ _ _ hf; cases hf
  | succ n ih => exact w2_cashAfter_34 F hr hk (xlp4 p2_cashAfter_34 n) ih
def p2_cashAfter_30 (v1 : Int32) (v2 : Int32) (t0 : Int32) (M : SX) : Option (Int32 × SX) :=
  xlp4 p2_cashAfter_34 FU v1 v2 t0 0 M
set_option maxHeartbeats 4000000 in
set_option maxRecDepth 100000 in
theorem w2_cashAfter_30 {G : XG} {p : Program} {l : Launch} {e : Env} {s : State} {m : MethodId} {args : Array Value} {below : List Frame} {meth : Method} {c : Code} (F : Fx G ZX p m c cX2_cashAfter 5 s args RX2) (hr : meth.sig.returnType = some .int) (hk : meth.locks = false) {r : Int32} {M' : SX} : ∀ (v1 : Int32) (v2 : Int32) (t0 : Int32) (M : SX) (H : Heap) (locs : List Loc) (ls : Array Slot), Wld G ZX M s.heap H locs → lv_has ls 5 [(0, .ref (G.2.1 54)), (1, .int v1), (2, .int v2)] → p2_cashAfter_30 v1 v2 t0 M = some (r, M') → WXi G ZX p l e 1 s m args below meth c r M' H locs (F0 m 30 ls [.int t0]) := by
  intro v1 v2 t0 M H locs ls hw hl hf
  have hx := F.1.1
  have hb := F.1.2.1
  unfold p2_cashAfter_30 at hf
  refine lv_istore_n (lv' := [(3, .int t0), (0, .ref (G.2.1 54)), (1, .int v1), (2, .int v2)]) hx hb dX2_cashAfter_30 rfl hl (by decide) rfl (fun ls hl => ?_)
  refine lv_iconst (v := 0) hx hb dX2_cashAfter_31 (by decide) ?_
  refine lv_istore (lv' := [(4, .int 0), (3, .int t0), (0, .ref (G.2.1 54)), (1, .int v1), (2, .int v2)]) hx hb dX2_cashAfter_32 hl (by decide) rfl (fun ls hl => ?_)
  exact z2_cashAfter_34 F hr hk FU v1 v2 t0 0 M _ _ ls hw (lv_sub hl [2, 3, 4, 1, 0] rfl) hf
def p2_cashAfter (a1 : Int32) (a2 : Int32) (M : SX) : Option (Int32 × SX) :=
  bd (p5_isIn a1 a2 M) (fun r3 M2 => if r3 = 0 then (gd (bIn a2 6) ( p2_cashAfter_30 a1 a2 (M2.1 55 (Int32.toNatClampNeg a2)) M2))
  else (gd (bIn a2 6) ( p2_cashAfter_30 a1 a2 ((M2.1 55 (Int32.toNatClampNeg a2)) - (M2.1 57 (Int32.toNatClampNeg a2))) M2)))
set_option maxHeartbeats 4000000 in
set_option maxRecDepth 100000 in
theorem c2_cashAfter {l : Launch} {G : XG} {r : Int32} {M' : SX} {M : SX} (a1 : Int32) (a2 : Int32) (hf : p2_cashAfter a1 a2 M = some (r, M')) : Met l yX2_cashAfter (.code yX2_cashAfter cX2_cashAfter 5 (some .int) :: TBL) (rmX 1) (xPc G ZX M [.ref (G.2.1 54), .int a1, .int a2]) (xQi G ZX r M') 0 0 (inA G ZX) := by
  refine x_met (cc := cX2_cashAfter) (by decide) (Nat.le_of_ble_eq_true rfl) ?_
  intro p e s m below meth c ls F hr hk hl hw
  have F : Fx G ZX p m c cX2_cashAfter 5 s [.ref (G.2.1 54), .int a1, .int a2].toArray RX2 := F
  have hl : lv_has ls 5 [(0, .ref (G.2.1 54)), (1, .int a1), (2, .int a2)] := hl
  have hx := F.1.1
  have hb := F.1.2.1
  unfold p2_cashAfter at hf
  refine lv_iload_n hx hb dX2_cashAfter_0 rfl (lv_at hl 1 rfl) ?_
  refine lv_iload_n hx hb dX2_cashAfter_1 rfl (lv_at hl 2 rfl) ?_
  obtain ⟨r3, M2, hc1, hf⟩ := bd_some hf
  refine x_aftI hw (x_runN (rest := []) F hw hl.1 nn_RX2_44 (c5_isIn a1 a2 hc1) rfl rfl (Nat.le_of_ble_eq_true rfl) ⟨Nat.le_of_ble_eq_true rfl, Nat.le_of_ble_eq_true rfl⟩ dX2_cashAfter_2) (fun H locs hw => ?_)
  refine lv_if_eq (tgt := 24) hx hb dX2_cashAfter_5 (by decide) (fun c4 => ?_) (fun c4 => ?_)
  · have hf := it_t hf c4
    refine lv_aload_n hx hb dX2_cashAfter_24 rfl (lv_at hl 0 rfl) ?_
    refine g2_2 F hw tw_238 dX2_cashAfter_25 ?_
    refine lv_iload_n hx hb dX2_cashAfter_28 rfl (lv_at hl 2 rfl) ?_
    obtain ⟨g5, hf⟩ := gd_some hf
    refine x_iald F hw sO55 g5 dX2_cashAfter_29 ?_
    exact w2_cashAfter_30 F hr hk a1 a2 (M2.1 55 (Int32.toNatClampNeg a2)) M2 _ _ ls hw (lv_sub hl [0, 1, 2] rfl) hf
  · have hf := it_f hf c4
    refine lv_aload_n hx hb dX2_cashAfter_8 rfl (lv_at hl 0 rfl) ?_
    refine g2_2 F hw tw_238 dX2_cashAfter_9 ?_
    refine lv_iload_n hx hb dX2_cashAfter_12 rfl (lv_at hl 2 rfl) ?_
    obtain ⟨g6, hf⟩ := gd_some hf
    refine x_iald F hw sO55 g6 dX2_cashAfter_13 ?_
    refine lv_aload_n hx hb dX2_cashAfter_14 rfl (lv_at hl 0 rfl) ?_
    refine g2_4 F hw tw_237 dX2_cashAfter_15 ?_
    refine lv_iload_n hx hb dX2_cashAfter_18 rfl (lv_at hl 2 rfl) ?_
    refine x_iald F hw sO57 g6 dX2_cashAfter_19 ?_
    refine lv_isub hx hb dX2_cashAfter_20 ?_
    refine lv_goto (tgt := 30) hx hb dX2_cashAfter_21 (by decide) ?_
    exact w2_cashAfter_30 F hr hk a1 a2 ((M2.1 55 (Int32.toNatClampNeg a2)) - (M2.1 57 (Int32.toNatClampNeg a2))) M2 _ _ ls hw (lv_sub hl [0, 1, 2] rfl) hf
theorem dX2_isLeft_0 : decode cX2_isLeft 0 = .ok (.aload_n 0, 1) := by decide +kernel
theorem dX2_isLeft_1 : decode cX2_isLeft 1 = .ok (.getfield 15, 3) := by decide +kernel
theorem dX2_isLeft_4 : decode cX2_isLeft 4 = .ok (.iload_n 1, 1) := by decide +kernel
theorem dX2_isLeft_5 : decode cX2_isLeft 5 = .ok (.iconst (-1), 1) := by decide +kernel
theorem dX2_isLeft_6 : decode cX2_isLeft 6 = .ok (.ixor, 1) := by decide +kernel
theorem dX2_isLeft_7 : decode cX2_isLeft 7 = .ok (.iand, 1) := by decide +kernel
theorem dX2_isLeft_8 : decode cX2_isLeft 8 = .ok (.iload_n 2, 1) := by decide +kernel
theorem dX2_isLeft_9 : decode cX2_isLeft 9 = .ok (.invokestatic 44, 3) := by decide +kernel
theorem dX2_isLeft_12 : decode cX2_isLeft 12 = .ok (.ireturn, 1) := by decide +kernel
def p2_isLeft (a1 : Int32) (a2 : Int32) (M : SX) : Option (Int32 × SX) :=
  bd (p5_isIn ((M.1 54 1) &&& (a1 ^^^ (-1))) a2 M) (fun r3 M2 => gd (isB r3) ( some (r3, M2)))
set_option maxHeartbeats 4000000 in
set_option maxRecDepth 100000 in
theorem c2_isLeft {l : Launch} {G : XG} {r : Int32} {M' : SX} {M : SX} (a1 : Int32) (a2 : Int32) (hf : p2_isLeft a1 a2 M = some (r, M')) : Met l yX2_isLeft (.code yX2_isLeft cX2_isLeft 3 (some .boolean) :: TBL) (rmX 1) (xPc G ZX M [.ref (G.2.1 54), .int a1, .int a2]) (xQi G ZX r M') 0 0 (inA G ZX) := by
  refine x_met (cc := cX2_isLeft) (by decide) (Nat.le_of_ble_eq_true rfl) ?_
  intro p e s m below meth c ls F hr hk hl hw
  have F : Fx G ZX p m c cX2_isLeft 3 s [.ref (G.2.1 54), .int a1, .int a2].toArray RX2 := F
  have hl : lv_has ls 3 [(0, .ref (G.2.1 54)), (1, .int a1), (2, .int a2)] := hl
  have hx := F.1.1
  have hb := F.1.2.1
  unfold p2_isLeft at hf
  refine lv_aload_n hx hb dX2_isLeft_0 rfl (lv_at hl 0 rfl) ?_
  refine g2_1 F hw tw_239 dX2_isLeft_1 ?_
  refine lv_iload_n hx hb dX2_isLeft_4 rfl (lv_at hl 1 rfl) ?_
  refine lv_iconst (v := (-1)) hx hb dX2_isLeft_5 (by decide) ?_
  refine lv_ixor hx hb dX2_isLeft_6 ?_
  refine lv_iand hx hb dX2_isLeft_7 ?_
  refine lv_iload_n hx hb dX2_isLeft_8 rfl (lv_at hl 2 rfl) ?_
  obtain ⟨r3, M2, hc1, hf⟩ := bd_some hf
  refine x_aftI hw (x_runN (rest := []) F hw hl.1 nn_RX2_44 (c5_isIn ((M.1 54 1) &&& (a1 ^^^ (-1))) a2 hc1) rfl rfl (Nat.le_of_ble_eq_true rfl) ⟨Nat.le_of_ble_eq_true rfl, Nat.le_of_ble_eq_true rfl⟩ dX2_isLeft_9) (fun H locs hw => ?_)
  obtain ⟨g4, hf⟩ := gd_some hf
  exact x_zret F hw hr hk (isB_nar g4) hf dX2_isLeft_12
theorem dX2_largest_0 : decode cX2_largest 0 = .ok (.iconst 0, 1) := by decide +kernel
theorem dX2_largest_1 : decode cX2_largest 1 = .ok (.istore_n 1, 1) := by decide +kernel
theorem dX2_largest_2 : decode cX2_largest 2 = .ok (.iconst 0, 1) := by decide +kernel
theorem dX2_largest_3 : decode cX2_largest 3 = .ok (.istore_n 2, 1) := by decide +kernel
theorem dX2_largest_4 : decode cX2_largest 4 = .ok (.iload_n 2, 1) := by decide +kernel
theorem dX2_largest_5 : decode cX2_largest 5 = .ok (.bipush 64, 2) := by decide +kernel
theorem dX2_largest_7 : decode cX2_largest 7 = .ok (.if_icmp .ge 31, 3) := by decide +kernel
theorem dX2_largest_10 : decode cX2_largest 10 = .ok (.aload_n 0, 1) := by decide +kernel
theorem dX2_largest_11 : decode cX2_largest 11 = .ok (.getfield 28, 3) := by decide +kernel
theorem dX2_largest_14 : decode cX2_largest 14 = .ok (.iload_n 2, 1) := by decide +kernel
theorem dX2_largest_15 : decode cX2_largest 15 = .ok (.iaload, 1) := by decide +kernel
theorem dX2_largest_16 : decode cX2_largest 16 = .ok (.ifCond .le 16, 3) := by decide +kernel
theorem dX2_largest_19 : decode cX2_largest 19 = .ok (.iload_n 2, 1) := by decide +kernel
theorem dX2_largest_20 : decode cX2_largest 20 = .ok (.invokestatic 57, 3) := by decide +kernel
theorem dX2_largest_23 : decode cX2_largest 23 = .ok (.iload_n 1, 1) := by decide +kernel
theorem dX2_largest_24 : decode cX2_largest 24 = .ok (.invokestatic 57, 3) := by decide +kernel
theorem dX2_largest_27 : decode cX2_largest 27 = .ok (.if_icmp .le 5, 3) := by decide +kernel
theorem dX2_largest_30 : decode cX2_largest 30 = .ok (.iload_n 2, 1) := by decide +kernel
theorem dX2_largest_31 : decode cX2_largest 31 = .ok (.istore_n 1, 1) := by decide +kernel
theorem dX2_largest_32 : decode cX2_largest 32 = .ok (.iinc 2 1, 3) := by decide +kernel
theorem dX2_largest_35 : decode cX2_largest 35 = .ok (.goto (-31), 3) := by decide +kernel
theorem dX2_largest_38 : decode cX2_largest 38 = .ok (.iload_n 1, 1) := by decide +kernel
theorem dX2_largest_39 : decode cX2_largest 39 = .ok (.ireturn, 1) := by decide +kernel
def p2_largest_32 (k4 : Int32 → Int32 → SX → Option (Int32 × SX)) (v1 : Int32) (v2 : Int32) (M : SX) : Option (Int32 × SX) :=
  lt_ (v2 + 1) (fun x1 => k4 v1 x1 M)
set_option maxHeartbeats 4000000 in
set_option maxRecDepth 100000 in
theorem w2_largest_32 {G : XG} {p : Program} {l : Launch} {e : Env} {s : State} {m : MethodId} {args : Array Value} {below : List Frame} {meth : Method} {c : Code} (F : Fx G ZX p m c cX2_largest 3 s args RX2) (hr : meth.sig.returnType = some .int) (hk : meth.locks = false) {r : Int32} {M' : SX} (k4 : Int32 → Int32 → SX → Option (Int32 × SX)) (hk4 : ∀ (v1 : Int32) (v2 : Int32) (M : SX) (H : Heap) (locs : List Loc) (ls : Array Slot), Wld G ZX M s.heap H locs → lv_has ls 3 [(0, .ref (G.2.1 54)), (1, .int v1), (2, .int v2)] → k4 v1 v2 M = some (r, M') → WXi G ZX p l e 1 s m args below meth c r M' H locs (F0 m 4 ls [])) : ∀ (v1 : Int32) (v2 : Int32) (M : SX) (H : Heap) (locs : List Loc) (ls : Array Slot), Wld G ZX M s.heap H locs → lv_has ls 3 [(0, .ref (G.2.1 54)), (1, .int v1), (2, .int v2)] → p2_largest_32 k4 v1 v2 M = some (r, M') → WXi G ZX p l e 1 s m args below meth c r M' H locs (F0 m 32 ls []) := by
  intro v1 v2 M H locs ls hw hl hf
  have hx := F.1.1
  have hb := F.1.2.1
  unfold p2_largest_32 at hf
  obtain ⟨x1, ex1, hf⟩ := lt_elim hf
  refine lv_iinc (v := x1) (lv' := [(2, .int x1), (0, .ref (G.2.1 54)), (1, .int v1)]) hx hb dX2_largest_32 hl (k := 2) rfl (by rw [ex1]; rfl) (by decide) rfl (fun ls hl => ?_)
  refine lv_goto (tgt := 4) hx hb dX2_largest_35 (by decide) ?_
  exact hk4 v1 x1 M _ _ ls hw (lv_sub hl [1, 2, 0] rfl) hf
def p2_largest_4 (k4 : Int32 → Int32 → SX → Option (Int32 × SX)) (v1 : Int32) (v2 : Int32) (M : SX) : Option (Int32 × SX) :=
  if (64 : Int32) ≤ v2 then (some (v1, M))
  else (gd (bIn v2 64) ( if (M.1 58 (Int32.toNatClampNeg v2)) ≤ 0 then (p2_largest_32 k4 v1 v2 M)
  else (bd (pj_bits v2 M) (fun r6 M5 => bd (pj_bits v1 M5) (fun r9 M8 => if r6 ≤ r9 then (p2_largest_32 k4 v1 v2 M8)
  else (p2_largest_32 k4 v2 v2 M8))))))
set_option maxHeartbeats 4000000 in
set_option maxRecDepth 100000 in
theorem w2_largest_4 {G : XG} {p : Program} {l : Launch} {e : Env} {s : State} {m : MethodId} {args : Array Value} {below : List Frame} {meth : Method} {c : Code} (F : Fx G ZX p m c cX2_largest 3 s args RX2) (hr : meth.sig.returnType = some .int) (hk : meth.locks = false) {r : Int32} {M' : SX} (k4 : Int32 → Int32 → SX → Option (Int32 × SX)) (hk4 : ∀ (v1 : Int32) (v2 : Int32) (M : SX) (H : Heap) (locs : List Loc) (ls : Array Slot), Wld G ZX M s.heap H locs → lv_has ls 3 [(0, .ref (G.2.1 54)), (1, .int v1), (2, .int v2)] → k4 v1 v2 M = some (r, M') → WXi G ZX p l e 1 s m args below meth c r M' H locs (F0 m 4 ls [])) : ∀ (v1 : Int32) (v2 : Int32) (M : SX) (H : Heap) (locs : List Loc) (ls : Array Slot), Wld G ZX M s.heap H locs → lv_has ls 3 [(0, .ref (G.2.1 54)), (1, .int v1), (2, .int v2)] → p2_largest_4 k4 v1 v2 M = some (r, M') → WXi G ZX p l e 1 s m args below meth c r M' H locs (F0 m 4 ls []) := by
  intro v1 v2 M H locs ls hw hl hf
  have hx := F.1.1
  have hb := F.1.2.1
  unfold p2_largest_4 at hf
  refine lv_iload_n hx hb dX2_largest_4 rfl (lv_at hl 2 rfl) ?_
  refine lv_bipush (v := 64) hx hb dX2_largest_5 (by decide) ?_
  refine lv_icmp_ge (tgt := 38) hx hb dX2_largest_7 (by decide) (fun c1 => ?_) (fun c1 => ?_)
  · have hf := it_t hf c1
    refine lv_iload_n hx hb dX2_largest_38 rfl (lv_at hl 1 rfl) ?_
    exact x_iret F hw hr hk hf dX2_largest_39
  · have hf := it_f hf c1
    refine lv_aload_n hx hb dX2_largest_10 rfl (lv_at hl 0 rfl) ?_
    refine g2_5 F hw tw_232 dX2_largest_11 ?_
    refine lv_iload_n hx hb dX2_largest_14 rfl (lv_at hl 2 rfl) ?_
    obtain ⟨g2, hf⟩ := gd_some hf
    refine x_iald F hw sO58 g2 dX2_largest_15 ?_
    refine lv_if_le (tgt := 32) hx hb dX2_largest_16 (by decide) (fun c3 => ?_) (fun c3 => ?_)
    · have hf := it_t hf c3
      exact w2_largest_32 F hr hk k4 hk4 v1 v2 M _ _ ls hw (lv_sub hl [0, 1, 2] rfl) hf
    · have hf := it_f hf c3
      refine lv_iload_n hx hb dX2_largest_19 rfl (lv_at hl 2 rfl) ?_
      obtain ⟨r6, M5, hc4, hf⟩ := bd_some hf
      refine x_aftI hw (x_runS (rest := []) F hw hl.1 sw_RX2_57 (cj_bits v2 hc4) rfl rfl (Nat.le_of_ble_eq_true rfl) ⟨Nat.le_of_ble_eq_true rfl, Nat.le_of_ble_eq_true rfl⟩ dX2_largest_20) (fun H locs hw => ?_)
      refine lv_iload_n hx hb dX2_largest_23 rfl (lv_at hl 1 rfl) ?_
      obtain ⟨r9, M8, hc7, hf⟩ := bd_some hf
      refine x_aftI hw (x_runS (rest := [.int r6]) F hw hl.1 sw_RX2_57 (cj_bits v1 hc7) rfl rfl (Nat.le_of_ble_eq_true rfl) ⟨Nat.le_of_ble_eq_true rfl, Nat.le_of_ble_eq_true rfl⟩ dX2_largest_24) (fun H locs hw => ?_)
      refine lv_icmp_le (tgt := 32) hx hb dX2_largest_27 (by decide) (fun c10 => ?_) (fun c10 => ?_)
      · have hf := it_t hf c10
        exact w2_largest_32 F hr hk k4 hk4 v1 v2 M8 _ _ ls hw (lv_sub hl [0, 1, 2] rfl) hf
      · have hf := it_f hf c10
        refine lv_iload_n hx hb dX2_largest_30 rfl (lv_at hl 2 rfl) ?_
        refine lv_istore_n (lv' := [(1, .int v2), (0, .ref (G.2.1 54)), (2, .int v2)]) hx hb dX2_largest_31 rfl hl (by decide) rfl (fun ls hl => ?_)
        exact w2_largest_32 F hr hk k4 hk4 v2 v2 M8 _ _ ls hw (lv_sub hl [1, 0, 2] rfl) hf
theorem z2_largest_4 {G : XG} {p : Program} {l : Launch} {e : Env} {s : State} {m : MethodId} {args : Array Value} {below : List Frame} {meth : Method} {c : Code} (F : Fx G ZX p m c cX2_largest 3 s args RX2) (hr : meth.sig.returnType = some .int) (hk : meth.locks = false) {r : Int32} {M' : SX} : ∀ n : Nat, ∀ (v1 : Int32) (v2 : Int32) (M : SX) (H : Heap) (locs : List Loc) (ls : Array Slot), Wld G ZX M s.heap H locs → lv_has ls 3 [(0, .ref (G.2.1 54)), (1, .int v1), (2, .int v2)] → xlp2 p2_largest_4 n v1 v2 M = some (r, M') → WXi G ZX p l e 1 s m args below meth c r M' H locs (F0 m 4 ls []) := by
  intro n
  induction n with
  | zero => intro _ _ _ _ _ _ _ _ hf; cases hf
  | succ n ih => exact w2_largest_4 F hr hk (xlp2 p2_largest_4 n) ih
def p2_largest (M : SX) : Option (Int32 × SX) :=
  xlp2 p2_largest_4 FU 0 0 M
set_option maxHeartbeats 4000000 in
set_option maxRecDepth 100000 in
theorem c2_largest {l : Launch} {G : XG} {r : Int32} {M' : SX} {M : SX} (hf : p2_largest M = some (r, M')) : Met l yX2_largest (.code yX2_largest cX2_largest 3 (some .int) :: TBL) (rmX 1) (xPc G ZX M [.ref (G.2.1 54)]) (xQi G ZX r M') 0 0 (inA G ZX) := by
  refine x_met (cc := cX2_largest) (by decide) (Nat.le_of_ble_eq_true rfl) ?_
  intro p e s m below meth c ls F hr hk hl hw
  have F : Fx G ZX p m c cX2_largest 3 s [.ref (G.2.1 54)].toArray RX2 := F
  have hl : lv_has ls 3 [(0, .ref (G.2.1 54))] := hl
  have hx := F.1.1
  have hb := F.1.2.1
  unfold p2_largest at hf
  refine lv_iconst (v := 0) hx hb dX2_largest_0 (by decide) ?_
  refine lv_istore_n (lv' := [(1, .int 0), (0, .ref (G.2.1 54))]) hx hb dX2_largest_1 rfl hl (by decide) rfl (fun ls hl => ?_)
  refine lv_iconst (v := 0) hx hb dX2_largest_2 (by decide) ?_
  refine lv_istore_n (lv' := [(2, .int 0), (1, .int 0), (0, .ref (G.2.1 54))]) hx hb dX2_largest_3 rfl hl (by decide) rfl (fun ls hl => ?_)
  exact z2_largest_4 F hr hk FU 0 0 M _ _ ls hw (lv_sub hl [2, 1, 0] rfl) hf
theorem dX2_stepsBy_0 : decode cX2_stepsBy 0 = .ok (.ldc 78, 2) := by decide +kernel
theorem dX2_stepsBy_2 : decode cX2_stepsBy 2 = .ok (.istore_n 3, 1) := by decide +kernel
theorem dX2_stepsBy_3 : decode cX2_stepsBy 3 = .ok (.iconst 0, 1) := by decide +kernel
theorem dX2_stepsBy_4 : decode cX2_stepsBy 4 = .ok (.istore 4, 2) := by decide +kernel
theorem dX2_stepsBy_6 : decode cX2_stepsBy 6 = .ok (.iload 4, 2) := by decide +kernel
theorem dX2_stepsBy_8 : decode cX2_stepsBy 8 = .ok (.aload_n 0, 1) := by decide +kernel
theorem dX2_stepsBy_9 : decode cX2_stepsBy 9 = .ok (.getfield 9, 3) := by decide +kernel
theorem dX2_stepsBy_12 : decode cX2_stepsBy 12 = .ok (.if_icmp .ge 36, 3) := by decide +kernel
theorem dX2_stepsBy_15 : decode cX2_stepsBy 15 = .ok (.iload_n 2, 1) := by decide +kernel
theorem dX2_stepsBy_16 : decode cX2_stepsBy 16 = .ok (.iload 4, 2) := by decide +kernel
theorem dX2_stepsBy_18 : decode cX2_stepsBy 18 = .ok (.invokestatic 44, 3) := by decide +kernel
theorem dX2_stepsBy_21 : decode cX2_stepsBy 21 = .ok (.ifCond .eq 21, 3) := by decide +kernel
theorem dX2_stepsBy_24 : decode cX2_stepsBy 24 = .ok (.iload_n 3, 1) := by decide +kernel
theorem dX2_stepsBy_25 : decode cX2_stepsBy 25 = .ok (.aload_n 0, 1) := by decide +kernel
theorem dX2_stepsBy_26 : decode cX2_stepsBy 26 = .ok (.getfield 28, 3) := by decide +kernel
theorem dX2_stepsBy_29 : decode cX2_stepsBy 29 = .ok (.iload_n 1, 1) := by decide +kernel
theorem dX2_stepsBy_30 : decode cX2_stepsBy 30 = .ok (.iconst 1, 1) := by decide +kernel
theorem dX2_stepsBy_31 : decode cX2_stepsBy 31 = .ok (.iload 4, 2) := by decide +kernel
theorem dX2_stepsBy_33 : decode cX2_stepsBy 33 = .ok (.ishl, 1) := by decide +kernel
theorem dX2_stepsBy_34 : decode cX2_stepsBy 34 = .ok (.ior, 1) := by decide +kernel
theorem dX2_stepsBy_35 : decode cX2_stepsBy 35 = .ok (.iaload, 1) := by decide +kernel
theorem dX2_stepsBy_36 : decode cX2_stepsBy 36 = .ok (.iconst 1, 1) := by decide +kernel
theorem dX2_stepsBy_37 : decode cX2_stepsBy 37 = .ok (.iadd, 1) := by decide +kernel
theorem dX2_stepsBy_38 : decode cX2_stepsBy 38 = .ok (.invokestatic 79, 3) := by decide +kernel
theorem dX2_stepsBy_41 : decode cX2_stepsBy 41 = .ok (.istore_n 3, 1) := by decide +kernel
theorem dX2_stepsBy_42 : decode cX2_stepsBy 42 = .ok (.iinc 4 1, 3) := by decide +kernel
theorem dX2_stepsBy_45 : decode cX2_stepsBy 45 = .ok (.goto (-39), 3) := by decide +kernel
theorem dX2_stepsBy_48 : decode cX2_stepsBy 48 = .ok (.iload_n 3, 1) := by decide +kernel
theorem dX2_stepsBy_49 : decode cX2_stepsBy 49 = .ok (.ireturn, 1) := by decide +kernel
def p2_stepsBy_42 (k6 : Int32 → Int32 → Int32 → Int32 → SX → Option (Int32 × SX)) (v1 : Int32) (v2 : Int32) (v3 : Int32) (v4 : Int32) (M : SX) : Option (Int32 × SX) :=
  lt_ (v4 + 1) (fun x1 => k6 v1 v2 v3 x1 M)
set_option maxHeartbeats 4000000 in
set_option maxRecDepth 100000 in
theorem w2_stepsBy_42 {G : XG} {p : Program} {l : Launch} {e : Env} {s : State} {m : MethodId} {args : Array Value} {below : List Frame} {meth : Method} {c : Code} (F : Fx G ZX p m c cX2_stepsBy 5 s args RX2) (hr : meth.sig.returnType = some .int) (hk : meth.locks = false) {r : Int32} {M' : SX} (k6 : Int32 → Int32 → Int32 → Int32 → SX → Option (Int32 × SX)) (hk6 : ∀ (v1 : Int32) (v2 : Int32) (v3 : Int32) (v4 : Int32) (M : SX) (H : Heap) (locs : List Loc) (ls : Array Slot), Wld G ZX M s.heap H locs → lv_has ls 5 [(0, .ref (G.2.1 54)), (1, .int v1), (2, .int v2), (3, .int v3), (4, .int v4)] → k6 v1 v2 v3 v4 M = some (r, M') → WXi G ZX p l e 1 s m args below meth c r M' H locs (F0 m 6 ls [])) : ∀ (v1 : Int32) (v2 : Int32) (v3 : Int32) (v4 : Int32) (M : SX) (H : Heap) (locs : List Loc) (ls : Array Slot), Wld G ZX M s.heap H locs → lv_has ls 5 [(0, .ref (G.2.1 54)), (1, .int v1), (2, .int v2), (3, .int v3), (4, .int v4)] → p2_stepsBy_42 k6 v1 v2 v3 v4 M = some (r, M') → WXi G ZX p l e 1 s m args below meth c r M' H locs (F0 m 42 ls []) := by
  intro v1 v2 v3 v4 M H locs ls hw hl hf
  have hx := F.1.1
  have hb := F.1.2.1
  unfold p2_stepsBy_42 at hf
  obtain ⟨x1, ex1, hf⟩ := lt_elim hf
  refine lv_iinc (v := x1) (lv' := [(4, .int x1), (0, .ref (G.2.1 54)), (1, .int v1), (2, .int v2), (3, .int v3)]) hx hb dX2_stepsBy_42 hl (k := 4) rfl (by rw [ex1]; rfl) (by decide) rfl (fun ls hl => ?_)
  refine lv_goto (tgt := 6) hx hb dX2_stepsBy_45 (by decide) ?_
  exact hk6 v1 v2 v3 x1 M _ _ ls hw (lv_sub hl [1, 2, 3, 4, 0] rfl) hf
def p2_stepsBy_6 (k6 : Int32 → Int32 → Int32 → Int32 → SX → Option (Int32 × SX)) (v1 : Int32) (v2 : Int32) (v3 : Int32) (v4 : Int32) (M : SX) : Option (Int32 × SX) :=
  if (M.1 54 0) ≤ v4 then (some (v3, M))
  else (bd (p5_isIn v2 v4 M) (fun r4 M3 => if r4 = 0 then (p2_stepsBy_42 k6 v1 v2 v3 v4 M3)
  else (gd (bIn (v1 ||| ((1 : Int32) <<< (v4 &&& 31))) 64) ( lt_ (jmin v3 ((M3.1 58 (Int32.toNatClampNeg (v1 ||| ((1 : Int32) <<< (v4 &&& 31))))) + 1)) (fun x7 => p2_stepsBy_42 k6 v1 v2 x7 v4 M3)))))
set_option maxHeartbeats 4000000 in
set_option maxRecDepth 100000 in
theorem w2_stepsBy_6 {G : XG} {p : Program} {l : Launch} {e : Env} {s : State} {m : MethodId} {args : Array Value} {below : List Frame} {meth : Method} {c : Code} (F : Fx G ZX p m c cX2_stepsBy 5 s args RX2) (hr : meth.sig.returnType = some .int) (hk : meth.locks = false) {r : Int32} {M' : SX} (k6 : Int32 → Int32 → Int32 → Int32 → SX → Option (Int32 × SX)) (hk6 : ∀ (v1 : Int32) (v2 : Int32) (v3 : Int32) (v4 : Int32) (M : SX) (H : Heap) (locs : List Loc) (ls : Array Slot), Wld G ZX M s.heap H locs → lv_has ls 5 [(0, .ref (G.2.1 54)), (1, .int v1), (2, .int v2), (3, .int v3), (4, .int v4)] → k6 v1 v2 v3 v4 M = some (r, M') → WXi G ZX p l e 1 s m args below meth c r M' H locs (F0 m 6 ls [])) : ∀ (v1 : Int32) (v2 : Int32) (v3 : Int32) (v4 : Int32) (M : SX) (H : Heap) (locs : List Loc) (ls : Array Slot), Wld G ZX M s.heap H locs → lv_has ls 5 [(0, .ref (G.2.1 54)), (1, .int v1), (2, .int v2), (3, .int v3), (4, .int v4)] → p2_stepsBy_6 k6 v1 v2 v3 v4 M = some (r, M') → WXi G ZX p l e 1 s m args below meth c r M' H locs (F0 m 6 ls []) := by
  intro v1 v2 v3 v4 M H locs ls hw hl hf
  have hx := F.1.1
  have hb := F.1.2.1
  unfold p2_stepsBy_6 at hf
  refine lv_iload hx hb dX2_stepsBy_6 (lv_at hl 4 rfl) ?_
  refine lv_aload_n hx hb dX2_stepsBy_8 rfl (lv_at hl 0 rfl) ?_
  refine g2_0 F hw tw_234 dX2_stepsBy_9 ?_
  refine lv_icmp_ge (tgt := 48) hx hb dX2_stepsBy_12 (by decide) (fun c1 => ?_) (fun c1 => ?_)
  · have hf := it_t hf c1
    refine lv_iload_n hx hb dX2_stepsBy_48 rfl (lv_at hl 3 rfl) ?_
    exact x_iret F hw hr hk hf dX2_stepsBy_49
  · have hf := it_f hf c1
    refine lv_iload_n hx hb dX2_stepsBy_15 rfl (lv_at hl 2 rfl) ?_
    refine lv_iload hx hb dX2_stepsBy_16 (lv_at hl 4 rfl) ?_
    obtain ⟨r4, M3, hc2, hf⟩ := bd_some hf
    refine x_aftI hw (x_runN (rest := []) F hw hl.1 nn_RX2_44 (c5_isIn v2 v4 hc2) rfl rfl (Nat.le_of_ble_eq_true rfl) ⟨Nat.le_of_ble_eq_true rfl, Nat.le_of_ble_eq_true rfl⟩ dX2_stepsBy_18) (fun H locs hw => ?_)
    refine lv_if_eq (tgt := 42) hx hb dX2_stepsBy_21 (by decide) (fun c5 => ?_) (fun c5 => ?_)
    · have hf := it_t hf c5
      exact w2_stepsBy_42 F hr hk k6 hk6 v1 v2 v3 v4 M3 _ _ ls hw (lv_sub hl [0, 1, 2, 3, 4] rfl) hf
    · have hf := it_f hf c5
      refine lv_iload_n hx hb dX2_stepsBy_24 rfl (lv_at hl 3 rfl) ?_
      refine lv_aload_n hx hb dX2_stepsBy_25 rfl (lv_at hl 0 rfl) ?_
      refine g2_5 F hw tw_232 dX2_stepsBy_26 ?_
      refine lv_iload_n hx hb dX2_stepsBy_29 rfl (lv_at hl 1 rfl) ?_
      refine lv_iconst (v := 1) hx hb dX2_stepsBy_30 (by decide) ?_
      refine lv_iload hx hb dX2_stepsBy_31 (lv_at hl 4 rfl) ?_
      refine lv_ishl hx hb dX2_stepsBy_33 ?_
      refine lv_ior hx hb dX2_stepsBy_34 ?_
      obtain ⟨g6, hf⟩ := gd_some hf
      refine x_iald F hw sO58 g6 dX2_stepsBy_35 ?_
      refine lv_iconst (v := 1) hx hb dX2_stepsBy_36 (by decide) ?_
      refine lv_iadd hx hb dX2_stepsBy_37 ?_
      refine x_min F hl.1 tw_245 tw_246 tw_6 tw_247 (Nat.le_of_ble_eq_true rfl) (Nat.le_of_ble_eq_true rfl) dX2_stepsBy_38 ?_
      obtain ⟨x7, ex7, hf⟩ := lt_elim hf
      refine x_let ex7 ?_
      refine lv_istore_n (lv' := [(3, .int x7), (0, .ref (G.2.1 54)), (1, .int v1), (2, .int v2), (4, .int v4)]) hx hb dX2_stepsBy_41 rfl hl (by decide) rfl (fun ls hl => ?_)
      exact w2_stepsBy_42 F hr hk k6 hk6 v1 v2 x7 v4 M3 _ _ ls hw (lv_sub hl [1, 2, 3, 0, 4] rfl) hf
theorem z2_stepsBy_6 {G : XG} {p : Program} {l : Launch} {e : Env} {s : State} {m : MethodId} {args : Array Value} {below : List Frame} {meth : Method} {c : Code} (F : Fx G ZX p m c cX2_stepsBy 5 s args RX2) (hr : meth.sig.returnType = some .int) (hk : meth.locks = false) {r : Int32} {M' : SX} : ∀ n : Nat, ∀ (v1 : Int32) (v2 : Int32) (v3 : Int32) (v4 : Int32) (M : SX) (H : Heap) (locs : List Loc) (ls : Array Slot), Wld G ZX M s.heap H locs → lv_has ls 5 [(0, .ref (G.2.1 54)), (1, .int v1), (2, .int v2), (3, .int v3), (4, .int v4)] → xlp4 p2_stepsBy_6 n v1 v2 v3 v4 M = some (r, M') → WXi G ZX p l e 1 s m args below meth c r M' H locs (F0 m 6 ls []) := by
  intro n
  induction n with
  | zero => intro _ _ _ _ _ _ _ _ _ _ hf; cases hf
  | succ n ih => exact w2_stepsBy_6 F hr hk (xlp4 p2_stepsBy_6 n) ih
def p2_stepsBy (a1 : Int32) (a2 : Int32) (M : SX) : Option (Int32 × SX) :=
  xlp4 p2_stepsBy_6 FU a1 a2 1000000 0 M
set_option maxHeartbeats 4000000 in
set_option maxRecDepth 100000 in
theorem c2_stepsBy {l : Launch} {G : XG} {r : Int32} {M' : SX} {M : SX} (a1 : Int32) (a2 : Int32) (hf : p2_stepsBy a1 a2 M = some (r, M')) : Met l yX2_stepsBy (.code yX2_stepsBy cX2_stepsBy 5 (some .int) :: TBL) (rmX 1) (xPc G ZX M [.ref (G.2.1 54), .int a1, .int a2]) (xQi G ZX r M') 0 0 (inA G ZX) := by
  refine x_met (cc := cX2_stepsBy) (by decide) (Nat.le_of_ble_eq_true rfl) ?_
  intro p e s m below meth c ls F hr hk hl hw
  have F : Fx G ZX p m c cX2_stepsBy 5 s [.ref (G.2.1 54), .int a1, .int a2].toArray RX2 := F
  have hl : lv_has ls 5 [(0, .ref (G.2.1 54)), (1, .int a1), (2, .int a2)] := hl
  have hx := F.1.1
  have hb := F.1.2.1
  unfold p2_stepsBy at hf
  refine lv_ldc (v := 1000000) hx hb F.1.2.2.2.1 (F.1.2.2.2.2 _ tw_233) dX2_stepsBy_0 ?_
  refine lv_istore_n (lv' := [(3, .int 1000000), (0, .ref (G.2.1 54)), (1, .int a1), (2, .int a2)]) hx hb dX2_stepsBy_2 rfl hl (by decide) rfl (fun ls hl => ?_)
  refine lv_iconst (v := 0) hx hb dX2_stepsBy_3 (by decide) ?_
  refine lv_istore (lv' := [(4, .int 0), (3, .int 1000000), (0, .ref (G.2.1 54)), (1, .int a1), (2, .int a2)]) hx hb dX2_stepsBy_4 hl (by decide) rfl (fun ls hl => ?_)
  exact z2_stepsBy_6 F hr hk FU a1 a2 1000000 0 M _ _ ls hw (lv_sub hl [2, 3, 4, 1, 0] rfl) hf
theorem dX2_goesOn_0 : decode cX2_goesOn 0 = .ok (.aload_n 0, 1) := by decide +kernel
theorem dX2_goesOn_1 : decode cX2_goesOn 1 = .ok (.iload_n 1, 1) := by decide +kernel
theorem dX2_goesOn_2 : decode cX2_goesOn 2 = .ok (.iload_n 2, 1) := by decide +kernel
theorem dX2_goesOn_3 : decode cX2_goesOn 3 = .ok (.invokevirtual 48, 3) := by decide +kernel
theorem dX2_goesOn_6 : decode cX2_goesOn 6 = .ok (.ifCond .eq 22, 3) := by decide +kernel
theorem dX2_goesOn_9 : decode cX2_goesOn 9 = .ok (.aload_n 0, 1) := by decide +kernel
theorem dX2_goesOn_10 : decode cX2_goesOn 10 = .ok (.iload_n 1, 1) := by decide +kernel
theorem dX2_goesOn_11 : decode cX2_goesOn 11 = .ok (.iload_n 2, 1) := by decide +kernel
theorem dX2_goesOn_12 : decode cX2_goesOn 12 = .ok (.invokevirtual 51, 3) := by decide +kernel
theorem dX2_goesOn_15 : decode cX2_goesOn 15 = .ok (.aload_n 0, 1) := by decide +kernel
theorem dX2_goesOn_16 : decode cX2_goesOn 16 = .ok (.getfield 25, 3) := by decide +kernel
theorem dX2_goesOn_19 : decode cX2_goesOn 19 = .ok (.iload_n 2, 1) := by decide +kernel
theorem dX2_goesOn_20 : decode cX2_goesOn 20 = .ok (.iaload, 1) := by decide +kernel
theorem dX2_goesOn_21 : decode cX2_goesOn 21 = .ok (.if_icmp .lt 7, 3) := by decide +kernel
theorem dX2_goesOn_24 : decode cX2_goesOn 24 = .ok (.iconst 1, 1) := by decide +kernel
theorem dX2_goesOn_25 : decode cX2_goesOn 25 = .ok (.goto 4, 3) := by decide +kernel
theorem dX2_goesOn_28 : decode cX2_goesOn 28 = .ok (.iconst 0, 1) := by decide +kernel
theorem dX2_goesOn_29 : decode cX2_goesOn 29 = .ok (.ireturn, 1) := by decide +kernel
def p2_goesOn (a1 : Int32) (a2 : Int32) (M : SX) : Option (Int32 × SX) :=
  bd (p2_isLeft a1 a2 M) (fun r3 M2 => if r3 = 0 then (some (0, M2))
  else (bd (p2_cashAfter a1 a2 M2) (fun r7 M6 => gd (bIn a2 6) ( if r7 < (M6.1 57 (Int32.toNatClampNeg a2)) then (some (0, M6))
  else (some (1, M6))))))
set_option maxHeartbeats 4000000 in
set_option maxRecDepth 100000 in
theorem c2_goesOn {l : Launch} {G : XG} {r : Int32} {M' : SX} {M : SX} (a1 : Int32) (a2 : Int32) (hf : p2_goesOn a1 a2 M = some (r, M')) : Met l yX2_goesOn (.code yX2_goesOn cX2_goesOn 3 (some .boolean) :: TBL) (rmX 2) (xPc G ZX M [.ref (G.2.1 54), .int a1, .int a2]) (xQi G ZX r M') 0 0 (inA G ZX) := by
  refine x_met (cc := cX2_goesOn) (by decide) (Nat.le_of_ble_eq_true rfl) ?_
  intro p e s m below meth c ls F hr hk hl hw
  have F : Fx G ZX p m c cX2_goesOn 3 s [.ref (G.2.1 54), .int a1, .int a2].toArray RX2 := F
  have hl : lv_has ls 3 [(0, .ref (G.2.1 54)), (1, .int a1), (2, .int a2)] := hl
  have hx := F.1.1
  have hb := F.1.2.1
  unfold p2_goesOn at hf
  refine lv_aload_n hx hb dX2_goesOn_0 rfl (lv_at hl 0 rfl) ?_
  refine lv_iload_n hx hb dX2_goesOn_1 rfl (lv_at hl 1 rfl) ?_
  refine lv_iload_n hx hb dX2_goesOn_2 rfl (lv_at hl 2 rfl) ?_
  obtain ⟨r3, M2, hc1, hf⟩ := bd_some hf
  refine x_aftI hw (x_runV (rest := []) F hw hl.1 vw_RX2_48 (sO) rfl (c2_isLeft a1 a2 hc1) rfl rfl (Nat.le_of_ble_eq_true rfl) ⟨Nat.le_of_ble_eq_true rfl, Nat.le_of_ble_eq_true rfl⟩ dX2_goesOn_3) (fun H locs hw => ?_)
  refine lv_if_eq (tgt := 28) hx hb dX2_goesOn_6 (by decide) (fun c4 => ?_) (fun c4 => ?_)
  · have hf := it_t hf c4
    refine lv_iconst (v := 0) hx hb dX2_goesOn_28 (by decide) ?_
    exact x_zret F hw hr hk (by decide) hf dX2_goesOn_29
  · have hf := it_f hf c4
    refine lv_aload_n hx hb dX2_goesOn_9 rfl (lv_at hl 0 rfl) ?_
    refine lv_iload_n hx hb dX2_goesOn_10 rfl (lv_at hl 1 rfl) ?_
    refine lv_iload_n hx hb dX2_goesOn_11 rfl (lv_at hl 2 rfl) ?_
    obtain ⟨r7, M6, hc5, hf⟩ := bd_some hf
    refine x_aftI hw (x_runV (rest := []) F hw hl.1 vw_RX2_51 (sO) rfl (c2_cashAfter a1 a2 hc5) rfl rfl (Nat.le_of_ble_eq_true rfl) ⟨Nat.le_of_ble_eq_true rfl, Nat.le_of_ble_eq_true rfl⟩ dX2_goesOn_12) (fun H locs hw => ?_)
    refine lv_aload_n hx hb dX2_goesOn_15 rfl (lv_at hl 0 rfl) ?_
    refine g2_4 F hw tw_237 dX2_goesOn_16 ?_
    refine lv_iload_n hx hb dX2_goesOn_19 rfl (lv_at hl 2 rfl) ?_
    obtain ⟨g8, hf⟩ := gd_some hf
    refine x_iald F hw sO57 g8 dX2_goesOn_20 ?_
    refine lv_icmp_lt (tgt := 28) hx hb dX2_goesOn_21 (by decide) (fun c9 => ?_) (fun c9 => ?_)
    · have hf := it_t hf c9
      refine lv_iconst (v := 0) hx hb dX2_goesOn_28 (by decide) ?_
      exact x_zret F hw hr hk (by decide) hf dX2_goesOn_29
    · have hf := it_f hf c9
      refine lv_iconst (v := 1) hx hb dX2_goesOn_24 (by decide) ?_
      refine lv_goto (tgt := 29) hx hb dX2_goesOn_25 (by decide) ?_
      exact x_zret F hw hr hk (by decide) hf dX2_goesOn_29
theorem dX2_spreadNeed_0 : decode cX2_spreadNeed 0 = .ok (.iconst 0, 1) := by decide +kernel
theorem dX2_spreadNeed_1 : decode cX2_spreadNeed 1 = .ok (.istore_n 3, 1) := by decide +kernel
theorem dX2_spreadNeed_2 : decode cX2_spreadNeed 2 = .ok (.iload_n 3, 1) := by decide +kernel
theorem dX2_spreadNeed_3 : decode cX2_spreadNeed 3 = .ok (.aload_n 0, 1) := by decide +kernel
theorem dX2_spreadNeed_4 : decode cX2_spreadNeed 4 = .ok (.getfield 9, 3) := by decide +kernel
theorem dX2_spreadNeed_7 : decode cX2_spreadNeed 7 = .ok (.if_icmp .ge 78, 3) := by decide +kernel
theorem dX2_spreadNeed_10 : decode cX2_spreadNeed 10 = .ok (.aload_n 0, 1) := by decide +kernel
theorem dX2_spreadNeed_11 : decode cX2_spreadNeed 11 = .ok (.getfield 25, 3) := by decide +kernel
theorem dX2_spreadNeed_14 : decode cX2_spreadNeed 14 = .ok (.iload_n 3, 1) := by decide +kernel
theorem dX2_spreadNeed_15 : decode cX2_spreadNeed 15 = .ok (.iaload, 1) := by decide +kernel
theorem dX2_spreadNeed_16 : decode cX2_spreadNeed 16 = .ok (.aload_n 0, 1) := by decide +kernel
theorem dX2_spreadNeed_17 : decode cX2_spreadNeed 17 = .ok (.iload_n 1, 1) := by decide +kernel
theorem dX2_spreadNeed_18 : decode cX2_spreadNeed 18 = .ok (.iload_n 3, 1) := by decide +kernel
theorem dX2_spreadNeed_19 : decode cX2_spreadNeed 19 = .ok (.invokevirtual 51, 3) := by decide +kernel
theorem dX2_spreadNeed_22 : decode cX2_spreadNeed 22 = .ok (.isub, 1) := by decide +kernel
theorem dX2_spreadNeed_23 : decode cX2_spreadNeed 23 = .ok (.istore 4, 2) := by decide +kernel
theorem dX2_spreadNeed_25 : decode cX2_spreadNeed 25 = .ok (.aload_n 0, 1) := by decide +kernel
theorem dX2_spreadNeed_26 : decode cX2_spreadNeed 26 = .ok (.iload_n 1, 1) := by decide +kernel
theorem dX2_spreadNeed_27 : decode cX2_spreadNeed 27 = .ok (.iload_n 3, 1) := by decide +kernel
theorem dX2_spreadNeed_28 : decode cX2_spreadNeed 28 = .ok (.invokevirtual 48, 3) := by decide +kernel
theorem dX2_spreadNeed_31 : decode cX2_spreadNeed 31 = .ok (.ifCond .eq 48, 3) := by decide +kernel
theorem dX2_spreadNeed_34 : decode cX2_spreadNeed 34 = .ok (.iload_n 3, 1) := by decide +kernel
theorem dX2_spreadNeed_35 : decode cX2_spreadNeed 35 = .ok (.iload_n 2, 1) := by decide +kernel
theorem dX2_spreadNeed_36 : decode cX2_spreadNeed 36 = .ok (.if_icmp .eq 8, 3) := by decide +kernel
theorem dX2_spreadNeed_39 : decode cX2_spreadNeed 39 = .ok (.iload 4, 2) := by decide +kernel
theorem dX2_spreadNeed_41 : decode cX2_spreadNeed 41 = .ok (.ifCond .gt 38, 3) := by decide +kernel
theorem dX2_spreadNeed_44 : decode cX2_spreadNeed 44 = .ok (.iload_n 1, 1) := by decide +kernel
theorem dX2_spreadNeed_45 : decode cX2_spreadNeed 45 = .ok (.iconst 1, 1) := by decide +kernel
theorem dX2_spreadNeed_46 : decode cX2_spreadNeed 46 = .ok (.iload_n 3, 1) := by decide +kernel
theorem dX2_spreadNeed_47 : decode cX2_spreadNeed 47 = .ok (.ishl, 1) := by decide +kernel
theorem dX2_spreadNeed_48 : decode cX2_spreadNeed 48 = .ok (.ior, 1) := by decide +kernel
theorem dX2_spreadNeed_49 : decode cX2_spreadNeed 49 = .ok (.istore 5, 2) := by decide +kernel
theorem dX2_spreadNeed_51 : decode cX2_spreadNeed 51 = .ok (.aload_n 0, 1) := by decide +kernel
theorem dX2_spreadNeed_52 : decode cX2_spreadNeed 52 = .ok (.getfield 28, 3) := by decide +kernel
theorem dX2_spreadNeed_55 : decode cX2_spreadNeed 55 = .ok (.iload 5, 2) := by decide +kernel
theorem dX2_spreadNeed_57 : decode cX2_spreadNeed 57 = .ok (.aload_n 0, 1) := by decide +kernel
theorem dX2_spreadNeed_58 : decode cX2_spreadNeed 58 = .ok (.getfield 28, 3) := by decide +kernel
theorem dX2_spreadNeed_61 : decode cX2_spreadNeed 61 = .ok (.iload 5, 2) := by decide +kernel
theorem dX2_spreadNeed_63 : decode cX2_spreadNeed 63 = .ok (.iaload, 1) := by decide +kernel
theorem dX2_spreadNeed_64 : decode cX2_spreadNeed 64 = .ok (.aload_n 0, 1) := by decide +kernel
theorem dX2_spreadNeed_65 : decode cX2_spreadNeed 65 = .ok (.getfield 28, 3) := by decide +kernel
theorem dX2_spreadNeed_68 : decode cX2_spreadNeed 68 = .ok (.iload_n 1, 1) := by decide +kernel
theorem dX2_spreadNeed_69 : decode cX2_spreadNeed 69 = .ok (.iaload, 1) := by decide +kernel
theorem dX2_spreadNeed_70 : decode cX2_spreadNeed 70 = .ok (.iload 4, 2) := by decide +kernel
theorem dX2_spreadNeed_72 : decode cX2_spreadNeed 72 = .ok (.invokestatic 88, 3) := by decide +kernel
theorem dX2_spreadNeed_75 : decode cX2_spreadNeed 75 = .ok (.invokestatic 79, 3) := by decide +kernel
theorem dX2_spreadNeed_78 : decode cX2_spreadNeed 78 = .ok (.iastore, 1) := by decide +kernel
theorem dX2_spreadNeed_79 : decode cX2_spreadNeed 79 = .ok (.iinc 3 1, 3) := by decide +kernel
theorem dX2_spreadNeed_82 : decode cX2_spreadNeed 82 = .ok (.goto (-80), 3) := by decide +kernel
theorem dX2_spreadNeed_85 : decode cX2_spreadNeed 85 = .ok (.return_, 1) := by decide +kernel
def p2_spreadNeed_79 (k2 : Int32 → Int32 → Int32 → SX → Option SX) (v1 : Int32) (v2 : Int32) (v3 : Int32) (M : SX) : Option SX :=
  lt_ (v3 + 1) (fun x1 => k2 v1 v2 x1 M)
set_option maxHeartbeats 4000000 in
set_option maxRecDepth 100000 in
theorem w2_spreadNeed_79 {G : XG} {p : Program} {l : Launch} {e : Env} {s : State} {m : MethodId} {args : Array Value} {below : List Frame} {meth : Method} {c : Code} (F : Fx G ZX p m c cX2_spreadNeed 6 s args RX2) (hr : meth.sig.returnType = none) (hk : meth.locks = false) {M' : SX} (k2 : Int32 → Int32 → Int32 → SX → Option SX) (hk2 : ∀ (v1 : Int32) (v2 : Int32) (v3 : Int32) (M : SX) (H : Heap) (locs : List Loc) (ls : Array Slot), Wld G ZX M s.heap H locs → lv_has ls 6 [(0, .ref (G.2.1 54)), (1, .int v1), (2, .int v2), (3, .int v3)] → k2 v1 v2 v3 M = some M' → WXv G ZX p l e 2 s m args below meth c M' H locs (F0 m 2 ls [])) : ∀ (v1 : Int32) (v2 : Int32) (v3 : Int32) (M : SX) (H : Heap) (locs : List Loc) (ls : Array Slot), Wld G ZX M s.heap H locs → lv_has ls 6 [(0, .ref (G.2.1 54)), (1, .int v1), (2, .int v2), (3, .int v3)] → p2_spreadNeed_79 k2 v1 v2 v3 M = some M' → WXv G ZX p l e 2 s m args below meth c M' H locs (F0 m 79 ls []) := by
  intro v1 v2 v3 M H locs ls hw hl hf
  have hx := F.1.1
  have hb := F.1.2.1
  unfold p2_spreadNeed_79 at hf
  obtain ⟨x1, ex1, hf⟩ := lt_elim hf
  refine lv_iinc (v := x1) (lv' := [(3, .int x1), (0, .ref (G.2.1 54)), (1, .int v1), (2, .int v2)]) hx hb dX2_spreadNeed_79 hl (k := 3) rfl (by rw [ex1]; rfl) (by decide) rfl (fun ls hl => ?_)
  refine lv_goto (tgt := 2) hx hb dX2_spreadNeed_82 (by decide) ?_
  exact hk2 v1 v2 x1 M _ _ ls hw (lv_sub hl [1, 2, 3, 0] rfl) hf
def p2_spreadNeed_44 (k2 : Int32 → Int32 → Int32 → SX → Option SX) (v1 : Int32) (v2 : Int32) (v3 : Int32) (v4 : Int32) (M : SX) : Option SX :=
  lt_ (v1 ||| ((1 : Int32) <<< (v3 &&& 31))) (fun x1 => gd (bIn x1 64) ( gd (bIn v1 64) ( lt_ (wI M 58 (Int32.toNatClampNeg x1) (jmin (M.1 58 (Int32.toNatClampNeg x1)) (jmax (M.1 58 (Int32.toNatClampNeg v1)) v4))) (fun M4 => p2_spreadNeed_79 k2 v1 v2 v3 M4))))
set_option maxHeartbeats 4000000 in
set_option maxRecDepth 100000 in
theorem w2_spreadNeed_44 {G : XG} {p : Program} {l : Launch} {e : Env} {s : State} {m : MethodId} {args : Array Value} {below : List Frame} {meth : Method} {c : Code} (F : Fx G ZX p m c cX2_spreadNeed 6 s args RX2) (hr : meth.sig.returnType = none) (hk : meth.locks = false) {M' : SX} (k2 : Int32 → Int32 → Int32 → SX → Option SX) (hk2 : ∀ (v1 : Int32) (v2 : Int32) (v3 : Int32) (M : SX) (H : Heap) (locs : List Loc) (ls : Array Slot), Wld G ZX M s.heap H locs → lv_has ls 6 [(0, .ref (G.2.1 54)), (1, .int v1), (2, .int v2), (3, .int v3)] → k2 v1 v2 v3 M = some M' → WXv G ZX p l e 2 s m args below meth c M' H locs (F0 m 2 ls [])) : ∀ (v1 : Int32) (v2 : Int32) (v3 : Int32) (v4 : Int32) (M : SX) (H : Heap) (locs : List Loc) (ls : Array Slot), Wld G ZX M s.heap H locs → lv_has ls 6 [(0, .ref (G.2.1 54)), (1, .int v1), (2, .int v2), (3, .int v3), (4, .int v4)] → p2_spreadNeed_44 k2 v1 v2 v3 v4 M = some M' → WXv G ZX p l e 2 s m args below meth c M' H locs (F0 m 44 ls []) := by
  intro v1 v2 v3 v4 M H locs ls hw hl hf
  have hx := F.1.1
  have hb := F.1.2.1
  unfold p2_spreadNeed_44 at hf
  refine lv_iload_n hx hb dX2_spreadNeed_44 rfl (lv_at hl 1 rfl) ?_
  refine lv_iconst (v := 1) hx hb dX2_spreadNeed_45 (by decide) ?_
  refine lv_iload_n hx hb dX2_spreadNeed_46 rfl (lv_at hl 3 rfl) ?_
  refine lv_ishl hx hb dX2_spreadNeed_47 ?_
  refine lv_ior hx hb dX2_spreadNeed_48 ?_
  obtain ⟨x1, ex1, hf⟩ := lt_elim hf
  refine x_let ex1 ?_
  refine lv_istore (lv' := [(5, .int x1), (0, .ref (G.2.1 54)), (1, .int v1), (2, .int v2), (3, .int v3), (4, .int v4)]) hx hb dX2_spreadNeed_49 hl (by decide) rfl (fun ls hl => ?_)
  refine lv_aload_n hx hb dX2_spreadNeed_51 rfl (lv_at hl 1 rfl) ?_
  refine g2_5 F hw tw_232 dX2_spreadNeed_52 ?_
  refine lv_iload hx hb dX2_spreadNeed_55 (lv_at hl 0 rfl) ?_
  refine lv_aload_n hx hb dX2_spreadNeed_57 rfl (lv_at hl 1 rfl) ?_
  refine g2_5 F hw tw_232 dX2_spreadNeed_58 ?_
  refine lv_iload hx hb dX2_spreadNeed_61 (lv_at hl 0 rfl) ?_
  obtain ⟨g2, hf⟩ := gd_some hf
  refine x_iald F hw sO58 g2 dX2_spreadNeed_63 ?_
  refine lv_aload_n hx hb dX2_spreadNeed_64 rfl (lv_at hl 1 rfl) ?_
  refine g2_5 F hw tw_232 dX2_spreadNeed_65 ?_
  refine lv_iload_n hx hb dX2_spreadNeed_68 rfl (lv_at hl 2 rfl) ?_
  obtain ⟨g3, hf⟩ := gd_some hf
  refine x_iald F hw sO58 g3 dX2_spreadNeed_69 ?_
  refine lv_iload hx hb dX2_spreadNeed_70 (lv_at hl 5 rfl) ?_
  refine x_max F hl.1 tw_259 tw_5 tw_6 tw_7 (Nat.le_of_ble_eq_true rfl) (Nat.le_of_ble_eq_true rfl) dX2_spreadNeed_72 ?_
  refine x_min F hl.1 tw_245 tw_246 tw_6 tw_247 (Nat.le_of_ble_eq_true rfl) (Nat.le_of_ble_eq_true rfl) dX2_spreadNeed_75 ?_
  refine x_iast F hw sO58 g2 dX2_spreadNeed_78 (fun H locs hw => ?_)
  obtain ⟨M4, eM4, hf⟩ := lt_elim hf
  rw [← eM4] at hw
  exact w2_spreadNeed_79 F hr hk k2 hk2 v1 v2 v3 M4 _ _ ls hw (lv_sub hl [1, 2, 3, 4] rfl) hf
def p2_spreadNeed_2 (k2 : Int32 → Int32 → Int32 → SX → Option SX) (v1 : Int32) (v2 : Int32) (v3 : Int32) (M : SX) : Option SX :=
  if (M.1 54 0) ≤ v3 then (some M)
  else (gd (bIn v3 6) ( bd (p2_cashAfter v1 v3 M) (fun r5 M4 => lt_ ((M.1 57 (Int32.toNatClampNeg v3)) - r5) (fun x6 => bd (p2_isLeft v1 v3 M4) (fun r9 M8 => if r9 = 0 then (p2_spreadNeed_79 k2 v1 v2 v3 M8)
  else (if v3 = v2 then (p2_spreadNeed_44 k2 v1 v2 v3 x6 M8)
  else (if 0 < x6 then (p2_spreadNeed_79 k2 v1 v2 v3 M8)
  else (p2_spreadNeed_44 k2 v1 v2 v3 x6 M8))))))))
set_option maxHeartbeats 4000000 in
set_option maxRecDepth 100000 in
theorem w2_spreadNeed_2 {G : XG} {p : Program} {l : Launch} {e : Env} {s : State} {m : MethodId} {args : Array Value} {below : List Frame} {meth : Method} {c : Code} (F : Fx G ZX p m c cX2_spreadNeed 6 s args RX2) (hr : meth.sig.returnType = none) (hk : meth.locks = false) {M' : SX} (k2 : Int32 → Int32 → Int32 → SX → Option SX) (hk2 : ∀ (v1 : Int32) (v2 : Int32) (v3 : Int32) (M : SX) (H : Heap) (locs : List Loc) (ls : Array Slot), Wld G ZX M s.heap H locs → lv_has ls 6 [(0, .ref (G.2.1 54)), (1, .int v1), (2, .int v2), (3, .int v3)] → k2 v1 v2 v3 M = some M' → WXv G ZX p l e 2 s m args below meth c M' H locs (F0 m 2 ls [])) : ∀ (v1 : Int32) (v2 : Int32) (v3 : Int32) (M : SX) (H : Heap) (locs : List Loc) (ls : Array Slot), Wld G ZX M s.heap H locs → lv_has ls 6 [(0, .ref (G.2.1 54)), (1, .int v1), (2, .int v2), (3, .int v3)] → p2_spreadNeed_2 k2 v1 v2 v3 M = some M' → WXv G ZX p l e 2 s m args below meth c M' H locs (F0 m 2 ls []) := by
  intro v1 v2 v3 M H locs ls hw hl hf
  have hx := F.1.1
  have hb := F.1.2.1
  unfold p2_spreadNeed_2 at hf
  refine lv_iload_n hx hb dX2_spreadNeed_2 rfl (lv_at hl 3 rfl) ?_
  refine lv_aload_n hx hb dX2_spreadNeed_3 rfl (lv_at hl 0 rfl) ?_
  refine g2_0 F hw tw_234 dX2_spreadNeed_4 ?_
  refine lv_icmp_ge (tgt := 85) hx hb dX2_spreadNeed_7 (by decide) (fun c1 => ?_) (fun c1 => ?_)
  · have hf := it_t hf c1
    exact x_vret F hw hr hk hf dX2_spreadNeed_85
  · have hf := it_f hf c1
    refine lv_aload_n hx hb dX2_spreadNeed_10 rfl (lv_at hl 0 rfl) ?_
    refine g2_4 F hw tw_237 dX2_spreadNeed_11 ?_
    refine lv_iload_n hx hb dX2_spreadNeed_14 rfl (lv_at hl 3 rfl) ?_
    obtain ⟨g2, hf⟩ := gd_some hf
    refine x_iald F hw sO57 g2 dX2_spreadNeed_15 ?_
    refine lv_aload_n hx hb dX2_spreadNeed_16 rfl (lv_at hl 0 rfl) ?_
    refine lv_iload_n hx hb dX2_spreadNeed_17 rfl (lv_at hl 1 rfl) ?_
    refine lv_iload_n hx hb dX2_spreadNeed_18 rfl (lv_at hl 3 rfl) ?_
    obtain ⟨r5, M4, hc3, hf⟩ := bd_some hf
    refine x_aftI hw (x_runV (rest := [.int (M.1 57 (Int32.toNatClampNeg v3))]) F hw hl.1 vw_RX2_51 (sO) rfl (c2_cashAfter v1 v3 hc3) rfl rfl (Nat.le_of_ble_eq_true rfl) ⟨Nat.le_of_ble_eq_true rfl, Nat.le_of_ble_eq_true rfl⟩ dX2_spreadNeed_19) (fun H locs hw => ?_)
    refine lv_isub hx hb dX2_spreadNeed_22 ?_
    obtain ⟨x6, ex6, hf⟩ := lt_elim hf
    refine x_let ex6 ?_
    refine lv_istore (lv' := [(4, .int x6), (0, .ref (G.2.1 54)), (1, .int v1), (2, .int v2), (3, .int v3)]) hx hb dX2_spreadNeed_23 hl (by decide) rfl (fun ls hl => ?_)
    refine lv_aload_n hx hb dX2_spreadNeed_25 rfl (lv_at hl 1 rfl) ?_
    refine lv_iload_n hx hb dX2_spreadNeed_26 rfl (lv_at hl 2 rfl) ?_
    refine lv_iload_n hx hb dX2_spreadNeed_27 rfl (lv_at hl 4 rfl) ?_
    obtain ⟨r9, M8, hc7, hf⟩ := bd_some hf
    refine x_aftI hw (x_runV (rest := []) F hw hl.1 vw_RX2_48 (sO) rfl (c2_isLeft v1 v3 hc7) rfl rfl (Nat.le_of_ble_eq_true rfl) ⟨Nat.le_of_ble_eq_true rfl, Nat.le_of_ble_eq_true rfl⟩ dX2_spreadNeed_28) (fun H locs hw => ?_)
    refine lv_if_eq (tgt := 79) hx hb dX2_spreadNeed_31 (by decide) (fun c10 => ?_) (fun c10 => ?_)
    · have hf := it_t hf c10
      exact w2_spreadNeed_79 F hr hk k2 hk2 v1 v2 v3 M8 _ _ ls hw (lv_sub hl [1, 2, 3, 4] rfl) hf
    · have hf := it_f hf c10
      refine lv_iload_n hx hb dX2_spreadNeed_34 rfl (lv_at hl 4 rfl) ?_
      refine lv_iload_n hx hb dX2_spreadNeed_35 rfl (lv_at hl 3 rfl) ?_
      refine lv_icmp_eq (tgt := 44) hx hb dX2_spreadNeed_36 (by decide) (fun c11 => ?_) (fun c11 => ?_)
      · have hf := it_t hf c11
        exact w2_spreadNeed_44 F hr hk k2 hk2 v1 v2 v3 x6 M8 _ _ ls hw (lv_sub hl [1, 2, 3, 4, 0] rfl) hf
      · have hf := it_f hf c11
        refine lv_iload hx hb dX2_spreadNeed_39 (lv_at hl 0 rfl) ?_
        refine lv_if_gt (tgt := 79) hx hb dX2_spreadNeed_41 (by decide) (fun c12 => ?_) (fun c12 => ?_)
        · have hf := it_t hf c12
          exact w2_spreadNeed_79 F hr hk k2 hk2 v1 v2 v3 M8 _ _ ls hw (lv_sub hl [1, 2, 3, 4] rfl) hf
        · have hf := it_f hf c12
          exact w2_spreadNeed_44 F hr hk k2 hk2 v1 v2 v3 x6 M8 _ _ ls hw (lv_sub hl [1, 2, 3, 4, 0] rfl) hf
theorem z2_spreadNeed_2 {G : XG} {p : Program} {l : Launch} {e : Env} {s : State} {m : MethodId} {args : Array Value} {below : List Frame} {meth : Method} {c : Code} (F : Fx G ZX p m c cX2_spreadNeed 6 s args RX2) (hr : meth.sig.returnType = none) (hk : meth.locks = false) {M' : SX} : ∀ n : Nat, ∀ (v1 : Int32) (v2 : Int32) (v3 : Int32) (M : SX) (H : Heap) (locs : List Loc) (ls : Array Slot), Wld G ZX M s.heap H locs → lv_has ls 6 [(0, .ref (G.2.1 54)), (1, .int v1), (2, .int v2), (3, .int v3)] → xlp3 p2_spreadNeed_2 n v1 v2 v3 M = some M' → WXv G ZX p l e 2 s m args below meth c M' H locs (F0 m 2 ls []) := by
  intro n
  induction n with
  | zero => intro _ _ _ _ _ _ _ _ _ hf; cases hf
  | succ n ih => exact w2_spreadNeed_2 F hr hk (xlp3 p2_spreadNeed_2 n) ih
def p2_spreadNeed (a1 : Int32) (a2 : Int32) (M : SX) : Option SX :=
  xlp3 p2_spreadNeed_2 FU a1 a2 0 M
set_option maxHeartbeats 4000000 in
set_option maxRecDepth 100000 in
theorem c2_spreadNeed {l : Launch} {G : XG} {M' : SX} {M : SX} (a1 : Int32) (a2 : Int32) (hf : p2_spreadNeed a1 a2 M = some M') : Met l yX2_spreadNeed (.code yX2_spreadNeed cX2_spreadNeed 6 none :: TBL) (rmX 2) (xPc G ZX M [.ref (G.2.1 54), .int a1, .int a2]) (xQv G ZX M') 0 0 (inA G ZX) := by
  refine x_met (cc := cX2_spreadNeed) (by decide) (Nat.le_of_ble_eq_true rfl) ?_
  intro p e s m below meth c ls F hr hk hl hw
  have F : Fx G ZX p m c cX2_spreadNeed 6 s [.ref (G.2.1 54), .int a1, .int a2].toArray RX2 := F
  have hl : lv_has ls 6 [(0, .ref (G.2.1 54)), (1, .int a1), (2, .int a2)] := hl
  have hx := F.1.1
  have hb := F.1.2.1
  unfold p2_spreadNeed at hf
  refine lv_iconst (v := 0) hx hb dX2_spreadNeed_0 (by decide) ?_
  refine lv_istore_n (lv' := [(3, .int 0), (0, .ref (G.2.1 54)), (1, .int a1), (2, .int a2)]) hx hb dX2_spreadNeed_1 rfl hl (by decide) rfl (fun ls hl => ?_)
  exact z2_spreadNeed_2 F hr hk FU a1 a2 0 M _ _ ls hw (lv_sub hl [1, 2, 3, 0] rfl) hf
theorem dX2_lookAt_0 : decode cX2_lookAt 0 = .ok (.aload_n 0, 1) := by decide +kernel
theorem dX2_lookAt_1 : decode cX2_lookAt 1 = .ok (.aload_n 1, 1) := by decide +kernel
theorem dX2_lookAt_2 : decode cX2_lookAt 2 = .ok (.getfield 31, 3) := by decide +kernel
theorem dX2_lookAt_5 : decode cX2_lookAt 5 = .ok (.putfield 9, 3) := by decide +kernel
theorem dX2_lookAt_8 : decode cX2_lookAt 8 = .ok (.aload_n 0, 1) := by decide +kernel
theorem dX2_lookAt_9 : decode cX2_lookAt 9 = .ok (.aload_n 1, 1) := by decide +kernel
theorem dX2_lookAt_10 : decode cX2_lookAt 10 = .ok (.invokevirtual 34, 3) := by decide +kernel
theorem dX2_lookAt_13 : decode cX2_lookAt 13 = .ok (.putfield 15, 3) := by decide +kernel
theorem dX2_lookAt_16 : decode cX2_lookAt 16 = .ok (.iconst 0, 1) := by decide +kernel
theorem dX2_lookAt_17 : decode cX2_lookAt 17 = .ok (.istore_n 3, 1) := by decide +kernel
theorem dX2_lookAt_18 : decode cX2_lookAt 18 = .ok (.iload_n 3, 1) := by decide +kernel
theorem dX2_lookAt_19 : decode cX2_lookAt 19 = .ok (.aload_n 0, 1) := by decide +kernel
theorem dX2_lookAt_20 : decode cX2_lookAt 20 = .ok (.getfield 9, 3) := by decide +kernel
theorem dX2_lookAt_23 : decode cX2_lookAt 23 = .ok (.if_icmp .ge 45, 3) := by decide +kernel
theorem dX2_lookAt_26 : decode cX2_lookAt 26 = .ok (.aload_n 0, 1) := by decide +kernel
theorem dX2_lookAt_27 : decode cX2_lookAt 27 = .ok (.getfield 18, 3) := by decide +kernel
theorem dX2_lookAt_30 : decode cX2_lookAt 30 = .ok (.iload_n 3, 1) := by decide +kernel
theorem dX2_lookAt_31 : decode cX2_lookAt 31 = .ok (.aload_n 1, 1) := by decide +kernel
theorem dX2_lookAt_32 : decode cX2_lookAt 32 = .ok (.getfield 38, 3) := by decide +kernel
theorem dX2_lookAt_35 : decode cX2_lookAt 35 = .ok (.iload_n 3, 1) := by decide +kernel
theorem dX2_lookAt_36 : decode cX2_lookAt 36 = .ok (.iaload, 1) := by decide +kernel
theorem dX2_lookAt_37 : decode cX2_lookAt 37 = .ok (.iastore, 1) := by decide +kernel
theorem dX2_lookAt_38 : decode cX2_lookAt 38 = .ok (.aload_n 0, 1) := by decide +kernel
theorem dX2_lookAt_39 : decode cX2_lookAt 39 = .ok (.getfield 22, 3) := by decide +kernel
theorem dX2_lookAt_42 : decode cX2_lookAt 42 = .ok (.iload_n 3, 1) := by decide +kernel
theorem dX2_lookAt_43 : decode cX2_lookAt 43 = .ok (.aload_n 1, 1) := by decide +kernel
theorem dX2_lookAt_44 : decode cX2_lookAt 44 = .ok (.getfield 39, 3) := by decide +kernel
theorem dX2_lookAt_47 : decode cX2_lookAt 47 = .ok (.iload_n 3, 1) := by decide +kernel
theorem dX2_lookAt_48 : decode cX2_lookAt 48 = .ok (.iaload, 1) := by decide +kernel
theorem dX2_lookAt_49 : decode cX2_lookAt 49 = .ok (.iastore, 1) := by decide +kernel
theorem dX2_lookAt_50 : decode cX2_lookAt 50 = .ok (.aload_n 0, 1) := by decide +kernel
theorem dX2_lookAt_51 : decode cX2_lookAt 51 = .ok (.getfield 25, 3) := by decide +kernel
theorem dX2_lookAt_54 : decode cX2_lookAt 54 = .ok (.iload_n 3, 1) := by decide +kernel
theorem dX2_lookAt_55 : decode cX2_lookAt 55 = .ok (.aload_n 1, 1) := by decide +kernel
theorem dX2_lookAt_56 : decode cX2_lookAt 56 = .ok (.iload_n 3, 1) := by decide +kernel
theorem dX2_lookAt_57 : decode cX2_lookAt 57 = .ok (.iload_n 2, 1) := by decide +kernel
theorem dX2_lookAt_58 : decode cX2_lookAt 58 = .ok (.invokevirtual 40, 3) := by decide +kernel
theorem dX2_lookAt_61 : decode cX2_lookAt 61 = .ok (.iastore, 1) := by decide +kernel
theorem dX2_lookAt_62 : decode cX2_lookAt 62 = .ok (.iinc 3 1, 3) := by decide +kernel
theorem dX2_lookAt_65 : decode cX2_lookAt 65 = .ok (.goto (-47), 3) := by decide +kernel
theorem dX2_lookAt_68 : decode cX2_lookAt 68 = .ok (.return_, 1) := by decide +kernel
def p2_lookAt_18 (b : Nat) (k18 : Int32 → Int32 → SX → Option SX) (v2 : Int32) (v3 : Int32) (M : SX) : Option SX :=
  if (M.1 54 0) ≤ v3 then (some M)
  else (gd (bIn v3 6) ( lt_ (wI M 55 (Int32.toNatClampNeg v3) (M.1 (b + 2) (Int32.toNatClampNeg v3))) (fun M3 => lt_ (wI M3 56 (Int32.toNatClampNeg v3) (M3.1 (b + 4) (Int32.toNatClampNeg v3))) (fun M4 => bd (p1_dueOf b v3 v2 M4) (fun r7 M6 => lt_ (wI M6 57 (Int32.toNatClampNeg v3) r7) (fun M8 => lt_ (v3 + 1) (fun x9 => k18 v2 x9 M8)))))))
set_option maxHeartbeats 4000000 in
set_option maxRecDepth 100000 in
theorem w2_lookAt_18 {G : XG} {p : Program} {l : Launch} {e : Env} {s : State} {m : MethodId} {args : Array Value} {below : List Frame} {meth : Method} {c : Code} (F : Fx G ZX p m c cX2_lookAt 4 s args RX2) (hr : meth.sig.returnType = none) (hk : meth.locks = false) {M' : SX} (b : Nat) (qb : isL b) (k18 : Int32 → Int32 → SX → Option SX) (hk18 : ∀ (v2 : Int32) (v3 : Int32) (M : SX) (H : Heap) (locs : List Loc) (ls : Array Slot), Wld G ZX M s.heap H locs → lv_has ls 4 [(0, .ref (G.2.1 54)), (1, .ref (G.2.1 b)), (2, .int v2), (3, .int v3)] → k18 v2 v3 M = some M' → WXv G ZX p l e 3 s m args below meth c M' H locs (F0 m 18 ls [])) : ∀ (v2 : Int32) (v3 : Int32) (M : SX) (H : Heap) (locs : List Loc) (ls : Array Slot), Wld G ZX M s.heap H locs → lv_has ls 4 [(0, .ref (G.2.1 54)), (1, .ref (G.2.1 b)), (2, .int v2), (3, .int v3)] → p2_lookAt_18 b k18 v2 v3 M = some M' → WXv G ZX p l e 3 s m args below meth c M' H locs (F0 m 18 ls []) := by
  intro v2 v3 M H locs ls hw hl hf
  have hx := F.1.1
  have hb := F.1.2.1
  unfold p2_lookAt_18 at hf
  refine lv_iload_n hx hb dX2_lookAt_18 rfl (lv_at hl 3 rfl) ?_
  refine lv_aload_n hx hb dX2_lookAt_19 rfl (lv_at hl 0 rfl) ?_
  refine g2_0 F hw tw_234 dX2_lookAt_20 ?_
  refine lv_icmp_ge (tgt := 68) hx hb dX2_lookAt_23 (by decide) (fun c1 => ?_) (fun c1 => ?_)
  · have hf := it_t hf c1
    exact x_vret F hw hr hk hf dX2_lookAt_68
  · have hf := it_f hf c1
    refine lv_aload_n hx hb dX2_lookAt_26 rfl (lv_at hl 0 rfl) ?_
    refine g2_2 F hw tw_238 dX2_lookAt_27 ?_
    refine lv_iload_n hx hb dX2_lookAt_30 rfl (lv_at hl 3 rfl) ?_
    refine lv_aload_n hx hb dX2_lookAt_31 rfl (lv_at hl 1 rfl) ?_
    refine g1_2 qb F hw tw_260 dX2_lookAt_32 ?_
    refine lv_iload_n hx hb dX2_lookAt_35 rfl (lv_at hl 3 rfl) ?_
    obtain ⟨g2, hf⟩ := gd_some hf
    refine x_iald F hw (sL2 qb) g2 dX2_lookAt_36 ?_
    refine x_iast F hw sO55 g2 dX2_lookAt_37 (fun H locs hw => ?_)
    obtain ⟨M3, eM3, hf⟩ := lt_elim hf
    rw [← eM3] at hw
    refine lv_aload_n hx hb dX2_lookAt_38 rfl (lv_at hl 0 rfl) ?_
    refine g2_3 F hw tw_235 dX2_lookAt_39 ?_
    refine lv_iload_n hx hb dX2_lookAt_42 rfl (lv_at hl 3 rfl) ?_
    refine lv_aload_n hx hb dX2_lookAt_43 rfl (lv_at hl 1 rfl) ?_
    refine g1_4 qb F hw tw_261 dX2_lookAt_44 ?_
    refine lv_iload_n hx hb dX2_lookAt_47 rfl (lv_at hl 3 rfl) ?_
    refine x_iald F hw (sL4 qb) g2 dX2_lookAt_48 ?_
    refine x_iast F hw sO56 g2 dX2_lookAt_49 (fun H locs hw => ?_)
    obtain ⟨M4, eM4, hf⟩ := lt_elim hf
    rw [← eM4] at hw
    refine lv_aload_n hx hb dX2_lookAt_50 rfl (lv_at hl 0 rfl) ?_
    refine g2_4 F hw tw_237 dX2_lookAt_51 ?_
    refine lv_iload_n hx hb dX2_lookAt_54 rfl (lv_at hl 3 rfl) ?_
    refine lv_aload_n hx hb dX2_lookAt_55 rfl (lv_at hl 1 rfl) ?_
    refine lv_iload_n hx hb dX2_lookAt_56 rfl (lv_at hl 3 rfl) ?_
    refine lv_iload_n hx hb dX2_lookAt_57 rfl (lv_at hl 2 rfl) ?_
    obtain ⟨r7, M6, hc5, hf⟩ := bd_some hf
    refine x_aftI hw (x_runV (rest := [.int v3, .ref (G.2.1 57)]) F hw hl.1 vw_RX2_40 (sL qb) rfl (c1_dueOf b qb v3 v2 hc5) rfl rfl (Nat.le_of_ble_eq_true rfl) ⟨Nat.le_of_ble_eq_true rfl, Nat.le_of_ble_eq_true rfl⟩ dX2_lookAt_58) (fun H locs hw => ?_)
    refine x_iast F hw sO57 g2 dX2_lookAt_61 (fun H locs hw => ?_)
    obtain ⟨M8, eM8, hf⟩ := lt_elim hf
    rw [← eM8] at hw
    obtain ⟨x9, ex9, hf⟩ := lt_elim hf
    refine lv_iinc (v := x9) (lv' := [(3, .int x9), (0, .ref (G.2.1 54)), (1, .ref (G.2.1 b)), (2, .int v2)]) hx hb dX2_lookAt_62 hl (k := 3) rfl (by rw [ex9]; rfl) (by decide) rfl (fun ls hl => ?_)
    refine lv_goto (tgt := 18) hx hb dX2_lookAt_65 (by decide) ?_
    exact hk18 v2 x9 M8 _ _ ls hw (lv_sub hl [1, 2, 3, 0] rfl) hf
theorem z2_lookAt_18 {G : XG} {p : Program} {l : Launch} {e : Env} {s : State} {m : MethodId} {args : Array Value} {below : List Frame} {meth : Method} {c : Code} (F : Fx G ZX p m c cX2_lookAt 4 s args RX2) (hr : meth.sig.returnType = none) (hk : meth.locks = false) {M' : SX} (b : Nat) (qb : isL b) : ∀ n : Nat, ∀ (v2 : Int32) (v3 : Int32) (M : SX) (H : Heap) (locs : List Loc) (ls : Array Slot), Wld G ZX M s.heap H locs → lv_has ls 4 [(0, .ref (G.2.1 54)), (1, .ref (G.2.1 b)), (2, .int v2), (3, .int v3)] → xlp2 (p2_lookAt_18 b) n v2 v3 M = some M' → WXv G ZX p l e 3 s m args below meth c M' H locs (F0 m 18 ls []) := by
  intro n
  induction n with
  | zero => intro _ _ _ _ _ _ _ _ hf; cases hf
  | succ n ih => exact w2_lookAt_18 F hr hk b qb (xlp2 (p2_lookAt_18 b) n) ih
def p2_lookAt (b : Nat) (a2 : Int32) (M : SX) : Option SX :=
  lt_ (wI M 54 0 (M.1 b 0)) (fun M1 => bd (p1_pawnedSet b M1) (fun r4 M3 => lt_ (wI M3 54 1 r4) (fun M5 => xlp2 (p2_lookAt_18 b) FU a2 0 M5)))
set_option maxHeartbeats 4000000 in
set_option maxRecDepth 100000 in
theorem c2_lookAt {l : Launch} {G : XG} {M' : SX} {M : SX} (b : Nat) (qb : isL b) (a2 : Int32) (hf : p2_lookAt b a2 M = some M') : Met l yX2_lookAt (.code yX2_lookAt cX2_lookAt 4 none :: TBL) (rmX 3) (xPc G ZX M [.ref (G.2.1 54), .ref (G.2.1 b), .int a2]) (xQv G ZX M') 0 0 (inA G ZX) := by
  refine x_met (cc := cX2_lookAt) (by decide) (Nat.le_of_ble_eq_true rfl) ?_
  intro p e s m below meth c ls F hr hk hl hw
  have F : Fx G ZX p m c cX2_lookAt 4 s [.ref (G.2.1 54), .ref (G.2.1 b), .int a2].toArray RX2 := F
  have hl : lv_has ls 4 [(0, .ref (G.2.1 54)), (1, .ref (G.2.1 b)), (2, .int a2)] := hl
  have hx := F.1.1
  have hb := F.1.2.1
  unfold p2_lookAt at hf
  refine lv_aload_n hx hb dX2_lookAt_0 rfl (lv_at hl 0 rfl) ?_
  refine lv_aload_n hx hb dX2_lookAt_1 rfl (lv_at hl 1 rfl) ?_
  refine g1_0 qb F hw tw_264 dX2_lookAt_2 ?_
  refine s2_0 F hw tw_234 dX2_lookAt_5 (fun H locs hw => ?_)
  obtain ⟨M1, eM1, hf⟩ := lt_elim hf
  rw [← eM1] at hw
  refine lv_aload_n hx hb dX2_lookAt_8 rfl (lv_at hl 0 rfl) ?_
  refine lv_aload_n hx hb dX2_lookAt_9 rfl (lv_at hl 1 rfl) ?_
  obtain ⟨r4, M3, hc2, hf⟩ := bd_some hf
  refine x_aftI hw (x_runV (rest := [.ref (G.2.1 54)]) F hw hl.1 vw_RX2_34 (sL qb) rfl (c1_pawnedSet b qb hc2) rfl rfl (Nat.le_of_ble_eq_true rfl) ⟨Nat.le_of_ble_eq_true rfl, Nat.le_of_ble_eq_true rfl⟩ dX2_lookAt_10) (fun H locs hw => ?_)
  refine s2_1 F hw tw_239 dX2_lookAt_13 (fun H locs hw => ?_)
  obtain ⟨M5, eM5, hf⟩ := lt_elim hf
  rw [← eM5] at hw
  refine lv_iconst (v := 0) hx hb dX2_lookAt_16 (by decide) ?_
  refine lv_istore_n (lv' := [(3, .int 0), (0, .ref (G.2.1 54)), (1, .ref (G.2.1 b)), (2, .int a2)]) hx hb dX2_lookAt_17 rfl hl (by decide) rfl (fun ls hl => ?_)
  exact z2_lookAt_18 F hr hk b qb FU a2 0 M5 _ _ ls hw (lv_sub hl [1, 2, 3, 0] rfl) hf
theorem dX2_nextAfter_0 : decode cX2_nextAfter 0 = .ok (.iconst 0, 1) := by decide +kernel
theorem dX2_nextAfter_1 : decode cX2_nextAfter 1 = .ok (.istore_n 2, 1) := by decide +kernel
theorem dX2_nextAfter_2 : decode cX2_nextAfter 2 = .ok (.iconst 0, 1) := by decide +kernel
theorem dX2_nextAfter_3 : decode cX2_nextAfter 3 = .ok (.istore_n 3, 1) := by decide +kernel
theorem dX2_nextAfter_4 : decode cX2_nextAfter 4 = .ok (.iload_n 3, 1) := by decide +kernel
theorem dX2_nextAfter_5 : decode cX2_nextAfter 5 = .ok (.aload_n 0, 1) := by decide +kernel
theorem dX2_nextAfter_6 : decode cX2_nextAfter 6 = .ok (.getfield 9, 3) := by decide +kernel
theorem dX2_nextAfter_9 : decode cX2_nextAfter 9 = .ok (.if_icmp .ge 24, 3) := by decide +kernel
theorem dX2_nextAfter_12 : decode cX2_nextAfter 12 = .ok (.aload_n 0, 1) := by decide +kernel
theorem dX2_nextAfter_13 : decode cX2_nextAfter 13 = .ok (.iload_n 1, 1) := by decide +kernel
theorem dX2_nextAfter_14 : decode cX2_nextAfter 14 = .ok (.iload_n 3, 1) := by decide +kernel
theorem dX2_nextAfter_15 : decode cX2_nextAfter 15 = .ok (.invokevirtual 54, 3) := by decide +kernel
theorem dX2_nextAfter_18 : decode cX2_nextAfter 18 = .ok (.ifCond .eq 9, 3) := by decide +kernel
theorem dX2_nextAfter_21 : decode cX2_nextAfter 21 = .ok (.iload_n 2, 1) := by decide +kernel
theorem dX2_nextAfter_22 : decode cX2_nextAfter 22 = .ok (.iconst 1, 1) := by decide +kernel
theorem dX2_nextAfter_23 : decode cX2_nextAfter 23 = .ok (.iload_n 3, 1) := by decide +kernel
theorem dX2_nextAfter_24 : decode cX2_nextAfter 24 = .ok (.ishl, 1) := by decide +kernel
theorem dX2_nextAfter_25 : decode cX2_nextAfter 25 = .ok (.ior, 1) := by decide +kernel
theorem dX2_nextAfter_26 : decode cX2_nextAfter 26 = .ok (.istore_n 2, 1) := by decide +kernel
theorem dX2_nextAfter_27 : decode cX2_nextAfter 27 = .ok (.iinc 3 1, 3) := by decide +kernel
theorem dX2_nextAfter_30 : decode cX2_nextAfter 30 = .ok (.goto (-26), 3) := by decide +kernel
theorem dX2_nextAfter_33 : decode cX2_nextAfter 33 = .ok (.iload_n 2, 1) := by decide +kernel
theorem dX2_nextAfter_34 : decode cX2_nextAfter 34 = .ok (.ireturn, 1) := by decide +kernel
def p2_nextAfter_27 (k4 : Int32 → Int32 → Int32 → SX → Option (Int32 × SX)) (v1 : Int32) (v2 : Int32) (v3 : Int32) (M : SX) : Option (Int32 × SX) :=
  lt_ (v3 + 1) (fun x1 => k4 v1 v2 x1 M)
set_option maxHeartbeats 4000000 in
set_option maxRecDepth 100000 in
theorem w2_nextAfter_27 {G : XG} {p : Program} {l : Launch} {e : Env} {s : State} {m : MethodId} {args : Array Value} {below : List Frame} {meth : Method} {c : Code} (F : Fx G ZX p m c cX2_nextAfter 4 s args RX2) (hr : meth.sig.returnType = some .int) (hk : meth.locks = false) {r : Int32} {M' : SX} (k4 : Int32 → Int32 → Int32 → SX → Option (Int32 × SX)) (hk4 : ∀ (v1 : Int32) (v2 : Int32) (v3 : Int32) (M : SX) (H : Heap) (locs : List Loc) (ls : Array Slot), Wld G ZX M s.heap H locs → lv_has ls 4 [(0, .ref (G.2.1 54)), (1, .int v1), (2, .int v2), (3, .int v3)] → k4 v1 v2 v3 M = some (r, M') → WXi G ZX p l e 3 s m args below meth c r M' H locs (F0 m 4 ls [])) : ∀ (v1 : Int32) (v2 : Int32) (v3 : Int32) (M : SX) (H : Heap) (locs : List Loc) (ls : Array Slot), Wld G ZX M s.heap H locs → lv_has ls 4 [(0, .ref (G.2.1 54)), (1, .int v1), (2, .int v2), (3, .int v3)] → p2_nextAfter_27 k4 v1 v2 v3 M = some (r, M') → WXi G ZX p l e 3 s m args below meth c r M' H locs (F0 m 27 ls []) := by
  intro v1 v2 v3 M H locs ls hw hl hf
  have hx := F.1.1
  have hb := F.1.2.1
  unfold p2_nextAfter_27 at hf
  obtain ⟨x1, ex1, hf⟩ := lt_elim hf
  refine lv_iinc (v := x1) (lv' := [(3, .int x1), (0, .ref (G.2.1 54)), (1, .int v1), (2, .int v2)]) hx hb dX2_nextAfter_27 hl (k := 3) rfl (by rw [ex1]; rfl) (by decide) rfl (fun ls hl => ?_)
  refine lv_goto (tgt := 4) hx hb dX2_nextAfter_30 (by decide) ?_
  exact hk4 v1 v2 x1 M _ _ ls hw (lv_sub hl [1, 2, 3, 0] rfl) hf
def p2_nextAfter_4 (k4 : Int32 → Int32 → Int32 → SX → Option (Int32 × SX)) (v1 : Int32) (v2 : Int32) (v3 : Int32) (M : SX) : Option (Int32 × SX) :=
  if (M.1 54 0) ≤ v3 then (some (v2, M))
  else (bd (p2_goesOn v1 v3 M) (fun r4 M3 => if r4 = 0 then (p2_nextAfter_27 k4 v1 v2 v3 M3)
  else (lt_ (v2 ||| ((1 : Int32) <<< (v3 &&& 31))) (fun x6 => p2_nextAfter_27 k4 v1 x6 v3 M3))))
set_option maxHeartbeats 4000000 in
set_option maxRecDepth 100000 in
theorem w2_nextAfter_4 {G : XG} {p : Program} {l : Launch} {e : Env} {s : State} {m : MethodId} {args : Array Value} {below : List Frame} {meth : Method} {c : Code} (F : Fx G ZX p m c cX2_nextAfter 4 s args RX2) (hr : meth.sig.returnType = some .int) (hk : meth.locks = false) {r : Int32} {M' : SX} (k4 : Int32 → Int32 → Int32 → SX → Option (Int32 × SX)) (hk4 : ∀ (v1 : Int32) (v2 : Int32) (v3 : Int32) (M : SX) (H : Heap) (locs : List Loc) (ls : Array Slot), Wld G ZX M s.heap H locs → lv_has ls 4 [(0, .ref (G.2.1 54)), (1, .int v1), (2, .int v2), (3, .int v3)] → k4 v1 v2 v3 M = some (r, M') → WXi G ZX p l e 3 s m args below meth c r M' H locs (F0 m 4 ls [])) : ∀ (v1 : Int32) (v2 : Int32) (v3 : Int32) (M : SX) (H : Heap) (locs : List Loc) (ls : Array Slot), Wld G ZX M s.heap H locs → lv_has ls 4 [(0, .ref (G.2.1 54)), (1, .int v1), (2, .int v2), (3, .int v3)] → p2_nextAfter_4 k4 v1 v2 v3 M = some (r, M') → WXi G ZX p l e 3 s m args below meth c r M' H locs (F0 m 4 ls []) := by
  intro v1 v2 v3 M H locs ls hw hl hf
  have hx := F.1.1
  have hb := F.1.2.1
  unfold p2_nextAfter_4 at hf
  refine lv_iload_n hx hb dX2_nextAfter_4 rfl (lv_at hl 3 rfl) ?_
  refine lv_aload_n hx hb dX2_nextAfter_5 rfl (lv_at hl 0 rfl) ?_
  refine g2_0 F hw tw_234 dX2_nextAfter_6 ?_
  refine lv_icmp_ge (tgt := 33) hx hb dX2_nextAfter_9 (by decide) (fun c1 => ?_) (fun c1 => ?_)
  · have hf := it_t hf c1
    refine lv_iload_n hx hb dX2_nextAfter_33 rfl (lv_at hl 2 rfl) ?_
    exact x_iret F hw hr hk hf dX2_nextAfter_34
  · have hf := it_f hf c1
    refine lv_aload_n hx hb dX2_nextAfter_12 rfl (lv_at hl 0 rfl) ?_
    refine lv_iload_n hx hb dX2_nextAfter_13 rfl (lv_at hl 1 rfl) ?_
    refine lv_iload_n hx hb dX2_nextAfter_14 rfl (lv_at hl 3 rfl) ?_
    obtain ⟨r4, M3, hc2, hf⟩ := bd_some hf
    refine x_aftI hw (x_runV (rest := []) F hw hl.1 vw_RX2_54 (sO) rfl (c2_goesOn v1 v3 hc2) rfl rfl (Nat.le_of_ble_eq_true rfl) ⟨Nat.le_of_ble_eq_true rfl, Nat.le_of_ble_eq_true rfl⟩ dX2_nextAfter_15) (fun H locs hw => ?_)
    refine lv_if_eq (tgt := 27) hx hb dX2_nextAfter_18 (by decide) (fun c5 => ?_) (fun c5 => ?_)
    · have hf := it_t hf c5
      exact w2_nextAfter_27 F hr hk k4 hk4 v1 v2 v3 M3 _ _ ls hw (lv_sub hl [0, 1, 2, 3] rfl) hf
    · have hf := it_f hf c5
      refine lv_iload_n hx hb dX2_nextAfter_21 rfl (lv_at hl 2 rfl) ?_
      refine lv_iconst (v := 1) hx hb dX2_nextAfter_22 (by decide) ?_
      refine lv_iload_n hx hb dX2_nextAfter_23 rfl (lv_at hl 3 rfl) ?_
      refine lv_ishl hx hb dX2_nextAfter_24 ?_
      refine lv_ior hx hb dX2_nextAfter_25 ?_
      obtain ⟨x6, ex6, hf⟩ := lt_elim hf
      refine x_let ex6 ?_
      refine lv_istore_n (lv' := [(2, .int x6), (0, .ref (G.2.1 54)), (1, .int v1), (3, .int v3)]) hx hb dX2_nextAfter_26 rfl hl (by decide) rfl (fun ls hl => ?_)
      exact w2_nextAfter_27 F hr hk k4 hk4 v1 x6 v3 M3 _ _ ls hw (lv_sub hl [1, 2, 0, 3] rfl) hf
theorem z2_nextAfter_4 {G : XG} {p : Program} {l : Launch} {e : Env} {s : State} {m : MethodId} {args : Array Value} {below : List Frame} {meth : Method} {c : Code} (F : Fx G ZX p m c cX2_nextAfter 4 s args RX2) (hr : meth.sig.returnType = some .int) (hk : meth.locks = false) {r : Int32} {M' : SX} : ∀ n : Nat, ∀ (v1 : Int32) (v2 : Int32) (v3 : Int32) (M : SX) (H : Heap) (locs : List Loc) (ls : Array Slot), Wld G ZX M s.heap H locs → lv_has ls 4 [(0, .ref (G.2.1 54)), (1, .int v1), (2, .int v2), (3, .int v3)] → xlp3 p2_nextAfter_4 n v1 v2 v3 M = some (r, M') → WXi G ZX p l e 3 s m args below meth c r M' H locs (F0 m 4 ls []) := by
  intro n
  induction n with
  | zero => intro _ _ _ _ _ _ _ _ _ hf; cases hf
  | succ n ih => exact w2_nextAfter_4 F hr hk (xlp3 p2_nextAfter_4 n) ih
def p2_nextAfter (a1 : Int32) (M : SX) : Option (Int32 × SX) :=
  xlp3 p2_nextAfter_4 FU a1 0 0 M
set_option maxHeartbeats 4000000 in
set_option maxRecDepth 100000 in
theorem c2_nextAfter {l : Launch} {G : XG} {r : Int32} {M' : SX} {M : SX} (a1 : Int32) (hf : p2_nextAfter a1 M = some (r, M')) : Met l yX2_nextAfter (.code yX2_nextAfter cX2_nextAfter 4 (some .int) :: TBL) (rmX 3) (xPc G ZX M [.ref (G.2.1 54), .int a1]) (xQi G ZX r M') 0 0 (inA G ZX) := by
  refine x_met (cc := cX2_nextAfter) (by decide) (Nat.le_of_ble_eq_true rfl) ?_
  intro p e s m below meth c ls F hr hk hl hw
  have F : Fx G ZX p m c cX2_nextAfter 4 s [.ref (G.2.1 54), .int a1].toArray RX2 := F
  have hl : lv_has ls 4 [(0, .ref (G.2.1 54)), (1, .int a1)] := hl
  have hx := F.1.1
  have hb := F.1.2.1
  unfold p2_nextAfter at hf
  refine lv_iconst (v := 0) hx hb dX2_nextAfter_0 (by decide) ?_
  refine lv_istore_n (lv' := [(2, .int 0), (0, .ref (G.2.1 54)), (1, .int a1)]) hx hb dX2_nextAfter_1 rfl hl (by decide) rfl (fun ls hl => ?_)
  refine lv_iconst (v := 0) hx hb dX2_nextAfter_2 (by decide) ?_
  refine lv_istore_n (lv' := [(3, .int 0), (2, .int 0), (0, .ref (G.2.1 54)), (1, .int a1)]) hx hb dX2_nextAfter_3 rfl hl (by decide) rfl (fun ls hl => ?_)
  exact z2_nextAfter_4 F hr hk FU a1 0 0 M _ _ ls hw (lv_sub hl [2, 3, 1, 0] rfl) hf
theorem dX2_isStep_0 : decode cX2_isStep 0 = .ok (.iload_n 2, 1) := by decide +kernel
theorem dX2_isStep_1 : decode cX2_isStep 1 = .ok (.iload_n 1, 1) := by decide +kernel
theorem dX2_isStep_2 : decode cX2_isStep 2 = .ok (.iconst (-1), 1) := by decide +kernel
theorem dX2_isStep_3 : decode cX2_isStep 3 = .ok (.ixor, 1) := by decide +kernel
theorem dX2_isStep_4 : decode cX2_isStep 4 = .ok (.iand, 1) := by decide +kernel
theorem dX2_isStep_5 : decode cX2_isStep 5 = .ok (.istore_n 3, 1) := by decide +kernel
theorem dX2_isStep_6 : decode cX2_isStep 6 = .ok (.iload_n 1, 1) := by decide +kernel
theorem dX2_isStep_7 : decode cX2_isStep 7 = .ok (.iload_n 2, 1) := by decide +kernel
theorem dX2_isStep_8 : decode cX2_isStep 8 = .ok (.iconst (-1), 1) := by decide +kernel
theorem dX2_isStep_9 : decode cX2_isStep 9 = .ok (.ixor, 1) := by decide +kernel
theorem dX2_isStep_10 : decode cX2_isStep 10 = .ok (.iand, 1) := by decide +kernel
theorem dX2_isStep_11 : decode cX2_isStep 11 = .ok (.ifCond .ne 27, 3) := by decide +kernel
theorem dX2_isStep_14 : decode cX2_isStep 14 = .ok (.iload_n 3, 1) := by decide +kernel
theorem dX2_isStep_15 : decode cX2_isStep 15 = .ok (.invokestatic 57, 3) := by decide +kernel
theorem dX2_isStep_18 : decode cX2_isStep 18 = .ok (.iconst 1, 1) := by decide +kernel
theorem dX2_isStep_19 : decode cX2_isStep 19 = .ok (.if_icmp .ne 19, 3) := by decide +kernel
theorem dX2_isStep_22 : decode cX2_isStep 22 = .ok (.aload_n 0, 1) := by decide +kernel
theorem dX2_isStep_23 : decode cX2_isStep 23 = .ok (.iload_n 1, 1) := by decide +kernel
theorem dX2_isStep_24 : decode cX2_isStep 24 = .ok (.iload_n 3, 1) := by decide +kernel
theorem dX2_isStep_25 : decode cX2_isStep 25 = .ok (.invokestatic 63, 3) := by decide +kernel
theorem dX2_isStep_28 : decode cX2_isStep 28 = .ok (.invokevirtual 54, 3) := by decide +kernel
theorem dX2_isStep_31 : decode cX2_isStep 31 = .ok (.ifCond .eq 7, 3) := by decide +kernel
theorem dX2_isStep_34 : decode cX2_isStep 34 = .ok (.iconst 1, 1) := by decide +kernel
theorem dX2_isStep_35 : decode cX2_isStep 35 = .ok (.goto 4, 3) := by decide +kernel
theorem dX2_isStep_38 : decode cX2_isStep 38 = .ok (.iconst 0, 1) := by decide +kernel
theorem dX2_isStep_39 : decode cX2_isStep 39 = .ok (.ireturn, 1) := by decide +kernel
def p2_isStep (a1 : Int32) (a2 : Int32) (M : SX) : Option (Int32 × SX) :=
  lt_ (a2 &&& (a1 ^^^ (-1))) (fun x1 => if (a1 &&& (a2 ^^^ (-1))) = 0 then (bd (pj_bits x1 M) (fun r5 M4 => if r5 = (1 : Int32) then (bd (pj_ntz x1 M4) (fun r9 M8 => bd (p2_goesOn a1 r9 M8) (fun r12 M11 => if r12 = 0 then (some (0, M11))
  else (some (1, M11)))))
  else (some (0, M4))))
  else (some (0, M)))
set_option maxHeartbeats 4000000 in
set_option maxRecDepth 100000 in
theorem c2_isStep {l : Launch} {G : XG} {r : Int32} {M' : SX} {M : SX} (a1 : Int32) (a2 : Int32) (hf : p2_isStep a1 a2 M = some (r, M')) : Met l yX2_isStep (.code yX2_isStep cX2_isStep 4 (some .boolean) :: TBL) (rmX 3) (xPc G ZX M [.ref (G.2.1 54), .int a1, .int a2]) (xQi G ZX r M') 0 0 (inA G ZX) := by
  refine x_met (cc := cX2_isStep) (by decide) (Nat.le_of_ble_eq_true rfl) ?_
  intro p e s m below meth c ls F hr hk hl hw
  have F : Fx G ZX p m c cX2_isStep 4 s [.ref (G.2.1 54), .int a1, .int a2].toArray RX2 := F
  have hl : lv_has ls 4 [(0, .ref (G.2.1 54)), (1, .int a1), (2, .int a2)] := hl
  have hx := F.1.1
  have hb := F.1.2.1
  unfold p2_isStep at hf
  refine lv_iload_n hx hb dX2_isStep_0 rfl (lv_at hl 2 rfl) ?_
  refine lv_iload_n hx hb dX2_isStep_1 rfl (lv_at hl 1 rfl) ?_
  refine lv_iconst (v := (-1)) hx hb dX2_isStep_2 (by decide) ?_
  refine lv_ixor hx hb dX2_isStep_3 ?_
  refine lv_iand hx hb dX2_isStep_4 ?_
  obtain ⟨x1, ex1, hf⟩ := lt_elim hf
  refine x_let ex1 ?_
  refine lv_istore_n (lv' := [(3, .int x1), (0, .ref (G.2.1 54)), (1, .int a1), (2, .int a2)]) hx hb dX2_isStep_5 rfl hl (by decide) rfl (fun ls hl => ?_)
  refine lv_iload_n hx hb dX2_isStep_6 rfl (lv_at hl 2 rfl) ?_
  refine lv_iload_n hx hb dX2_isStep_7 rfl (lv_at hl 3 rfl) ?_
  refine lv_iconst (v := (-1)) hx hb dX2_isStep_8 (by decide) ?_
  refine lv_ixor hx hb dX2_isStep_9 ?_
  refine lv_iand hx hb dX2_isStep_10 ?_
  refine lv_if_ne (tgt := 38) hx hb dX2_isStep_11 (by decide) (fun c2 => ?_) (fun c2 => ?_)
  · have hf := it_f hf c2
    refine lv_iconst (v := 0) hx hb dX2_isStep_38 (by decide) ?_
    exact x_zret F hw hr hk (by decide) hf dX2_isStep_39
  · have hf := it_t hf c2
    refine lv_iload_n hx hb dX2_isStep_14 rfl (lv_at hl 0 rfl) ?_
    obtain ⟨r5, M4, hc3, hf⟩ := bd_some hf
    refine x_aftI hw (x_runS (rest := []) F hw hl.1 sw_RX2_57 (cj_bits x1 hc3) rfl rfl (Nat.le_of_ble_eq_true rfl) ⟨Nat.le_of_ble_eq_true rfl, Nat.le_of_ble_eq_true rfl⟩ dX2_isStep_15) (fun H locs hw => ?_)
    refine lv_iconst (v := 1) hx hb dX2_isStep_18 (by decide) ?_
    refine lv_icmp_ne (tgt := 38) hx hb dX2_isStep_19 (by decide) (fun c6 => ?_) (fun c6 => ?_)
    · have hf := it_f hf c6
      refine lv_iconst (v := 0) hx hb dX2_isStep_38 (by decide) ?_
      exact x_zret F hw hr hk (by decide) hf dX2_isStep_39
    · have hf := it_t hf c6
      refine lv_aload_n hx hb dX2_isStep_22 rfl (lv_at hl 1 rfl) ?_
      refine lv_iload_n hx hb dX2_isStep_23 rfl (lv_at hl 2 rfl) ?_
      refine lv_iload_n hx hb dX2_isStep_24 rfl (lv_at hl 0 rfl) ?_
      obtain ⟨r9, M8, hc7, hf⟩ := bd_some hf
      refine x_aftI hw (x_runS (rest := [.int a1, .ref (G.2.1 54)]) F hw hl.1 sw_RX2_63 (cj_ntz x1 hc7) rfl rfl (Nat.le_of_ble_eq_true rfl) ⟨Nat.le_of_ble_eq_true rfl, Nat.le_of_ble_eq_true rfl⟩ dX2_isStep_25) (fun H locs hw => ?_)
      obtain ⟨r12, M11, hc10, hf⟩ := bd_some hf
      refine x_aftI hw (x_runV (rest := []) F hw hl.1 vw_RX2_54 (sO) rfl (c2_goesOn a1 r9 hc10) rfl rfl (Nat.le_of_ble_eq_true rfl) ⟨Nat.le_of_ble_eq_true rfl, Nat.le_of_ble_eq_true rfl⟩ dX2_isStep_28) (fun H locs hw => ?_)
      refine lv_if_eq (tgt := 38) hx hb dX2_isStep_31 (by decide) (fun c13 => ?_) (fun c13 => ?_)
      · have hf := it_t hf c13
        refine lv_iconst (v := 0) hx hb dX2_isStep_38 (by decide) ?_
        exact x_zret F hw hr hk (by decide) hf dX2_isStep_39
      · have hf := it_f hf c13
        refine lv_iconst (v := 1) hx hb dX2_isStep_34 (by decide) ?_
        refine lv_goto (tgt := 39) hx hb dX2_isStep_35 (by decide) ?_
        exact x_zret F hw hr hk (by decide) hf dX2_isStep_39
theorem dX2_needOf_0 : decode cX2_needOf 0 = .ok (.aload_n 0, 1) := by decide +kernel
theorem dX2_needOf_1 : decode cX2_needOf 1 = .ok (.getfield 28, 3) := by decide +kernel
theorem dX2_needOf_4 : decode cX2_needOf 4 = .ok (.ldc 78, 2) := by decide +kernel
theorem dX2_needOf_6 : decode cX2_needOf 6 = .ok (.invokestatic 66, 3) := by decide +kernel
theorem dX2_needOf_9 : decode cX2_needOf 9 = .ok (.aload_n 0, 1) := by decide +kernel
theorem dX2_needOf_10 : decode cX2_needOf 10 = .ok (.getfield 28, 3) := by decide +kernel
theorem dX2_needOf_13 : decode cX2_needOf 13 = .ok (.iconst 0, 1) := by decide +kernel
theorem dX2_needOf_14 : decode cX2_needOf 14 = .ok (.iconst 0, 1) := by decide +kernel
theorem dX2_needOf_15 : decode cX2_needOf 15 = .ok (.iastore, 1) := by decide +kernel
theorem dX2_needOf_16 : decode cX2_needOf 16 = .ok (.iconst 0, 1) := by decide +kernel
theorem dX2_needOf_17 : decode cX2_needOf 17 = .ok (.istore_n 2, 1) := by decide +kernel
theorem dX2_needOf_18 : decode cX2_needOf 18 = .ok (.iload_n 2, 1) := by decide +kernel
theorem dX2_needOf_19 : decode cX2_needOf 19 = .ok (.aload_n 0, 1) := by decide +kernel
theorem dX2_needOf_20 : decode cX2_needOf 20 = .ok (.getfield 15, 3) := by decide +kernel
theorem dX2_needOf_23 : decode cX2_needOf 23 = .ok (.if_icmp .ge 26, 3) := by decide +kernel
theorem dX2_needOf_26 : decode cX2_needOf 26 = .ok (.aload_n 0, 1) := by decide +kernel
theorem dX2_needOf_27 : decode cX2_needOf 27 = .ok (.getfield 28, 3) := by decide +kernel
theorem dX2_needOf_30 : decode cX2_needOf 30 = .ok (.iload_n 2, 1) := by decide +kernel
theorem dX2_needOf_31 : decode cX2_needOf 31 = .ok (.iaload, 1) := by decide +kernel
theorem dX2_needOf_32 : decode cX2_needOf 32 = .ok (.ldc 78, 2) := by decide +kernel
theorem dX2_needOf_34 : decode cX2_needOf 34 = .ok (.if_icmp .ge 9, 3) := by decide +kernel
theorem dX2_needOf_37 : decode cX2_needOf 37 = .ok (.aload_n 0, 1) := by decide +kernel
theorem dX2_needOf_38 : decode cX2_needOf 38 = .ok (.iload_n 2, 1) := by decide +kernel
theorem dX2_needOf_39 : decode cX2_needOf 39 = .ok (.iload_n 1, 1) := by decide +kernel
theorem dX2_needOf_40 : decode cX2_needOf 40 = .ok (.invokevirtual 84, 3) := by decide +kernel
theorem dX2_needOf_43 : decode cX2_needOf 43 = .ok (.iinc 2 1, 3) := by decide +kernel
theorem dX2_needOf_46 : decode cX2_needOf 46 = .ok (.goto (-28), 3) := by decide +kernel
theorem dX2_needOf_49 : decode cX2_needOf 49 = .ok (.aload_n 0, 1) := by decide +kernel
theorem dX2_needOf_50 : decode cX2_needOf 50 = .ok (.getfield 28, 3) := by decide +kernel
theorem dX2_needOf_53 : decode cX2_needOf 53 = .ok (.aload_n 0, 1) := by decide +kernel
theorem dX2_needOf_54 : decode cX2_needOf 54 = .ok (.getfield 15, 3) := by decide +kernel
theorem dX2_needOf_57 : decode cX2_needOf 57 = .ok (.iaload, 1) := by decide +kernel
theorem dX2_needOf_58 : decode cX2_needOf 58 = .ok (.ldc 78, 2) := by decide +kernel
theorem dX2_needOf_60 : decode cX2_needOf 60 = .ok (.if_icmp .ge 15, 3) := by decide +kernel
theorem dX2_needOf_63 : decode cX2_needOf 63 = .ok (.aload_n 0, 1) := by decide +kernel
theorem dX2_needOf_64 : decode cX2_needOf 64 = .ok (.getfield 28, 3) := by decide +kernel
theorem dX2_needOf_67 : decode cX2_needOf 67 = .ok (.aload_n 0, 1) := by decide +kernel
theorem dX2_needOf_68 : decode cX2_needOf 68 = .ok (.getfield 15, 3) := by decide +kernel
theorem dX2_needOf_71 : decode cX2_needOf 71 = .ok (.iaload, 1) := by decide +kernel
theorem dX2_needOf_72 : decode cX2_needOf 72 = .ok (.goto 5, 3) := by decide +kernel
theorem dX2_needOf_75 : decode cX2_needOf 75 = .ok (.bipush (-9), 2) := by decide +kernel
theorem dX2_needOf_77 : decode cX2_needOf 77 = .ok (.ireturn, 1) := by decide +kernel
def p2_needOf_43 (k18 : Int32 → Int32 → SX → Option (Int32 × SX)) (v1 : Int32) (v2 : Int32) (M : SX) : Option (Int32 × SX) :=
  lt_ (v2 + 1) (fun x1 => k18 v1 x1 M)
set_option maxHeartbeats 4000000 in
set_option maxRecDepth 100000 in
theorem w2_needOf_43 {G : XG} {p : Program} {l : Launch} {e : Env} {s : State} {m : MethodId} {args : Array Value} {below : List Frame} {meth : Method} {c : Code} (F : Fx G ZX p m c cX2_needOf 3 s args RX2) (hr : meth.sig.returnType = some .int) (hk : meth.locks = false) {r : Int32} {M' : SX} (k18 : Int32 → Int32 → SX → Option (Int32 × SX)) (hk18 : ∀ (v1 : Int32) (v2 : Int32) (M : SX) (H : Heap) (locs : List Loc) (ls : Array Slot), Wld G ZX M s.heap H locs → lv_has ls 3 [(0, .ref (G.2.1 54)), (1, .int v1), (2, .int v2)] → k18 v1 v2 M = some (r, M') → WXi G ZX p l e 3 s m args below meth c r M' H locs (F0 m 18 ls [])) : ∀ (v1 : Int32) (v2 : Int32) (M : SX) (H : Heap) (locs : List Loc) (ls : Array Slot), Wld G ZX M s.heap H locs → lv_has ls 3 [(0, .ref (G.2.1 54)), (1, .int v1), (2, .int v2)] → p2_needOf_43 k18 v1 v2 M = some (r, M') → WXi G ZX p l e 3 s m args below meth c r M' H locs (F0 m 43 ls []) := by
  intro v1 v2 M H locs ls hw hl hf
  have hx := F.1.1
  have hb := F.1.2.1
  unfold p2_needOf_43 at hf
  obtain ⟨x1, ex1, hf⟩ := lt_elim hf
  refine lv_iinc (v := x1) (lv' := [(2, .int x1), (0, .ref (G.2.1 54)), (1, .int v1)]) hx hb dX2_needOf_43 hl (k := 2) rfl (by rw [ex1]; rfl) (by decide) rfl (fun ls hl => ?_)
  refine lv_goto (tgt := 18) hx hb dX2_needOf_46 (by decide) ?_
  exact hk18 v1 x1 M _ _ ls hw (lv_sub hl [1, 2, 0] rfl) hf
def p2_needOf_18 (k18 : Int32 → Int32 → SX → Option (Int32 × SX)) (v1 : Int32) (v2 : Int32) (M : SX) : Option (Int32 × SX) :=
  if (M.1 54 1) ≤ v2 then (gd (bIn (M.1 54 1) 64) ( if (1000000 : Int32) ≤ (M.1 58 (Int32.toNatClampNeg (M.1 54 1))) then (some ((-9), M))
  else (some (M.1 58 (Int32.toNatClampNeg (M.1 54 1)), M))))
  else (gd (bIn v2 64) ( if (1000000 : Int32) ≤ (M.1 58 (Int32.toNatClampNeg v2)) then (p2_needOf_43 k18 v1 v2 M)
  else (bv (p2_spreadNeed v2 v1 M) (fun M7 => p2_needOf_43 k18 v1 v2 M7))))
set_option maxHeartbeats 4000000 in
set_option maxRecDepth 100000 in
theorem w2_needOf_18 {G : XG} {p : Program} {l : Launch} {e : Env} {s : State} {m : MethodId} {args : Array Value} {below : List Frame} {meth : Method} {c : Code} (F : Fx G ZX p m c cX2_needOf 3 s args RX2) (hr : meth.sig.returnType = some .int) (hk : meth.locks = false) {r : Int32} {M' : SX} (k18 : Int32 → Int32 → SX → Option (Int32 × SX)) (hk18 : ∀ (v1 : Int32) (v2 : Int32) (M : SX) (H : Heap) (locs : List Loc) (ls : Array Slot), Wld G ZX M s.heap H locs → lv_has ls 3 [(0, .ref (G.2.1 54)), (1, .int v1), (2, .int v2)] → k18 v1 v2 M = some (r, M') → WXi G ZX p l e 3 s m args below meth c r M' H locs (F0 m 18 ls [])) : ∀ (v1 : Int32) (v2 : Int32) (M : SX) (H : Heap) (locs : List Loc) (ls : Array Slot), Wld G ZX M s.heap H locs → lv_has ls 3 [(0, .ref (G.2.1 54)), (1, .int v1), (2, .int v2)] → p2_needOf_18 k18 v1 v2 M = some (r, M') → WXi G ZX p l e 3 s m args below meth c r M' H locs (F0 m 18 ls []) := by
  intro v1 v2 M H locs ls hw hl hf
  have hx := F.1.1
  have hb := F.1.2.1
  unfold p2_needOf_18 at hf
  refine lv_iload_n hx hb dX2_needOf_18 rfl (lv_at hl 2 rfl) ?_
  refine lv_aload_n hx hb dX2_needOf_19 rfl (lv_at hl 0 rfl) ?_
  refine g2_1 F hw tw_239 dX2_needOf_20 ?_
  refine lv_icmp_ge (tgt := 49) hx hb dX2_needOf_23 (by decide) (fun c1 => ?_) (fun c1 => ?_)
  · have hf := it_t hf c1
    refine lv_aload_n hx hb dX2_needOf_49 rfl (lv_at hl 0 rfl) ?_
    refine g2_5 F hw tw_232 dX2_needOf_50 ?_
    refine lv_aload_n hx hb dX2_needOf_53 rfl (lv_at hl 0 rfl) ?_
    refine g2_1 F hw tw_239 dX2_needOf_54 ?_
    obtain ⟨g2, hf⟩ := gd_some hf
    refine x_iald F hw sO58 g2 dX2_needOf_57 ?_
    refine lv_ldc (v := 1000000) hx hb F.1.2.2.2.1 (F.1.2.2.2.2 _ tw_233) dX2_needOf_58 ?_
    refine lv_icmp_ge (tgt := 75) hx hb dX2_needOf_60 (by decide) (fun c3 => ?_) (fun c3 => ?_)
    · have hf := it_t hf c3
      refine lv_bipush (v := (-9)) hx hb dX2_needOf_75 (by decide) ?_
      exact x_iret F hw hr hk hf dX2_needOf_77
    · have hf := it_f hf c3
      refine lv_aload_n hx hb dX2_needOf_63 rfl (lv_at hl 0 rfl) ?_
      refine g2_5 F hw tw_232 dX2_needOf_64 ?_
      refine lv_aload_n hx hb dX2_needOf_67 rfl (lv_at hl 0 rfl) ?_
      refine g2_1 F hw tw_239 dX2_needOf_68 ?_
      refine x_iald F hw sO58 g2 dX2_needOf_71 ?_
      refine lv_goto (tgt := 77) hx hb dX2_needOf_72 (by decide) ?_
      exact x_iret F hw hr hk hf dX2_needOf_77
  · have hf := it_f hf c1
    refine lv_aload_n hx hb dX2_needOf_26 rfl (lv_at hl 0 rfl) ?_
    refine g2_5 F hw tw_232 dX2_needOf_27 ?_
    refine lv_iload_n hx hb dX2_needOf_30 rfl (lv_at hl 2 rfl) ?_
    obtain ⟨g4, hf⟩ := gd_some hf
    refine x_iald F hw sO58 g4 dX2_needOf_31 ?_
    refine lv_ldc (v := 1000000) hx hb F.1.2.2.2.1 (F.1.2.2.2.2 _ tw_233) dX2_needOf_32 ?_
    refine lv_icmp_ge (tgt := 43) hx hb dX2_needOf_34 (by decide) (fun c5 => ?_) (fun c5 => ?_)
    · have hf := it_t hf c5
      exact w2_needOf_43 F hr hk k18 hk18 v1 v2 M _ _ ls hw (lv_sub hl [0, 1, 2] rfl) hf
    · have hf := it_f hf c5
      refine lv_aload_n hx hb dX2_needOf_37 rfl (lv_at hl 0 rfl) ?_
      refine lv_iload_n hx hb dX2_needOf_38 rfl (lv_at hl 2 rfl) ?_
      refine lv_iload_n hx hb dX2_needOf_39 rfl (lv_at hl 1 rfl) ?_
      obtain ⟨M7, hc6, hf⟩ := bv_some hf
      refine x_aftV hw (x_runV (rest := []) F hw hl.1 vw_RX2_84 (sO) rfl (c2_spreadNeed v2 v1 hc6) rfl rfl (Nat.le_of_ble_eq_true rfl) ⟨Nat.le_of_ble_eq_true rfl, Nat.le_of_ble_eq_true rfl⟩ dX2_needOf_40) (fun H locs hw => ?_)
      exact w2_needOf_43 F hr hk k18 hk18 v1 v2 M7 _ _ ls hw (lv_sub hl [0, 1, 2] rfl) hf
theorem z2_needOf_18 {G : XG} {p : Program} {l : Launch} {e : Env} {s : State} {m : MethodId} {args : Array Value} {below : List Frame} {meth : Method} {c : Code} (F : Fx G ZX p m c cX2_needOf 3 s args RX2) (hr : meth.sig.returnType = some .int) (hk : meth.locks = false) {r : Int32} {M' : SX} : ∀ n : Nat, ∀ (v1 : Int32) (v2 : Int32) (M : SX) (H : Heap) (locs : List Loc) (ls : Array Slot), Wld G ZX M s.heap H locs → lv_has ls 3 [(0, .ref (G.2.1 54)), (1, .int v1), (2, .int v2)] → xlp2 p2_needOf_18 n v1 v2 M = some (r, M') → WXi G ZX p l e 3 s m args below meth c r M' H locs (F0 m 18 ls []) := by
  intro n
  induction n with
  | zero => intro _ _ _ _ _ _ _ _ hf; cases hf
  | succ n ih => exact w2_needOf_18 F hr hk (xlp2 p2_needOf_18 n) ih
def p2_needOf (a1 : Int32) (M : SX) : Option (Int32 × SX) :=
  bv (pj_fill 64 58 1000000 M) (fun M2 => gd (bIn 0 64) ( lt_ (wI M2 58 (Int32.toNatClampNeg 0) 0) (fun M4 => xlp2 p2_needOf_18 FU a1 0 M4)))
set_option maxHeartbeats 4000000 in
set_option maxRecDepth 100000 in
theorem c2_needOf {l : Launch} {G : XG} {r : Int32} {M' : SX} {M : SX} (a1 : Int32) (hf : p2_needOf a1 M = some (r, M')) : Met l yX2_needOf (.code yX2_needOf cX2_needOf 3 (some .int) :: TBL) (rmX 3) (xPc G ZX M [.ref (G.2.1 54), .int a1]) (xQi G ZX r M') 0 0 (inA G ZX) := by
  refine x_met (cc := cX2_needOf) (by decide) (Nat.le_of_ble_eq_true rfl) ?_
  intro p e s m below meth c ls F hr hk hl hw
  have F : Fx G ZX p m c cX2_needOf 3 s [.ref (G.2.1 54), .int a1].toArray RX2 := F
  have hl : lv_has ls 3 [(0, .ref (G.2.1 54)), (1, .int a1)] := hl
  have hx := F.1.1
  have hb := F.1.2.1
  unfold p2_needOf at hf
  refine lv_aload_n hx hb dX2_needOf_0 rfl (lv_at hl 0 rfl) ?_
  refine g2_5 F hw tw_232 dX2_needOf_1 ?_
  refine lv_ldc (v := 1000000) hx hb F.1.2.2.2.1 (F.1.2.2.2.2 _ tw_233) dX2_needOf_4 ?_
  obtain ⟨M2, hc1, hf⟩ := bv_some hf
  refine x_aftV hw (x_runS (rest := []) F hw hl.1 sw_RX2_66 (cj_fill 64 58 sO58 1000000 hc1) rfl rfl (Nat.le_of_ble_eq_true rfl) ⟨Nat.le_of_ble_eq_true rfl, Nat.le_of_ble_eq_true rfl⟩ dX2_needOf_6) (fun H locs hw => ?_)
  refine lv_aload_n hx hb dX2_needOf_9 rfl (lv_at hl 0 rfl) ?_
  refine g2_5 F hw tw_232 dX2_needOf_10 ?_
  refine lv_iconst (v := 0) hx hb dX2_needOf_13 (by decide) ?_
  refine lv_iconst (v := 0) hx hb dX2_needOf_14 (by decide) ?_
  obtain ⟨g3, hf⟩ := gd_some hf
  refine x_iast F hw sO58 g3 dX2_needOf_15 (fun H locs hw => ?_)
  obtain ⟨M4, eM4, hf⟩ := lt_elim hf
  rw [← eM4] at hw
  refine lv_iconst (v := 0) hx hb dX2_needOf_16 (by decide) ?_
  refine lv_istore_n (lv' := [(2, .int 0), (0, .ref (G.2.1 54)), (1, .int a1)]) hx hb dX2_needOf_17 rfl hl (by decide) rfl (fun ls hl => ?_)
  exact z2_needOf_18 F hr hk FU a1 0 M4 _ _ ls hw (lv_sub hl [1, 2, 0] rfl) hf
theorem dX2_countFrom_0 : decode cX2_countFrom 0 = .ok (.aload_n 0, 1) := by decide +kernel
theorem dX2_countFrom_1 : decode cX2_countFrom 1 = .ok (.getfield 28, 3) := by decide +kernel
theorem dX2_countFrom_4 : decode cX2_countFrom 4 = .ok (.iconst 0, 1) := by decide +kernel
theorem dX2_countFrom_5 : decode cX2_countFrom 5 = .ok (.invokestatic 66, 3) := by decide +kernel
theorem dX2_countFrom_8 : decode cX2_countFrom 8 = .ok (.aload_n 0, 1) := by decide +kernel
theorem dX2_countFrom_9 : decode cX2_countFrom 9 = .ok (.getfield 28, 3) := by decide +kernel
theorem dX2_countFrom_12 : decode cX2_countFrom 12 = .ok (.iload_n 1, 1) := by decide +kernel
theorem dX2_countFrom_13 : decode cX2_countFrom 13 = .ok (.iconst 1, 1) := by decide +kernel
theorem dX2_countFrom_14 : decode cX2_countFrom 14 = .ok (.iastore, 1) := by decide +kernel
theorem dX2_countFrom_15 : decode cX2_countFrom 15 = .ok (.iload_n 1, 1) := by decide +kernel
theorem dX2_countFrom_16 : decode cX2_countFrom 16 = .ok (.istore_n 2, 1) := by decide +kernel
theorem dX2_countFrom_17 : decode cX2_countFrom 17 = .ok (.iload_n 2, 1) := by decide +kernel
theorem dX2_countFrom_18 : decode cX2_countFrom 18 = .ok (.aload_n 0, 1) := by decide +kernel
theorem dX2_countFrom_19 : decode cX2_countFrom 19 = .ok (.getfield 15, 3) := by decide +kernel
theorem dX2_countFrom_22 : decode cX2_countFrom 22 = .ok (.if_icmp .gt 75, 3) := by decide +kernel
theorem dX2_countFrom_25 : decode cX2_countFrom 25 = .ok (.aload_n 0, 1) := by decide +kernel
theorem dX2_countFrom_26 : decode cX2_countFrom 26 = .ok (.getfield 28, 3) := by decide +kernel
theorem dX2_countFrom_29 : decode cX2_countFrom 29 = .ok (.iload_n 2, 1) := by decide +kernel
theorem dX2_countFrom_30 : decode cX2_countFrom 30 = .ok (.iaload, 1) := by decide +kernel
theorem dX2_countFrom_31 : decode cX2_countFrom 31 = .ok (.ifCond .ne 7, 3) := by decide +kernel
theorem dX2_countFrom_34 : decode cX2_countFrom 34 = .ok (.iconst 0, 1) := by decide +kernel
theorem dX2_countFrom_35 : decode cX2_countFrom 35 = .ok (.goto 8, 3) := by decide +kernel
theorem dX2_countFrom_38 : decode cX2_countFrom 38 = .ok (.aload_n 0, 1) := by decide +kernel
theorem dX2_countFrom_39 : decode cX2_countFrom 39 = .ok (.iload_n 2, 1) := by decide +kernel
theorem dX2_countFrom_40 : decode cX2_countFrom 40 = .ok (.invokevirtual 72, 3) := by decide +kernel
theorem dX2_countFrom_43 : decode cX2_countFrom 43 = .ok (.istore_n 3, 1) := by decide +kernel
theorem dX2_countFrom_44 : decode cX2_countFrom 44 = .ok (.iconst 0, 1) := by decide +kernel
theorem dX2_countFrom_45 : decode cX2_countFrom 45 = .ok (.istore 4, 2) := by decide +kernel
theorem dX2_countFrom_47 : decode cX2_countFrom 47 = .ok (.iload 4, 2) := by decide +kernel
theorem dX2_countFrom_49 : decode cX2_countFrom 49 = .ok (.aload_n 0, 1) := by decide +kernel
theorem dX2_countFrom_50 : decode cX2_countFrom 50 = .ok (.getfield 9, 3) := by decide +kernel
theorem dX2_countFrom_53 : decode cX2_countFrom 53 = .ok (.if_icmp .ge 38, 3) := by decide +kernel
theorem dX2_countFrom_56 : decode cX2_countFrom 56 = .ok (.iload_n 3, 1) := by decide +kernel
theorem dX2_countFrom_57 : decode cX2_countFrom 57 = .ok (.iload 4, 2) := by decide +kernel
theorem dX2_countFrom_59 : decode cX2_countFrom 59 = .ok (.invokestatic 44, 3) := by decide +kernel
theorem dX2_countFrom_62 : decode cX2_countFrom 62 = .ok (.ifCond .eq 23, 3) := by decide +kernel
theorem dX2_countFrom_65 : decode cX2_countFrom 65 = .ok (.aload_n 0, 1) := by decide +kernel
theorem dX2_countFrom_66 : decode cX2_countFrom 66 = .ok (.getfield 28, 3) := by decide +kernel
theorem dX2_countFrom_69 : decode cX2_countFrom 69 = .ok (.iload_n 2, 1) := by decide +kernel
theorem dX2_countFrom_70 : decode cX2_countFrom 70 = .ok (.iconst 1, 1) := by decide +kernel
theorem dX2_countFrom_71 : decode cX2_countFrom 71 = .ok (.iload 4, 2) := by decide +kernel
theorem dX2_countFrom_73 : decode cX2_countFrom 73 = .ok (.ishl, 1) := by decide +kernel
theorem dX2_countFrom_74 : decode cX2_countFrom 74 = .ok (.ior, 1) := by decide +kernel
theorem dX2_countFrom_75 : decode cX2_countFrom 75 = .ok (.dup2, 1) := by decide +kernel
theorem dX2_countFrom_76 : decode cX2_countFrom 76 = .ok (.iaload, 1) := by decide +kernel
theorem dX2_countFrom_77 : decode cX2_countFrom 77 = .ok (.aload_n 0, 1) := by decide +kernel
theorem dX2_countFrom_78 : decode cX2_countFrom 78 = .ok (.getfield 28, 3) := by decide +kernel
theorem dX2_countFrom_81 : decode cX2_countFrom 81 = .ok (.iload_n 2, 1) := by decide +kernel
theorem dX2_countFrom_82 : decode cX2_countFrom 82 = .ok (.iaload, 1) := by decide +kernel
theorem dX2_countFrom_83 : decode cX2_countFrom 83 = .ok (.iadd, 1) := by decide +kernel
theorem dX2_countFrom_84 : decode cX2_countFrom 84 = .ok (.iastore, 1) := by decide +kernel
theorem dX2_countFrom_85 : decode cX2_countFrom 85 = .ok (.iinc 4 1, 3) := by decide +kernel
theorem dX2_countFrom_88 : decode cX2_countFrom 88 = .ok (.goto (-41), 3) := by decide +kernel
theorem dX2_countFrom_91 : decode cX2_countFrom 91 = .ok (.iinc 2 1, 3) := by decide +kernel
theorem dX2_countFrom_94 : decode cX2_countFrom 94 = .ok (.goto (-77), 3) := by decide +kernel
theorem dX2_countFrom_97 : decode cX2_countFrom 97 = .ok (.return_, 1) := by decide +kernel
def p2_countFrom_85 (k17 : Int32 → SX → Option SX) (k47 : Int32 → Int32 → Int32 → SX → Option SX) (v2 : Int32) (v3 : Int32) (v4 : Int32) (M : SX) : Option SX :=
  lt_ (v4 + 1) (fun x1 => k47 v2 v3 x1 M)
set_option maxHeartbeats 4000000 in
set_option maxRecDepth 100000 in
theorem w2_countFrom_85 {G : XG} {p : Program} {l : Launch} {e : Env} {s : State} {m : MethodId} {args : Array Value} {below : List Frame} {meth : Method} {c : Code} (F : Fx G ZX p m c cX2_countFrom 5 s args RX2) (hr : meth.sig.returnType = none) (hk : meth.locks = false) {M' : SX} (k17 : Int32 → SX → Option SX) (hk17 : ∀ (v2 : Int32) (M : SX) (H : Heap) (locs : List Loc) (ls : Array Slot), Wld G ZX M s.heap H locs → lv_has ls 5 [(0, .ref (G.2.1 54)), (2, .int v2)] → k17 v2 M = some M' → WXv G ZX p l e 4 s m args below meth c M' H locs (F0 m 17 ls [])) (k47 : Int32 → Int32 → Int32 → SX → Option SX) (hk47 : ∀ (v2 : Int32) (v3 : Int32) (v4 : Int32) (M : SX) (H : Heap) (locs : List Loc) (ls : Array Slot), Wld G ZX M s.heap H locs → lv_has ls 5 [(0, .ref (G.2.1 54)), (2, .int v2), (3, .int v3), (4, .int v4)] → k47 v2 v3 v4 M = some M' → WXv G ZX p l e 4 s m args below meth c M' H locs (F0 m 47 ls [])) : ∀ (v2 : Int32) (v3 : Int32) (v4 : Int32) (M : SX) (H : Heap) (locs : List Loc) (ls : Array Slot), Wld G ZX M s.heap H locs → lv_has ls 5 [(0, .ref (G.2.1 54)), (2, .int v2), (3, .int v3), (4, .int v4)] → p2_countFrom_85 k17 k47 v2 v3 v4 M = some M' → WXv G ZX p l e 4 s m args below meth c M' H locs (F0 m 85 ls []) := by
  intro v2 v3 v4 M H locs ls hw hl hf
  have hx := F.1.1
  have hb := F.1.2.1
  unfold p2_countFrom_85 at hf
  obtain ⟨x1, ex1, hf⟩ := lt_elim hf
  refine lv_iinc (v := x1) (lv' := [(4, .int x1), (0, .ref (G.2.1 54)), (2, .int v2), (3, .int v3)]) hx hb dX2_countFrom_85 hl (k := 3) rfl (by rw [ex1]; rfl) (by decide) rfl (fun ls hl => ?_)
  refine lv_goto (tgt := 47) hx hb dX2_countFrom_88 (by decide) ?_
  exact hk47 v2 v3 x1 M _ _ ls hw (lv_sub hl [1, 2, 3, 0] rfl) hf
def p2_countFrom_47 (k17 : Int32 → SX → Option SX) (k47 : Int32 → Int32 → Int32 → SX → Option SX) (v2 : Int32) (v3 : Int32) (v4 : Int32) (M : SX) : Option SX :=
  if (M.1 54 0) ≤ v4 then (lt_ (v2 + 1) (fun x2 => k17 x2 M))
  else (bd (p5_isIn v3 v4 M) (fun r5 M4 => if r5 = 0 then (p2_countFrom_85 k17 k47 v2 v3 v4 M4)
  else (gd (bIn (v2 ||| ((1 : Int32) <<< (v4 &&& 31))) 64) ( gd (bIn v2 64) ( lt_ (wI M4 58 (Int32.toNatClampNeg (v2 ||| ((1 : Int32) <<< (v4 &&& 31)))) ((M4.1 58 (Int32.toNatClampNeg (v2 ||| ((1 : Int32) <<< (v4 &&& 31))))) + (M4.1 58 (Int32.toNatClampNeg v2)))) (fun M9 => p2_countFrom_85 k17 k47 v2 v3 v4 M9))))))
set_option maxHeartbeats 4000000 in
set_option maxRecDepth 100000 in
theorem w2_countFrom_47 {G : XG} {p : Program} {l : Launch} {e : Env} {s : State} {m : MethodId} {args : Array Value} {below : List Frame} {meth : Method} {c : Code} (F : Fx G ZX p m c cX2_countFrom 5 s args RX2) (hr : meth.sig.returnType = none) (hk : meth.locks = false) {M' : SX} (k17 : Int32 → SX → Option SX) (hk17 : ∀ (v2 : Int32) (M : SX) (H : Heap) (locs : List Loc) (ls : Array Slot), Wld G ZX M s.heap H locs → lv_has ls 5 [(0, .ref (G.2.1 54)), (2, .int v2)] → k17 v2 M = some M' → WXv G ZX p l e 4 s m args below meth c M' H locs (F0 m 17 ls [])) (k47 : Int32 → Int32 → Int32 → SX → Option SX) (hk47 : ∀ (v2 : Int32) (v3 : Int32) (v4 : Int32) (M : SX) (H : Heap) (locs : List Loc) (ls : Array Slot), Wld G ZX M s.heap H locs → lv_has ls 5 [(0, .ref (G.2.1 54)), (2, .int v2), (3, .int v3), (4, .int v4)] → k47 v2 v3 v4 M = some M' → WXv G ZX p l e 4 s m args below meth c M' H locs (F0 m 47 ls [])) : ∀ (v2 : Int32) (v3 : Int32) (v4 : Int32) (M : SX) (H : Heap) (locs : List Loc) (ls : Array Slot), Wld G ZX M s.heap H locs → lv_has ls 5 [(0, .ref (G.2.1 54)), (2, .int v2), (3, .int v3), (4, .int v4)] → p2_countFrom_47 k17 k47 v2 v3 v4 M = some M' → WXv G ZX p l e 4 s m args below meth c M' H locs (F0 m 47 ls []) := by
  intro v2 v3 v4 M H locs ls hw hl hf
  have hx := F.1.1
  have hb := F.1.2.1
  unfold p2_countFrom_47 at hf
  refine lv_iload hx hb dX2_countFrom_47 (lv_at hl 3 rfl) ?_
  refine lv_aload_n hx hb dX2_countFrom_49 rfl (lv_at hl 0 rfl) ?_
  refine g2_0 F hw tw_234 dX2_countFrom_50 ?_
  refine lv_icmp_ge (tgt := 91) hx hb dX2_countFrom_53 (by decide) (fun c1 => ?_) (fun c1 => ?_)
  · have hf := it_t hf c1
    obtain ⟨x2, ex2, hf⟩ := lt_elim hf
    refine lv_iinc (v := x2) (lv' := [(2, .int x2), (0, .ref (G.2.1 54)), (3, .int v3), (4, .int v4)]) hx hb dX2_countFrom_91 hl (k := 1) rfl (by rw [ex2]; rfl) (by decide) rfl (fun ls hl => ?_)
    refine lv_goto (tgt := 17) hx hb dX2_countFrom_94 (by decide) ?_
    exact hk17 x2 M _ _ ls hw (lv_sub hl [1, 0] rfl) hf
  · have hf := it_f hf c1
    refine lv_iload_n hx hb dX2_countFrom_56 rfl (lv_at hl 2 rfl) ?_
    refine lv_iload hx hb dX2_countFrom_57 (lv_at hl 3 rfl) ?_
    obtain ⟨r5, M4, hc3, hf⟩ := bd_some hf
    refine x_aftI hw (x_runN (rest := []) F hw hl.1 nn_RX2_44 (c5_isIn v3 v4 hc3) rfl rfl (Nat.le_of_ble_eq_true rfl) ⟨Nat.le_of_ble_eq_true rfl, Nat.le_of_ble_eq_true rfl⟩ dX2_countFrom_59) (fun H locs hw => ?_)
    refine lv_if_eq (tgt := 85) hx hb dX2_countFrom_62 (by decide) (fun c6 => ?_) (fun c6 => ?_)
    · have hf := it_t hf c6
      exact w2_countFrom_85 F hr hk k17 hk17 k47 hk47 v2 v3 v4 M4 _ _ ls hw (lv_sub hl [0, 1, 2, 3] rfl) hf
    · have hf := it_f hf c6
      refine lv_aload_n hx hb dX2_countFrom_65 rfl (lv_at hl 0 rfl) ?_
      refine g2_5 F hw tw_232 dX2_countFrom_66 ?_
      refine lv_iload_n hx hb dX2_countFrom_69 rfl (lv_at hl 1 rfl) ?_
      refine lv_iconst (v := 1) hx hb dX2_countFrom_70 (by decide) ?_
      refine lv_iload hx hb dX2_countFrom_71 (lv_at hl 3 rfl) ?_
      refine lv_ishl hx hb dX2_countFrom_73 ?_
      refine lv_ior hx hb dX2_countFrom_74 ?_
      refine lv_dup2_11 hx hb dX2_countFrom_75 rfl rfl ?_
      obtain ⟨g7, hf⟩ := gd_some hf
      refine x_iald F hw sO58 g7 dX2_countFrom_76 ?_
      refine lv_aload_n hx hb dX2_countFrom_77 rfl (lv_at hl 0 rfl) ?_
      refine g2_5 F hw tw_232 dX2_countFrom_78 ?_
      refine lv_iload_n hx hb dX2_countFrom_81 rfl (lv_at hl 1 rfl) ?_
      obtain ⟨g8, hf⟩ := gd_some hf
      refine x_iald F hw sO58 g8 dX2_countFrom_82 ?_
      refine lv_iadd hx hb dX2_countFrom_83 ?_
      refine x_iast F hw sO58 g7 dX2_countFrom_84 (fun H locs hw => ?_)
      obtain ⟨M9, eM9, hf⟩ := lt_elim hf
      rw [← eM9] at hw
      exact w2_countFrom_85 F hr hk k17 hk17 k47 hk47 v2 v3 v4 M9 _ _ ls hw (lv_sub hl [0, 1, 2, 3] rfl) hf
theorem z2_countFrom_47 {G : XG} {p : Program} {l : Launch} {e : Env} {s : State} {m : MethodId} {args : Array Value} {below : List Frame} {meth : Method} {c : Code} (F : Fx G ZX p m c cX2_countFrom 5 s args RX2) (hr : meth.sig.returnType = none) (hk : meth.locks = false) {M' : SX} (k17 : Int32 → SX → Option SX) (hk17 : ∀ (v2 : Int32) (M : SX) (H : Heap) (locs : List Loc) (ls : Array Slot), Wld G ZX M s.heap H locs → lv_has ls 5 [(0, .ref (G.2.1 54)), (2, .int v2)] → k17 v2 M = some M' → WXv G ZX p l e 4 s m args below meth c M' H locs (F0 m 17 ls [])) : ∀ n : Nat, ∀ (v2 : Int32) (v3 : Int32) (v4 : Int32) (M : SX) (H : Heap) (locs : List Loc) (ls : Array Slot), Wld G ZX M s.heap H locs → lv_has ls 5 [(0, .ref (G.2.1 54)), (2, .int v2), (3, .int v3), (4, .int v4)] → xlp3 (p2_countFrom_47 k17) n v2 v3 v4 M = some M' → WXv G ZX p l e 4 s m args below meth c M' H locs (F0 m 47 ls []) := by
  intro n
  induction n with
  | zero => intro _ _ _ _ _ _ _ _ _ hf; cases hf
  | succ n ih => exact w2_countFrom_47 F hr hk k17 hk17 (xlp3 (p2_countFrom_47 k17) n) ih
def p2_countFrom_43 (k17 : Int32 → SX → Option SX) (v2 : Int32) (t0 : Int32) (M : SX) : Option SX :=
  xlp3 (p2_countFrom_47 k17) FU v2 t0 0 M
set_option maxHeartbeats 4000000 in
set_option maxRecDepth 100000 in
theorem w2_countFrom_43 {G : XG} {p : Program} {l : Launch} {e : Env} {s : State} {m : MethodId} {args : Array Value} {below : List Frame} {meth : Method} {c : Code} (F : Fx G ZX p m c cX2_countFrom 5 s args RX2) (hr : meth.sig.returnType = none) (hk : meth.locks = false) {M' : SX} (k17 : Int32 → SX → Option SX) (hk17 : ∀ (v2 : Int32) (M : SX) (H : Heap) (locs : List Loc) (ls : Array Slot), Wld G ZX M s.heap H locs → lv_has ls 5 [(0, .ref (G.2.1 54)), (2, .int v2)] → k17 v2 M = some M' → WXv G ZX p l e 4 s m args below meth c M' H locs (F0 m 17 ls [])) : ∀ (v2 : Int32) (t0 : Int32) (M : SX) (H : Heap) (locs : List Loc) (ls : Array Slot), Wld G ZX M s.heap H locs → lv_has ls 5 [(0, .ref (G.2.1 54)), (2, .int v2)] → p2_countFrom_43 k17 v2 t0 M = some M' → WXv G ZX p l e 4 s m args below meth c M' H locs (F0 m 43 ls [.int t0]) := by
  intro v2 t0 M H locs ls hw hl hf
  have hx := F.1.1
  have hb := F.1.2.1
  unfold p2_countFrom_43 at hf
  refine lv_istore_n (lv' := [(3, .int t0), (0, .ref (G.2.1 54)), (2, .int v2)]) hx hb dX2_countFrom_43 rfl hl (by decide) rfl (fun ls hl => ?_)
  refine lv_iconst (v := 0) hx hb dX2_countFrom_44 (by decide) ?_
  refine lv_istore (lv' := [(4, .int 0), (3, .int t0), (0, .ref (G.2.1 54)), (2, .int v2)]) hx hb dX2_countFrom_45 hl (by decide) rfl (fun ls hl => ?_)
  exact z2_countFrom_47 F hr hk k17 hk17 FU v2 t0 0 M _ _ ls hw (lv_sub hl [2, 3, 1, 0] rfl) hf
def p2_countFrom_17 (k17 : Int32 → SX → Option SX) (v2 : Int32) (M : SX) : Option SX :=
  if (M.1 54 1) < v2 then (some M)
  else (gd (bIn v2 64) ( if (M.1 58 (Int32.toNatClampNeg v2)) = 0 then (p2_countFrom_43 k17 v2 0 M)
  else (bd (p2_nextAfter v2 M) (fun r6 M5 => p2_countFrom_43 k17 v2 r6 M5))))
set_option maxHeartbeats 4000000 in
set_option maxRecDepth 100000 in
theorem w2_countFrom_17 {G : XG} {p : Program} {l : Launch} {e : Env} {s : State} {m : MethodId} {args : Array Value} {below : List Frame} {meth : Method} {c : Code} (F : Fx G ZX p m c cX2_countFrom 5 s args RX2) (hr : meth.sig.returnType = none) (hk : meth.locks = false) {M' : SX} (k17 : Int32 → SX → Option SX) (hk17 : ∀ (v2 : Int32) (M : SX) (H : Heap) (locs : List Loc) (ls : Array Slot), Wld G ZX M s.heap H locs → lv_has ls 5 [(0, .ref (G.2.1 54)), (2, .int v2)] → k17 v2 M = some M' → WXv G ZX p l e 4 s m args below meth c M' H locs (F0 m 17 ls [])) : ∀ (v2 : Int32) (M : SX) (H : Heap) (locs : List Loc) (ls : Array Slot), Wld G ZX M s.heap H locs → lv_has ls 5 [(0, .ref (G.2.1 54)), (2, .int v2)] → p2_countFrom_17 k17 v2 M = some M' → WXv G ZX p l e 4 s m args below meth c M' H locs (F0 m 17 ls []) := by
  intro v2 M H locs ls hw hl hf
  have hx := F.1.1
  have hb := F.1.2.1
  unfold p2_countFrom_17 at hf
  refine lv_iload_n hx hb dX2_countFrom_17 rfl (lv_at hl 1 rfl) ?_
  refine lv_aload_n hx hb dX2_countFrom_18 rfl (lv_at hl 0 rfl) ?_
  refine g2_1 F hw tw_239 dX2_countFrom_19 ?_
  refine lv_icmp_gt (tgt := 97) hx hb dX2_countFrom_22 (by decide) (fun c1 => ?_) (fun c1 => ?_)
  · have hf := it_t hf c1
    exact x_vret F hw hr hk hf dX2_countFrom_97
  · have hf := it_f hf c1
    refine lv_aload_n hx hb dX2_countFrom_25 rfl (lv_at hl 0 rfl) ?_
    refine g2_5 F hw tw_232 dX2_countFrom_26 ?_
    refine lv_iload_n hx hb dX2_countFrom_29 rfl (lv_at hl 1 rfl) ?_
    obtain ⟨g2, hf⟩ := gd_some hf
    refine x_iald F hw sO58 g2 dX2_countFrom_30 ?_
    refine lv_if_ne (tgt := 38) hx hb dX2_countFrom_31 (by decide) (fun c3 => ?_) (fun c3 => ?_)
    · have hf := it_f hf c3
      refine lv_aload_n hx hb dX2_countFrom_38 rfl (lv_at hl 0 rfl) ?_
      refine lv_iload_n hx hb dX2_countFrom_39 rfl (lv_at hl 1 rfl) ?_
      obtain ⟨r6, M5, hc4, hf⟩ := bd_some hf
      refine x_aftI hw (x_runV (rest := []) F hw hl.1 vw_RX2_72 (sO) rfl (c2_nextAfter v2 hc4) rfl rfl (Nat.le_of_ble_eq_true rfl) ⟨Nat.le_of_ble_eq_true rfl, Nat.le_of_ble_eq_true rfl⟩ dX2_countFrom_40) (fun H locs hw => ?_)
      exact w2_countFrom_43 F hr hk k17 hk17 v2 r6 M5 _ _ ls hw (lv_sub hl [0, 1] rfl) hf
    · have hf := it_t hf c3
      refine lv_iconst (v := 0) hx hb dX2_countFrom_34 (by decide) ?_
      refine lv_goto (tgt := 43) hx hb dX2_countFrom_35 (by decide) ?_
      exact w2_countFrom_43 F hr hk k17 hk17 v2 0 M _ _ ls hw (lv_sub hl [0, 1] rfl) hf
theorem z2_countFrom_17 {G : XG} {p : Program} {l : Launch} {e : Env} {s : State} {m : MethodId} {args : Array Value} {below : List Frame} {meth : Method} {c : Code} (F : Fx G ZX p m c cX2_countFrom 5 s args RX2) (hr : meth.sig.returnType = none) (hk : meth.locks = false) {M' : SX} : ∀ n : Nat, ∀ (v2 : Int32) (M : SX) (H : Heap) (locs : List Loc) (ls : Array Slot), Wld G ZX M s.heap H locs → lv_has ls 5 [(0, .ref (G.2.1 54)), (2, .int v2)] → xlp1 p2_countFrom_17 n v2 M = some M' → WXv G ZX p l e 4 s m args below meth c M' H locs (F0 m 17 ls []) := by
  intro n
  induction n with
  | zero => intro _ _ _ _ _ _ _ hf; cases hf
  | succ n ih => exact w2_countFrom_17 F hr hk (xlp1 p2_countFrom_17 n) ih
def p2_countFrom (a1 : Int32) (M : SX) : Option SX :=
  bv (pj_fill 64 58 0 M) (fun M2 => gd (bIn a1 64) ( lt_ (wI M2 58 (Int32.toNatClampNeg a1) 1) (fun M4 => xlp1 p2_countFrom_17 FU a1 M4)))
set_option maxHeartbeats 4000000 in
set_option maxRecDepth 100000 in
theorem c2_countFrom {l : Launch} {G : XG} {M' : SX} {M : SX} (a1 : Int32) (hf : p2_countFrom a1 M = some M') : Met l yX2_countFrom (.code yX2_countFrom cX2_countFrom 5 none :: TBL) (rmX 4) (xPc G ZX M [.ref (G.2.1 54), .int a1]) (xQv G ZX M') 0 0 (inA G ZX) := by
  refine x_met (cc := cX2_countFrom) (by decide) (Nat.le_of_ble_eq_true rfl) ?_
  intro p e s m below meth c ls F hr hk hl hw
  have F : Fx G ZX p m c cX2_countFrom 5 s [.ref (G.2.1 54), .int a1].toArray RX2 := F
  have hl : lv_has ls 5 [(0, .ref (G.2.1 54)), (1, .int a1)] := hl
  have hx := F.1.1
  have hb := F.1.2.1
  unfold p2_countFrom at hf
  refine lv_aload_n hx hb dX2_countFrom_0 rfl (lv_at hl 0 rfl) ?_
  refine g2_5 F hw tw_232 dX2_countFrom_1 ?_
  refine lv_iconst (v := 0) hx hb dX2_countFrom_4 (by decide) ?_
  obtain ⟨M2, hc1, hf⟩ := bv_some hf
  refine x_aftV hw (x_runS (rest := []) F hw hl.1 sw_RX2_66 (cj_fill 64 58 sO58 0 hc1) rfl rfl (Nat.le_of_ble_eq_true rfl) ⟨Nat.le_of_ble_eq_true rfl, Nat.le_of_ble_eq_true rfl⟩ dX2_countFrom_5) (fun H locs hw => ?_)
  refine lv_aload_n hx hb dX2_countFrom_8 rfl (lv_at hl 0 rfl) ?_
  refine g2_5 F hw tw_232 dX2_countFrom_9 ?_
  refine lv_iload_n hx hb dX2_countFrom_12 rfl (lv_at hl 1 rfl) ?_
  refine lv_iconst (v := 1) hx hb dX2_countFrom_13 (by decide) ?_
  obtain ⟨g3, hf⟩ := gd_some hf
  refine x_iast F hw sO58 g3 dX2_countFrom_14 (fun H locs hw => ?_)
  obtain ⟨M4, eM4, hf⟩ := lt_elim hf
  rw [← eM4] at hw
  refine lv_iload_n hx hb dX2_countFrom_15 rfl (lv_at hl 1 rfl) ?_
  refine lv_istore_n (lv' := [(2, .int a1), (0, .ref (G.2.1 54)), (1, .int a1)]) hx hb dX2_countFrom_16 rfl hl (by decide) rfl (fun ls hl => ?_)
  exact z2_countFrom_17 F hr hk FU a1 M4 _ _ ls hw (lv_sub hl [1, 0] rfl) hf
