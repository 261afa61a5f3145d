theorem dX2_measureTo_0 : decode cX2_measureTo 0 = .ok (.aload_n 0, 1) := by decide +kernel
theorem dX2_measureTo_1 : decode cX2_measureTo 1 = .ok (.getfield 15, 3) := by decide +kernel
theorem dX2_measureTo_4 : decode cX2_measureTo 4 = .ok (.istore_n 2, 1) := by decide +kernel
theorem dX2_measureTo_5 : decode cX2_measureTo 5 = .ok (.iload_n 2, 1) := by decide +kernel
theorem dX2_measureTo_6 : decode cX2_measureTo 6 = .ok (.ifCond .lt 54, 3) := by decide +kernel
theorem dX2_measureTo_9 : decode cX2_measureTo 9 = .ok (.iload_n 1, 1) := by decide +kernel
theorem dX2_measureTo_10 : decode cX2_measureTo 10 = .ok (.iload_n 2, 1) := by decide +kernel
theorem dX2_measureTo_11 : decode cX2_measureTo 11 = .ok (.iconst (-1), 1) := by decide +kernel
theorem dX2_measureTo_12 : decode cX2_measureTo 12 = .ok (.ixor, 1) := by decide +kernel
theorem dX2_measureTo_13 : decode cX2_measureTo 13 = .ok (.iand, 1) := by decide +kernel
theorem dX2_measureTo_14 : decode cX2_measureTo 14 = .ok (.ifCond .ne 13, 3) := by decide +kernel
theorem dX2_measureTo_17 : decode cX2_measureTo 17 = .ok (.aload_n 0, 1) := by decide +kernel
theorem dX2_measureTo_18 : decode cX2_measureTo 18 = .ok (.getfield 28, 3) := by decide +kernel
theorem dX2_measureTo_21 : decode cX2_measureTo 21 = .ok (.iload_n 2, 1) := by decide +kernel
theorem dX2_measureTo_22 : decode cX2_measureTo 22 = .ok (.iconst 0, 1) := by decide +kernel
theorem dX2_measureTo_23 : decode cX2_measureTo 23 = .ok (.iastore, 1) := by decide +kernel
theorem dX2_measureTo_24 : decode cX2_measureTo 24 = .ok (.goto 30, 3) := by decide +kernel
theorem dX2_measureTo_27 : decode cX2_measureTo 27 = .ok (.iload_n 2, 1) := by decide +kernel
theorem dX2_measureTo_28 : decode cX2_measureTo 28 = .ok (.aload_n 0, 1) := by decide +kernel
theorem dX2_measureTo_29 : decode cX2_measureTo 29 = .ok (.getfield 15, 3) := by decide +kernel
theorem dX2_measureTo_32 : decode cX2_measureTo 32 = .ok (.iconst (-1), 1) := by decide +kernel
theorem dX2_measureTo_33 : decode cX2_measureTo 33 = .ok (.ixor, 1) := by decide +kernel
theorem dX2_measureTo_34 : decode cX2_measureTo 34 = .ok (.iand, 1) := by decide +kernel
theorem dX2_measureTo_35 : decode cX2_measureTo 35 = .ok (.ifCond .ne 19, 3) := by decide +kernel
theorem dX2_measureTo_38 : decode cX2_measureTo 38 = .ok (.aload_n 0, 1) := by decide +kernel
theorem dX2_measureTo_39 : decode cX2_measureTo 39 = .ok (.getfield 28, 3) := by decide +kernel
theorem dX2_measureTo_42 : decode cX2_measureTo 42 = .ok (.iload_n 2, 1) := by decide +kernel
theorem dX2_measureTo_43 : decode cX2_measureTo 43 = .ok (.aload_n 0, 1) := by decide +kernel
theorem dX2_measureTo_44 : decode cX2_measureTo 44 = .ok (.iload_n 2, 1) := by decide +kernel
theorem dX2_measureTo_45 : decode cX2_measureTo 45 = .ok (.aload_n 0, 1) := by decide +kernel
theorem dX2_measureTo_46 : decode cX2_measureTo 46 = .ok (.iload_n 2, 1) := by decide +kernel
theorem dX2_measureTo_47 : decode cX2_measureTo 47 = .ok (.invokevirtual 72, 3) := by decide +kernel
theorem dX2_measureTo_50 : decode cX2_measureTo 50 = .ok (.invokevirtual 75, 3) := by decide +kernel
theorem dX2_measureTo_53 : decode cX2_measureTo 53 = .ok (.iastore, 1) := by decide +kernel
theorem dX2_measureTo_54 : decode cX2_measureTo 54 = .ok (.iinc 2 (-1), 3) := by decide +kernel
theorem dX2_measureTo_57 : decode cX2_measureTo 57 = .ok (.goto (-52), 3) := by decide +kernel
theorem dX2_measureTo_60 : decode cX2_measureTo 60 = .ok (.return_, 1) := by decide +kernel
def p2_measureTo_54 (k5 : Int32 → Int32 → SX → Option SX) (v1 : Int32) (v2 : Int32) (M : SX) : Option SX :=
  lt_ (v2 + (-1)) (fun x1 => k5 v1 x1 M)
set_option maxHeartbeats 4000000 in
set_option maxRecDepth 100000 in
theorem w2_measureTo_54 {G : XG} {p : Program} {l : Launch} {e : Env} {s : State} {m : MethodId} {args : Array Value} {below : List Frame} {meth : Method} {c : Code} (F : Fx G ZX p m c cX2_measureTo 3 s args RX2) (hr : meth.sig.returnType = none) (hk : meth.locks = false) {M' : SX} (k5 : Int32 → Int32 → SX → Option SX) (hk5 : ∀ (v1 : Int32) (v2 : Int32) (M : SX) (H : Heap) (locs : List Loc) (ls : Array Slot), Wld G ZX M s.heap H locs → lv_has ls 3 [(0, .ref (G.2.1 54)), (1, .int v1), (2, .int v2)] → k5 v1 v2 M = some M' → WXv G ZX p l e 4 s m args below meth c M' H locs (F0 m 5 ls [])) : ∀ (v1 : Int32) (v2 : Int32) (M : SX) (H : Heap) (locs : List Loc) (ls : Array Slot), Wld G ZX M s.heap H locs → lv_has ls 3 [(0, .ref (G.2.1 54)), (1, .int v1), (2, .int v2)] → p2_measureTo_54 k5 v1 v2 M = some M' → WXv G ZX p l e 4 s m args below meth c M' H locs (F0 m 54 ls []) := by
  intro v1 v2 M H locs ls hw hl hf
  have hx := F.1.1
  have hb := F.1.2.1
  unfold p2_measureTo_54 at hf
  obtain ⟨x1, ex1, hf⟩ := lt_elim hf
  refine lv_iinc (v := x1) (lv' := [(2, .int x1), (0, .ref (G.2.1 54)), (1, .int v1)]) hx hb dX2_measureTo_54 hl (k := 2) rfl (by rw [ex1]; rfl) (by decide) rfl (fun ls hl => ?_)
  refine lv_goto (tgt := 5) hx hb dX2_measureTo_57 (by decide) ?_
  exact hk5 v1 x1 M _ _ ls hw (lv_sub hl [1, 2, 0] rfl) hf
def p2_measureTo_5 (k5 : Int32 → Int32 → SX → Option SX) (v1 : Int32) (v2 : Int32) (M : SX) : Option SX :=
  if v2 < 0 then (some M)
  else (if (v1 &&& (v2 ^^^ (-1))) = 0 then (gd (bIn v2 64) ( lt_ (wI M 58 (Int32.toNatClampNeg v2) 0) (fun M13 => p2_measureTo_54 k5 v1 v2 M13)))
  else (if (v2 &&& ((M.1 54 1) ^^^ (-1))) = 0 then (bd (p2_nextAfter v2 M) (fun r6 M5 => bd (p2_stepsBy v2 r6 M5) (fun r9 M8 => gd (bIn v2 64) ( lt_ (wI M8 58 (Int32.toNatClampNeg v2) r9) (fun M11 => p2_measureTo_54 k5 v1 v2 M11)))))
  else (p2_measureTo_54 k5 v1 v2 M)))
set_option maxHeartbeats 4000000 in
set_option maxRecDepth 100000 in
theorem w2_measureTo_5 {G : XG} {p : Program} {l : Launch} {e : Env} {s : State} {m : MethodId} {args : Array Value} {below : List Frame} {meth : Method} {c : Code} (F : Fx G ZX p m c cX2_measureTo 3 s args RX2) (hr : meth.sig.returnType = none) (hk : meth.locks = false) {M' : SX} (k5 : Int32 → Int32 → SX → Option SX) (hk5 : ∀ (v1 : Int32) (v2 : Int32) (M : SX) (H : Heap) (locs : List Loc) (ls : Array Slot), Wld G ZX M s.heap H locs → lv_has ls 3 [(0, .ref (G.2.1 54)), (1, .int v1), (2, .int v2)] → k5 v1 v2 M = some M' → WXv G ZX p l e 4 s m args below meth c M' H locs (F0 m 5 ls [])) : ∀ (v1 : Int32) (v2 : Int32) (M : SX) (H : Heap) (locs : List Loc) (ls : Array Slot), Wld G ZX M s.heap H locs → lv_has ls 3 [(0, .ref (G.2.1 54)), (1, .int v1), (2, .int v2)] → p2_measureTo_5 k5 v1 v2 M = some M' → WXv G ZX p l e 4 s m args below meth c M' H locs (F0 m 5 ls []) := by
  intro v1 v2 M H locs ls hw hl hf
  have hx := F.1.1
  have hb := F.1.2.1
  unfold p2_measureTo_5 at hf
  refine lv_iload_n hx hb dX2_measureTo_5 rfl (lv_at hl 2 rfl) ?_
  refine lv_if_lt (tgt := 60) hx hb dX2_measureTo_6 (by decide) (fun c1 => ?_) (fun c1 => ?_)
  · have hf := it_t hf c1
    exact x_vret F hw hr hk hf dX2_measureTo_60
  · have hf := it_f hf c1
    refine lv_iload_n hx hb dX2_measureTo_9 rfl (lv_at hl 1 rfl) ?_
    refine lv_iload_n hx hb dX2_measureTo_10 rfl (lv_at hl 2 rfl) ?_
    refine lv_iconst (v := (-1)) hx hb dX2_measureTo_11 (by decide) ?_
    refine lv_ixor hx hb dX2_measureTo_12 ?_
    refine lv_iand hx hb dX2_measureTo_13 ?_
    refine lv_if_ne (tgt := 27) hx hb dX2_measureTo_14 (by decide) (fun c2 => ?_) (fun c2 => ?_)
    · have hf := it_f hf c2
      refine lv_iload_n hx hb dX2_measureTo_27 rfl (lv_at hl 2 rfl) ?_
      refine lv_aload_n hx hb dX2_measureTo_28 rfl (lv_at hl 0 rfl) ?_
      refine g2_1 F hw tw_239 dX2_measureTo_29 ?_
      refine lv_iconst (v := (-1)) hx hb dX2_measureTo_32 (by decide) ?_
      refine lv_ixor hx hb dX2_measureTo_33 ?_
      refine lv_iand hx hb dX2_measureTo_34 ?_
      refine lv_if_ne (tgt := 54) hx hb dX2_measureTo_35 (by decide) (fun c3 => ?_) (fun c3 => ?_)
      · have hf := it_f hf c3
        exact w2_measureTo_54 F hr hk k5 hk5 v1 v2 M _ _ ls hw (lv_sub hl [0, 1, 2] rfl) hf
      · have hf := it_t hf c3
        refine lv_aload_n hx hb dX2_measureTo_38 rfl (lv_at hl 0 rfl) ?_
        refine g2_5 F hw tw_232 dX2_measureTo_39 ?_
        refine lv_iload_n hx hb dX2_measureTo_42 rfl (lv_at hl 2 rfl) ?_
        refine lv_aload_n hx hb dX2_measureTo_43 rfl (lv_at hl 0 rfl) ?_
        refine lv_iload_n hx hb dX2_measureTo_44 rfl (lv_at hl 2 rfl) ?_
        refine lv_aload_n hx hb dX2_measureTo_45 rfl (lv_at hl 0 rfl) ?_
        refine lv_iload_n hx hb dX2_measureTo_46 rfl (lv_at hl 2 rfl) ?_
        obtain ⟨r6, M5, hc4, hf⟩ := bd_some hf
        refine x_aftI hw (x_runV (rest := [.int v2, .ref (G.2.1 54), .int v2, .ref (G.2.1 58)]) F hw hl.1 vw_RX2_72 (sO) rfl (c2_nextAfter v2 hc4) rfl rfl (Nat.le_of_ble_eq_true rfl) ⟨Nat.le_of_ble_eq_true rfl, Nat.le_of_ble_eq_true rfl⟩ dX2_measureTo_47) (fun H locs hw => ?_)
        obtain ⟨r9, M8, hc7, hf⟩ := bd_some hf
        refine x_aftI hw (x_runV (rest := [.int v2, .ref (G.2.1 58)]) F hw hl.1 vw_RX2_75 (sO) rfl (c2_stepsBy v2 r6 hc7) rfl rfl (Nat.le_of_ble_eq_true rfl) ⟨Nat.le_of_ble_eq_true rfl, Nat.le_of_ble_eq_true rfl⟩ dX2_measureTo_50) (fun H locs hw => ?_)
        obtain ⟨g10, hf⟩ := gd_some hf
        refine x_iast F hw sO58 g10 dX2_measureTo_53 (fun H locs hw => ?_)
        obtain ⟨M11, eM11, hf⟩ := lt_elim hf
        rw [← eM11] at hw
        exact w2_measureTo_54 F hr hk k5 hk5 v1 v2 M11 _ _ ls hw (lv_sub hl [0, 1, 2] rfl) hf
    · have hf := it_t hf c2
      refine lv_aload_n hx hb dX2_measureTo_17 rfl (lv_at hl 0 rfl) ?_
      refine g2_5 F hw tw_232 dX2_measureTo_18 ?_
      refine lv_iload_n hx hb dX2_measureTo_21 rfl (lv_at hl 2 rfl) ?_
      refine lv_iconst (v := 0) hx hb dX2_measureTo_22 (by decide) ?_
      obtain ⟨g12, hf⟩ := gd_some hf
      refine x_iast F hw sO58 g12 dX2_measureTo_23 (fun H locs hw => ?_)
      obtain ⟨M13, eM13, hf⟩ := lt_elim hf
      rw [← eM13] at hw
      refine lv_goto (tgt := 54) hx hb dX2_measureTo_24 (by decide) ?_
      exact w2_measureTo_54 F hr hk k5 hk5 v1 v2 M13 _ _ ls hw (lv_sub hl [0, 1, 2] rfl) hf
theorem z2_measureTo_5 {G : XG} {p : Program} {l : Launch} {e : Env} {s : State} {m : MethodId} {args : Array Value} {below : List Frame} {meth : Method} {c : Code} (F : Fx G ZX p m c cX2_measureTo 3 s args RX2) (hr : meth.sig.returnType = none) (hk : meth.locks = false) {M' : SX} : ∀ n : Nat, ∀ (v1 : Int32) (v2 : Int32) (M : SX) (H : Heap) (locs : List Loc) (ls : Array Slot), Wld G ZX M s.heap H locs → lv_has ls 3 [(0, .ref (G.2.1 54)), (1, .int v1), (2, .int v2)] → xlp2 p2_measureTo_5 n v1 v2 M = some M' → WXv G ZX p l e 4 s m args below meth c M' H locs (F0 m 5 ls []) := by
  intro n
  induction n with
  | zero => intro _ _ _ _ _ _ _ _ hf; cases hf
  | succ n ih => exact w2_measureTo_5 F hr hk (xlp2 p2_measureTo_5 n) ih
def p2_measureTo (a1 : Int32) (M : SX) : Option SX :=
  lt_ (M.1 54 1) (fun x1 => xlp2 p2_measureTo_5 FU a1 x1 M)
set_option maxHeartbeats 4000000 in
set_option maxRecDepth 100000 in
theorem c2_measureTo {l : Launch} {G : XG} {M' : SX} {M : SX} (a1 : Int32) (hf : p2_measureTo a1 M = some M') : Met l yX2_measureTo (.code yX2_measureTo cX2_measureTo 3 none :: TBL) (rmX 4) (xPc G ZX M [.ref (G.2.1 54), .int a1]) (xQv G ZX M') 0 0 (inA G ZX) := by
  refine x_met (cc := cX2_measureTo) (by decide) (Nat.le_of_ble_eq_true rfl) ?_
  intro p e s m below meth c ls F hr hk hl hw
  have F : Fx G ZX p m c cX2_measureTo 3 s [.ref (G.2.1 54), .int a1].toArray RX2 := F
  have hl : lv_has ls 3 [(0, .ref (G.2.1 54)), (1, .int a1)] := hl
  have hx := F.1.1
  have hb := F.1.2.1
  unfold p2_measureTo at hf
  refine lv_aload_n hx hb dX2_measureTo_0 rfl (lv_at hl 0 rfl) ?_
  refine g2_1 F hw tw_239 dX2_measureTo_1 ?_
  obtain ⟨x1, ex1, hf⟩ := lt_elim hf
  refine x_let ex1 ?_
  refine lv_istore_n (lv' := [(2, .int x1), (0, .ref (G.2.1 54)), (1, .int a1)]) hx hb dX2_measureTo_4 rfl hl (by decide) rfl (fun ls hl => ?_)
  exact z2_measureTo_5 F hr hk FU a1 x1 M _ _ ls hw (lv_sub hl [1, 2, 0] rfl) hf
theorem dX2_firstNearer_0 : decode cX2_firstNearer 0 = .ok (.aload_n 0, 1) := by decide +kernel
theorem dX2_firstNearer_1 : decode cX2_firstNearer 1 = .ok (.iload_n 1, 1) := by decide +kernel
theorem dX2_firstNearer_2 : decode cX2_firstNearer 2 = .ok (.invokevirtual 72, 3) := by decide +kernel
theorem dX2_firstNearer_5 : decode cX2_firstNearer 5 = .ok (.istore_n 2, 1) := by decide +kernel
theorem dX2_firstNearer_6 : decode cX2_firstNearer 6 = .ok (.iconst 0, 1) := by decide +kernel
theorem dX2_firstNearer_7 : decode cX2_firstNearer 7 = .ok (.istore_n 3, 1) := by decide +kernel
theorem dX2_firstNearer_8 : decode cX2_firstNearer 8 = .ok (.iload_n 3, 1) := by decide +kernel
theorem dX2_firstNearer_9 : decode cX2_firstNearer 9 = .ok (.aload_n 0, 1) := by decide +kernel
theorem dX2_firstNearer_10 : decode cX2_firstNearer 10 = .ok (.getfield 9, 3) := by decide +kernel
theorem dX2_firstNearer_13 : decode cX2_firstNearer 13 = .ok (.if_icmp .ge 38, 3) := by decide +kernel
theorem dX2_firstNearer_16 : decode cX2_firstNearer 16 = .ok (.iload_n 2, 1) := by decide +kernel
theorem dX2_firstNearer_17 : decode cX2_firstNearer 17 = .ok (.iload_n 3, 1) := by decide +kernel
theorem dX2_firstNearer_18 : decode cX2_firstNearer 18 = .ok (.invokestatic 44, 3) := by decide +kernel
theorem dX2_firstNearer_21 : decode cX2_firstNearer 21 = .ok (.ifCond .eq 24, 3) := by decide +kernel
theorem dX2_firstNearer_24 : decode cX2_firstNearer 24 = .ok (.aload_n 0, 1) := by decide +kernel
theorem dX2_firstNearer_25 : decode cX2_firstNearer 25 = .ok (.getfield 28, 3) := by decide +kernel
theorem dX2_firstNearer_28 : decode cX2_firstNearer 28 = .ok (.iload_n 1, 1) := by decide +kernel
theorem dX2_firstNearer_29 : decode cX2_firstNearer 29 = .ok (.iconst 1, 1) := by decide +kernel
theorem dX2_firstNearer_30 : decode cX2_firstNearer 30 = .ok (.iload_n 3, 1) := by decide +kernel
theorem dX2_firstNearer_31 : decode cX2_firstNearer 31 = .ok (.ishl, 1) := by decide +kernel
theorem dX2_firstNearer_32 : decode cX2_firstNearer 32 = .ok (.ior, 1) := by decide +kernel
theorem dX2_firstNearer_33 : decode cX2_firstNearer 33 = .ok (.iaload, 1) := by decide +kernel
theorem dX2_firstNearer_34 : decode cX2_firstNearer 34 = .ok (.aload_n 0, 1) := by decide +kernel
theorem dX2_firstNearer_35 : decode cX2_firstNearer 35 = .ok (.getfield 28, 3) := by decide +kernel
theorem dX2_firstNearer_38 : decode cX2_firstNearer 38 = .ok (.iload_n 1, 1) := by decide +kernel
theorem dX2_firstNearer_39 : decode cX2_firstNearer 39 = .ok (.iaload, 1) := by decide +kernel
theorem dX2_firstNearer_40 : decode cX2_firstNearer 40 = .ok (.if_icmp .ge 5, 3) := by decide +kernel
theorem dX2_firstNearer_43 : decode cX2_firstNearer 43 = .ok (.iload_n 3, 1) := by decide +kernel
theorem dX2_firstNearer_44 : decode cX2_firstNearer 44 = .ok (.ireturn, 1) := by decide +kernel
theorem dX2_firstNearer_45 : decode cX2_firstNearer 45 = .ok (.iinc 3 1, 3) := by decide +kernel
theorem dX2_firstNearer_48 : decode cX2_firstNearer 48 = .ok (.goto (-40), 3) := by decide +kernel
theorem dX2_firstNearer_51 : decode cX2_firstNearer 51 = .ok (.iconst 0, 1) := by decide +kernel
theorem dX2_firstNearer_52 : decode cX2_firstNearer 52 = .ok (.ireturn, 1) := by decide +kernel
def p2_firstNearer_45 (k8 : Int32 → Int32 → Int32 → SX → Option (Int32 × SX)) (v1 : Int32) (v2 : Int32) (v3 : Int32) (M : SX) : Option (Int32 × SX) :=
  lt_ (v3 + 1) (fun x1 => k8 v1 v2 x1 M)
set_option maxHeartbeats 4000000 in
set_option maxRecDepth 100000 in
theorem w2_firstNearer_45 {G : XG} {p : Program} {l : Launch} {e : Env} {s : State} {m : MethodId} {args : Array Value} {below : List Frame} {meth : Method} {c : Code} (F : Fx G ZX p m c cX2_firstNearer 4 s args RX2) (hr : meth.sig.returnType = some .int) (hk : meth.locks = false) {r : Int32} {M' : SX} (k8 : Int32 → Int32 → Int32 → SX → Option (Int32 × SX)) (hk8 : ∀ (v1 : Int32) (v2 : Int32) (v3 : Int32) (M : SX) (H : Heap) (locs : List Loc) (ls : Array Slot), Wld G ZX M s.heap H locs → lv_has ls 4 [(0, .ref (G.2.1 54)), (1, .int v1), (2, .int v2), (3, .int v3)] → k8 v1 v2 v3 M = some (r, M') → WXi G ZX p l e 4 s m args below meth c r M' H locs (F0 m 8 ls [])) : ∀ (v1 : Int32) (v2 : Int32) (v3 : Int32) (M : SX) (H : Heap) (locs : List Loc) (ls : Array Slot), Wld G ZX M s.heap H locs → lv_has ls 4 [(0, .ref (G.2.1 54)), (1, .int v1), (2, .int v2), (3, .int v3)] → p2_firstNearer_45 k8 v1 v2 v3 M = some (r, M') → WXi G ZX p l e 4 s m args below meth c r M' H locs (F0 m 45 ls []) := by
  intro v1 v2 v3 M H locs ls hw hl hf
  have hx := F.1.1
  have hb := F.1.2.1
  unfold p2_firstNearer_45 at hf
  obtain ⟨x1, ex1, hf⟩ := lt_elim hf
  refine lv_iinc (v := x1) (lv' := [(3, .int x1), (0, .ref (G.2.1 54)), (1, .int v1), (2, .int v2)]) hx hb dX2_firstNearer_45 hl (k := 3) rfl (by rw [ex1]; rfl) (by decide) rfl (fun ls hl => ?_)
  refine lv_goto (tgt := 8) hx hb dX2_firstNearer_48 (by decide) ?_
  exact hk8 v1 v2 x1 M _ _ ls hw (lv_sub hl [1, 2, 3, 0] rfl) hf
def p2_firstNearer_8 (k8 : Int32 → Int32 → Int32 → SX → Option (Int32 × SX)) (v1 : Int32) (v2 : Int32) (v3 : Int32) (M : SX) : Option (Int32 × SX) :=
  if (M.1 54 0) ≤ v3 then (some (0, M))
  else (bd (p5_isIn v2 v3 M) (fun r4 M3 => if r4 = 0 then (p2_firstNearer_45 k8 v1 v2 v3 M3)
  else (gd (bIn (v1 ||| ((1 : Int32) <<< (v3 &&& 31))) 64) ( gd (bIn v1 64) ( if (M3.1 58 (Int32.toNatClampNeg v1)) ≤ (M3.1 58 (Int32.toNatClampNeg (v1 ||| ((1 : Int32) <<< (v3 &&& 31))))) then (p2_firstNearer_45 k8 v1 v2 v3 M3)
  else (some (v3, M3)))))))
set_option maxHeartbeats 4000000 in
set_option maxRecDepth 100000 in
theorem w2_firstNearer_8 {G : XG} {p : Program} {l : Launch} {e : Env} {s : State} {m : MethodId} {args : Array Value} {below : List Frame} {meth : Method} {c : Code} (F : Fx G ZX p m c cX2_firstNearer 4 s args RX2) (hr : meth.sig.returnType = some .int) (hk : meth.locks = false) {r : Int32} {M' : SX} (k8 : Int32 → Int32 → Int32 → SX → Option (Int32 × SX)) (hk8 : ∀ (v1 : Int32) (v2 : Int32) (v3 : Int32) (M : SX) (H : Heap) (locs : List Loc) (ls : Array Slot), Wld G ZX M s.heap H locs → lv_has ls 4 [(0, .ref (G.2.1 54)), (1, .int v1), (2, .int v2), (3, .int v3)] → k8 v1 v2 v3 M = some (r, M') → WXi G ZX p l e 4 s m args below meth c r M' H locs (F0 m 8 ls [])) : ∀ (v1 : Int32) (v2 : Int32) (v3 : Int32) (M : SX) (H : Heap) (locs : List Loc) (ls : Array Slot), Wld G ZX M s.heap H locs → lv_has ls 4 [(0, .ref (G.2.1 54)), (1, .int v1), (2, .int v2), (3, .int v3)] → p2_firstNearer_8 k8 v1 v2 v3 M = some (r, M') → WXi G ZX p l e 4 s m args below meth c r M' H locs (F0 m 8 ls []) := by
  intro v1 v2 v3 M H locs ls hw hl hf
  have hx := F.1.1
  have hb := F.1.2.1
  unfold p2_firstNearer_8 at hf
  refine lv_iload_n hx hb dX2_firstNearer_8 rfl (lv_at hl 3 rfl) ?_
  refine lv_aload_n hx hb dX2_firstNearer_9 rfl (lv_at hl 0 rfl) ?_
  refine g2_0 F hw tw_234 dX2_firstNearer_10 ?_
  refine lv_icmp_ge (tgt := 51) hx hb dX2_firstNearer_13 (by decide) (fun c1 => ?_) (fun c1 => ?_)
  · have hf := it_t hf c1
    refine lv_iconst (v := 0) hx hb dX2_firstNearer_51 (by decide) ?_
    exact x_iret F hw hr hk hf dX2_firstNearer_52
  · have hf := it_f hf c1
    refine lv_iload_n hx hb dX2_firstNearer_16 rfl (lv_at hl 2 rfl) ?_
    refine lv_iload_n hx hb dX2_firstNearer_17 rfl (lv_at hl 3 rfl) ?_
    obtain ⟨r4, M3, hc2, hf⟩ := bd_some hf
    refine x_aftI hw (x_runN (rest := []) F hw hl.1 nn_RX2_44 (c5_isIn v2 v3 hc2) rfl rfl (Nat.le_of_ble_eq_true rfl) ⟨Nat.le_of_ble_eq_true rfl, Nat.le_of_ble_eq_true rfl⟩ dX2_firstNearer_18) (fun H locs hw => ?_)
    refine lv_if_eq (tgt := 45) hx hb dX2_firstNearer_21 (by decide) (fun c5 => ?_) (fun c5 => ?_)
    · have hf := it_t hf c5
      exact w2_firstNearer_45 F hr hk k8 hk8 v1 v2 v3 M3 _ _ ls hw (lv_sub hl [0, 1, 2, 3] rfl) hf
    · have hf := it_f hf c5
      refine lv_aload_n hx hb dX2_firstNearer_24 rfl (lv_at hl 0 rfl) ?_
      refine g2_5 F hw tw_232 dX2_firstNearer_25 ?_
      refine lv_iload_n hx hb dX2_firstNearer_28 rfl (lv_at hl 1 rfl) ?_
      refine lv_iconst (v := 1) hx hb dX2_firstNearer_29 (by decide) ?_
      refine lv_iload_n hx hb dX2_firstNearer_30 rfl (lv_at hl 3 rfl) ?_
      refine lv_ishl hx hb dX2_firstNearer_31 ?_
      refine lv_ior hx hb dX2_firstNearer_32 ?_
      obtain ⟨g6, hf⟩ := gd_some hf
      refine x_iald F hw sO58 g6 dX2_firstNearer_33 ?_
      refine lv_aload_n hx hb dX2_firstNearer_34 rfl (lv_at hl 0 rfl) ?_
      refine g2_5 F hw tw_232 dX2_firstNearer_35 ?_
      refine lv_iload_n hx hb dX2_firstNearer_38 rfl (lv_at hl 1 rfl) ?_
      obtain ⟨g7, hf⟩ := gd_some hf
      refine x_iald F hw sO58 g7 dX2_firstNearer_39 ?_
      refine lv_icmp_ge (tgt := 45) hx hb dX2_firstNearer_40 (by decide) (fun c8 => ?_) (fun c8 => ?_)
      · have hf := it_t hf c8
        exact w2_firstNearer_45 F hr hk k8 hk8 v1 v2 v3 M3 _ _ ls hw (lv_sub hl [0, 1, 2, 3] rfl) hf
      · have hf := it_f hf c8
        refine lv_iload_n hx hb dX2_firstNearer_43 rfl (lv_at hl 3 rfl) ?_
        exact x_iret F hw hr hk hf dX2_firstNearer_44
theorem z2_firstNearer_8 {G : XG} {p : Program} {l : Launch} {e : Env} {s : State} {m : MethodId} {args : Array Value} {below : List Frame} {meth : Method} {c : Code} (F : Fx G ZX p m c cX2_firstNearer 4 s args RX2) (hr : meth.sig.returnType = some .int) (hk : meth.locks = false) {r : Int32} {M' : SX} : ∀ n : Nat, ∀ (v1 : Int32) (v2 : Int32) (v3 : Int32) (M : SX) (H : Heap) (locs : List Loc) (ls : Array Slot), Wld G ZX M s.heap H locs → lv_has ls 4 [(0, .ref (G.2.1 54)), (1, .int v1), (2, .int v2), (3, .int v3)] → xlp3 p2_firstNearer_8 n v1 v2 v3 M = some (r, M') → WXi G ZX p l e 4 s m args below meth c r M' H locs (F0 m 8 ls []) := by
  intro n
  induction n with
  | zero => intro _ _ _ _ _ _ _ _ _ hf; cases hf
  | succ n ih => exact w2_firstNearer_8 F hr hk (xlp3 p2_firstNearer_8 n) ih
def p2_firstNearer (a1 : Int32) (M : SX) : Option (Int32 × SX) :=
  bd (p2_nextAfter a1 M) (fun r3 M2 => xlp3 p2_firstNearer_8 FU a1 r3 0 M2)
set_option maxHeartbeats 4000000 in
set_option maxRecDepth 100000 in
theorem c2_firstNearer {l : Launch} {G : XG} {r : Int32} {M' : SX} {M : SX} (a1 : Int32) (hf : p2_firstNearer a1 M = some (r, M')) : Met l yX2_firstNearer (.code yX2_firstNearer cX2_firstNearer 4 (some .int) :: TBL) (rmX 4) (xPc G ZX M [.ref (G.2.1 54), .int a1]) (xQi G ZX r M') 0 0 (inA G ZX) := by
  refine x_met (cc := cX2_firstNearer) (by decide) (Nat.le_of_ble_eq_true rfl) ?_
  intro p e s m below meth c ls F hr hk hl hw
  have F : Fx G ZX p m c cX2_firstNearer 4 s [.ref (G.2.1 54), .int a1].toArray RX2 := F
  have hl : lv_has ls 4 [(0, .ref (G.2.1 54)), (1, .int a1)] := hl
  have hx := F.1.1
  have hb := F.1.2.1
  unfold p2_firstNearer at hf
  refine lv_aload_n hx hb dX2_firstNearer_0 rfl (lv_at hl 0 rfl) ?_
  refine lv_iload_n hx hb dX2_firstNearer_1 rfl (lv_at hl 1 rfl) ?_
  obtain ⟨r3, M2, hc1, hf⟩ := bd_some hf
  refine x_aftI hw (x_runV (rest := []) F hw hl.1 vw_RX2_72 (sO) rfl (c2_nextAfter a1 hc1) rfl rfl (Nat.le_of_ble_eq_true rfl) ⟨Nat.le_of_ble_eq_true rfl, Nat.le_of_ble_eq_true rfl⟩ dX2_firstNearer_2) (fun H locs hw => ?_)
  refine lv_istore_n (lv' := [(2, .int r3), (0, .ref (G.2.1 54)), (1, .int a1)]) hx hb dX2_firstNearer_5 rfl hl (by decide) rfl (fun ls hl => ?_)
  refine lv_iconst (v := 0) hx hb dX2_firstNearer_6 (by decide) ?_
  refine lv_istore_n (lv' := [(3, .int 0), (2, .int r3), (0, .ref (G.2.1 54)), (1, .int a1)]) hx hb dX2_firstNearer_7 rfl hl (by decide) rfl (fun ls hl => ?_)
  exact z2_firstNearer_8 F hr hk FU a1 r3 0 M2 _ _ ls hw (lv_sub hl [2, 3, 1, 0] rfl) hf
