theorem dX5_isIn_0 : decode cX5_isIn 0 = .ok (.iload_n 0, 1) := by decide +kernel
theorem dX5_isIn_1 : decode cX5_isIn 1 = .ok (.iload_n 1, 1) := by decide +kernel
theorem dX5_isIn_2 : decode cX5_isIn 2 = .ok (.ishr, 1) := by decide +kernel
theorem dX5_isIn_3 : decode cX5_isIn 3 = .ok (.iconst 1, 1) := by decide +kernel
theorem dX5_isIn_4 : decode cX5_isIn 4 = .ok (.iand, 1) := by decide +kernel
theorem dX5_isIn_5 : decode cX5_isIn 5 = .ok (.iconst 1, 1) := by decide +kernel
theorem dX5_isIn_6 : decode cX5_isIn 6 = .ok (.if_icmp .ne 7, 3) := by decide +kernel
theorem dX5_isIn_9 : decode cX5_isIn 9 = .ok (.iconst 1, 1) := by decide +kernel
theorem dX5_isIn_10 : decode cX5_isIn 10 = .ok (.goto 4, 3) := by decide +kernel
theorem dX5_isIn_13 : decode cX5_isIn 13 = .ok (.iconst 0, 1) := by decide +kernel
theorem dX5_isIn_14 : decode cX5_isIn 14 = .ok (.ireturn, 1) := by decide +kernel
def p5_isIn (a1 : Int32) (a2 : Int32) (M : SX) : Option (Int32 × SX) :=
  if ((a1 >>> (a2 &&& 31)) &&& 1) = (1 : Int32) then (some (1, M))
  else (some (0, M))
set_option maxHeartbeats 4000000 in
set_option maxRecDepth 100000 in
theorem c5_isIn {l : Launch} {G : XG} {r : Int32} {M' : SX} {M : SX} (a1 : Int32) (a2 : Int32) (hf : p5_isIn a1 a2 M = some (r, M')) : Met l yX5_isIn (.code yX5_isIn cX5_isIn 2 (some .boolean) :: TBL) (rmX 0) (xPc G ZX M [.int a1, .int a2]) (xQi G ZX r M') 0 0 (inA G ZX) := by
  refine x_met (cc := cX5_isIn) (by decide) (Nat.le_of_ble_eq_true rfl) ?_
  intro p e s m below meth c ls F hr hk hl hw
  have F : Fx G ZX p m c cX5_isIn 2 s [.int a1, .int a2].toArray RX5 := F
  have hl : lv_has ls 2 [(0, .int a1), (1, .int a2)] := hl
  have hx := F.1.1
  have hb := F.1.2.1
  unfold p5_isIn at hf
  refine lv_iload_n hx hb dX5_isIn_0 rfl (lv_at hl 0 rfl) ?_
  refine lv_iload_n hx hb dX5_isIn_1 rfl (lv_at hl 1 rfl) ?_
  refine lv_ishr hx hb dX5_isIn_2 ?_
  refine lv_iconst (v := 1) hx hb dX5_isIn_3 (by decide) ?_
  refine lv_iand hx hb dX5_isIn_4 ?_
  refine lv_iconst (v := 1) hx hb dX5_isIn_5 (by decide) ?_
  refine lv_icmp_ne (tgt := 13) hx hb dX5_isIn_6 (by decide) (fun c1 => ?_) (fun c1 => ?_)
  · have hf := it_f hf c1
    refine lv_iconst (v := 0) hx hb dX5_isIn_13 (by decide) ?_
    exact x_zret F hw hr hk (by decide) hf dX5_isIn_14
  · have hf := it_t hf c1
    refine lv_iconst (v := 1) hx hb dX5_isIn_9 (by decide) ?_
    refine lv_goto (tgt := 14) hx hb dX5_isIn_10 (by decide) ?_
    exact x_zret F hw hr hk (by decide) hf dX5_isIn_14
theorem dX5_isOfKind_0 : decode cX5_isOfKind 0 = .ok (.iload_n 0, 1) := by decide +kernel
theorem dX5_isOfKind_1 : decode cX5_isOfKind 1 = .ok (.iload_n 1, 1) := by decide +kernel
theorem dX5_isOfKind_2 : decode cX5_isOfKind 2 = .ok (.if_icmp .eq 27, 3) := by decide +kernel
theorem dX5_isOfKind_5 : decode cX5_isOfKind 5 = .ok (.iload_n 1, 1) := by decide +kernel
theorem dX5_isOfKind_6 : decode cX5_isOfKind 6 = .ok (.ifCond .eq 23, 3) := by decide +kernel
theorem dX5_isOfKind_9 : decode cX5_isOfKind 9 = .ok (.iload_n 0, 1) := by decide +kernel
theorem dX5_isOfKind_10 : decode cX5_isOfKind 10 = .ok (.iconst 4, 1) := by decide +kernel
theorem dX5_isOfKind_11 : decode cX5_isOfKind 11 = .ok (.if_icmp .ne 8, 3) := by decide +kernel
theorem dX5_isOfKind_14 : decode cX5_isOfKind 14 = .ok (.iload_n 1, 1) := by decide +kernel
theorem dX5_isOfKind_15 : decode cX5_isOfKind 15 = .ok (.iconst 1, 1) := by decide +kernel
theorem dX5_isOfKind_16 : decode cX5_isOfKind 16 = .ok (.if_icmp .eq 13, 3) := by decide +kernel
theorem dX5_isOfKind_19 : decode cX5_isOfKind 19 = .ok (.iload_n 0, 1) := by decide +kernel
theorem dX5_isOfKind_20 : decode cX5_isOfKind 20 = .ok (.iconst 5, 1) := by decide +kernel
theorem dX5_isOfKind_21 : decode cX5_isOfKind 21 = .ok (.if_icmp .ne 12, 3) := by decide +kernel
theorem dX5_isOfKind_24 : decode cX5_isOfKind 24 = .ok (.iload_n 1, 1) := by decide +kernel
theorem dX5_isOfKind_25 : decode cX5_isOfKind 25 = .ok (.iconst 2, 1) := by decide +kernel
theorem dX5_isOfKind_26 : decode cX5_isOfKind 26 = .ok (.if_icmp .ne 7, 3) := by decide +kernel
theorem dX5_isOfKind_29 : decode cX5_isOfKind 29 = .ok (.iconst 1, 1) := by decide +kernel
theorem dX5_isOfKind_30 : decode cX5_isOfKind 30 = .ok (.goto 4, 3) := by decide +kernel
theorem dX5_isOfKind_33 : decode cX5_isOfKind 33 = .ok (.iconst 0, 1) := by decide +kernel
theorem dX5_isOfKind_34 : decode cX5_isOfKind 34 = .ok (.ireturn, 1) := by decide +kernel
def p5_isOfKind_29 (M : SX) : Option (Int32 × SX) :=
  some (1, M)
set_option maxHeartbeats 4000000 in
set_option maxRecDepth 100000 in
theorem w5_isOfKind_29 {G : XG} {p : Program} {l : Launch} {e : Env} {s : State} {m : MethodId} {args : Array Value} {below : List Frame} {meth : Method} {c : Code} (F : Fx G ZX p m c cX5_isOfKind 2 s args RX5) (hr : meth.sig.returnType = some .boolean) (hk : meth.locks = false) {r : Int32} {M' : SX} : ∀ (M : SX) (H : Heap) (locs : List Loc) (ls : Array Slot), Wld G ZX M s.heap H locs → lv_has ls 2 [] → p5_isOfKind_29 M = some (r, M') → WXi G ZX p l e 0 s m args below meth c r M' H locs (F0 m 29 ls []) := by
  intro M H locs ls hw hl hf
  have hx := F.1.1
  have hb := F.1.2.1
  unfold p5_isOfKind_29 at hf
  refine lv_iconst (v := 1) hx hb dX5_isOfKind_29 (by decide) ?_
  refine lv_goto (tgt := 34) hx hb dX5_isOfKind_30 (by decide) ?_
  exact x_zret F hw hr hk (by decide) hf dX5_isOfKind_34
def p5_isOfKind_19 (v0 : Int32) (v1 : Int32) (M : SX) : Option (Int32 × SX) :=
  if v0 = (5 : Int32) then (if v1 = (2 : Int32) then (p5_isOfKind_29 M)
  else (some (0, M)))
  else (some (0, M))
set_option maxHeartbeats 4000000 in
set_option maxRecDepth 100000 in
theorem w5_isOfKind_19 {G : XG} {p : Program} {l : Launch} {e : Env} {s : State} {m : MethodId} {args : Array Value} {below : List Frame} {meth : Method} {c : Code} (F : Fx G ZX p m c cX5_isOfKind 2 s args RX5) (hr : meth.sig.returnType = some .boolean) (hk : meth.locks = false) {r : Int32} {M' : SX} : ∀ (v0 : Int32) (v1 : Int32) (M : SX) (H : Heap) (locs : List Loc) (ls : Array Slot), Wld G ZX M s.heap H locs → lv_has ls 2 [(0, .int v0), (1, .int v1)] → p5_isOfKind_19 v0 v1 M = some (r, M') → WXi G ZX p l e 0 s m args below meth c r M' H locs (F0 m 19 ls []) := by
  intro v0 v1 M H locs ls hw hl hf
  have hx := F.1.1
  have hb := F.1.2.1
  unfold p5_isOfKind_19 at hf
  refine lv_iload_n hx hb dX5_isOfKind_19 rfl (lv_at hl 0 rfl) ?_
  refine lv_iconst (v := 5) hx hb dX5_isOfKind_20 (by decide) ?_
  refine lv_icmp_ne (tgt := 33) hx hb dX5_isOfKind_21 (by decide) (fun c1 => ?_) (fun c1 => ?_)
  · have hf := it_f hf c1
    refine lv_iconst (v := 0) hx hb dX5_isOfKind_33 (by decide) ?_
    exact x_zret F hw hr hk (by decide) hf dX5_isOfKind_34
  · have hf := it_t hf c1
    refine lv_iload_n hx hb dX5_isOfKind_24 rfl (lv_at hl 1 rfl) ?_
    refine lv_iconst (v := 2) hx hb dX5_isOfKind_25 (by decide) ?_
    refine lv_icmp_ne (tgt := 33) hx hb dX5_isOfKind_26 (by decide) (fun c2 => ?_) (fun c2 => ?_)
    · have hf := it_f hf c2
      refine lv_iconst (v := 0) hx hb dX5_isOfKind_33 (by decide) ?_
      exact x_zret F hw hr hk (by decide) hf dX5_isOfKind_34
    · have hf := it_t hf c2
      exact w5_isOfKind_29 F hr hk M _ _ ls hw (lv_sub hl [] rfl) hf
def p5_isOfKind (a1 : Int32) (a2 : Int32) (M : SX) : Option (Int32 × SX) :=
  if a1 = a2 then (p5_isOfKind_29 M)
  else (if a2 = 0 then (p5_isOfKind_29 M)
  else (if a1 = (4 : Int32) then (if a2 = (1 : Int32) then (p5_isOfKind_29 M)
  else (p5_isOfKind_19 a1 a2 M))
  else (p5_isOfKind_19 a1 a2 M)))
set_option maxHeartbeats 4000000 in
set_option maxRecDepth 100000 in
theorem c5_isOfKind {l : Launch} {G : XG} {r : Int32} {M' : SX} {M : SX} (a1 : Int32) (a2 : Int32) (hf : p5_isOfKind a1 a2 M = some (r, M')) : Met l yX5_isOfKind (.code yX5_isOfKind cX5_isOfKind 2 (some .boolean) :: TBL) (rmX 0) (xPc G ZX M [.int a1, .int a2]) (xQi G ZX r M') 0 0 (inA G ZX) := by
  refine x_met (cc := cX5_isOfKind) (by decide) (Nat.le_of_ble_eq_true rfl) ?_
  intro p e s m below meth c ls F hr hk hl hw
  have F : Fx G ZX p m c cX5_isOfKind 2 s [.int a1, .int a2].toArray RX5 := F
  have hl : lv_has ls 2 [(0, .int a1), (1, .int a2)] := hl
  have hx := F.1.1
  have hb := F.1.2.1
  unfold p5_isOfKind at hf
  refine lv_iload_n hx hb dX5_isOfKind_0 rfl (lv_at hl 0 rfl) ?_
  refine lv_iload_n hx hb dX5_isOfKind_1 rfl (lv_at hl 1 rfl) ?_
  refine lv_icmp_eq (tgt := 29) hx hb dX5_isOfKind_2 (by decide) (fun c1 => ?_) (fun c1 => ?_)
  · have hf := it_t hf c1
    exact w5_isOfKind_29 F hr hk M _ _ ls hw (lv_sub hl [] rfl) hf
  · have hf := it_f hf c1
    refine lv_iload_n hx hb dX5_isOfKind_5 rfl (lv_at hl 1 rfl) ?_
    refine lv_if_eq (tgt := 29) hx hb dX5_isOfKind_6 (by decide) (fun c2 => ?_) (fun c2 => ?_)
    · have hf := it_t hf c2
      exact w5_isOfKind_29 F hr hk M _ _ ls hw (lv_sub hl [] rfl) hf
    · have hf := it_f hf c2
      refine lv_iload_n hx hb dX5_isOfKind_9 rfl (lv_at hl 0 rfl) ?_
      refine lv_iconst (v := 4) hx hb dX5_isOfKind_10 (by decide) ?_
      refine lv_icmp_ne (tgt := 19) hx hb dX5_isOfKind_11 (by decide) (fun c3 => ?_) (fun c3 => ?_)
      · have hf := it_f hf c3
        exact w5_isOfKind_19 F hr hk a1 a2 M _ _ ls hw (lv_sub hl [0, 1] rfl) hf
      · have hf := it_t hf c3
        refine lv_iload_n hx hb dX5_isOfKind_14 rfl (lv_at hl 1 rfl) ?_
        refine lv_iconst (v := 1) hx hb dX5_isOfKind_15 (by decide) ?_
        refine lv_icmp_eq (tgt := 29) hx hb dX5_isOfKind_16 (by decide) (fun c4 => ?_) (fun c4 => ?_)
        · have hf := it_t hf c4
          exact w5_isOfKind_29 F hr hk M _ _ ls hw (lv_sub hl [] rfl) hf
        · have hf := it_f hf c4
          exact w5_isOfKind_19 F hr hk a1 a2 M _ _ ls hw (lv_sub hl [0, 1] rfl) hf
theorem dX5_power_0 : decode cX5_power 0 = .ok (.lconst 1, 1) := by decide +kernel
theorem dX5_power_1 : decode cX5_power 1 = .ok (.lstore_n 2, 1) := by decide +kernel
theorem dX5_power_2 : decode cX5_power 2 = .ok (.iconst 0, 1) := by decide +kernel
theorem dX5_power_3 : decode cX5_power 3 = .ok (.istore 4, 2) := by decide +kernel
theorem dX5_power_5 : decode cX5_power 5 = .ok (.iload 4, 2) := by decide +kernel
theorem dX5_power_7 : decode cX5_power 7 = .ok (.iload_n 1, 1) := by decide +kernel
theorem dX5_power_8 : decode cX5_power 8 = .ok (.if_icmp .ge 14, 3) := by decide +kernel
theorem dX5_power_11 : decode cX5_power 11 = .ok (.lload_n 2, 1) := by decide +kernel
theorem dX5_power_12 : decode cX5_power 12 = .ok (.iload_n 0, 1) := by decide +kernel
theorem dX5_power_13 : decode cX5_power 13 = .ok (.i2l, 1) := by decide +kernel
theorem dX5_power_14 : decode cX5_power 14 = .ok (.lmul, 1) := by decide +kernel
theorem dX5_power_15 : decode cX5_power 15 = .ok (.lstore_n 2, 1) := by decide +kernel
theorem dX5_power_16 : decode cX5_power 16 = .ok (.iinc 4 1, 3) := by decide +kernel
theorem dX5_power_19 : decode cX5_power 19 = .ok (.goto (-14), 3) := by decide +kernel
theorem dX5_power_22 : decode cX5_power 22 = .ok (.lload_n 2, 1) := by decide +kernel
theorem dX5_power_23 : decode cX5_power 23 = .ok (.lreturn, 1) := by decide +kernel
def p5_power_5 (k5 : Int32 → Int32 → Int64 → Int32 → SX → Option (Int64 × SX)) (v0 : Int32) (v1 : Int32) (v2 : Int64) (v4 : Int32) (M : SX) : Option (Int64 × SX) :=
  if v1 ≤ v4 then (some (v2, M))
  else (lt_ (v2 * (Int32.toInt64 v0)) (fun x2 => lt_ (v4 + 1) (fun x3 => k5 v0 v1 x2 x3 M)))
set_option maxHeartbeats 4000000 in
set_option maxRecDepth 100000 in
theorem w5_power_5 {G : XG} {p : Program} {l : Launch} {e : Env} {s : State} {m : MethodId} {args : Array Value} {below : List Frame} {meth : Method} {c : Code} (F : Fx G ZX p m c cX5_power 5 s args RX5) (hr : meth.sig.returnType = some .long) (hk : meth.locks = false) {r : Int64} {M' : SX} (k5 : Int32 → Int32 → Int64 → Int32 → SX → Option (Int64 × SX)) (hk5 : ∀ (v0 : Int32) (v1 : Int32) (v2 : Int64) (v4 : Int32) (M : SX) (H : Heap) (locs : List Loc) (ls : Array Slot), Wld G ZX M s.heap H locs → lv_has ls 5 [(0, .int v0), (1, .int v1), (2, .long v2), (4, .int v4)] → k5 v0 v1 v2 v4 M = some (r, M') → WXl G ZX p l e 0 s m args below meth c r M' H locs (F0 m 5 ls [])) : ∀ (v0 : Int32) (v1 : Int32) (v2 : Int64) (v4 : Int32) (M : SX) (H : Heap) (locs : List Loc) (ls : Array Slot), Wld G ZX M s.heap H locs → lv_has ls 5 [(0, .int v0), (1, .int v1), (2, .long v2), (4, .int v4)] → p5_power_5 k5 v0 v1 v2 v4 M = some (r, M') → WXl G ZX p l e 0 s m args below meth c r M' H locs (F0 m 5 ls []) := by
  intro v0 v1 v2 v4 M H locs ls hw hl hf
  have hx := F.1.1
  have hb := F.1.2.1
  unfold p5_power_5 at hf
  refine lv_iload hx hb dX5_power_5 (lv_at hl 3 rfl) ?_
  refine lv_iload_n hx hb dX5_power_7 rfl (lv_at hl 1 rfl) ?_
  refine lv_icmp_ge (tgt := 22) hx hb dX5_power_8 (by decide) (fun c1 => ?_) (fun c1 => ?_)
  · have hf := it_t hf c1
    refine lv_lload_n hx hb dX5_power_22 rfl (lv_at hl 2 rfl) ?_
    exact x_lret F hw hr hk hf dX5_power_23
  · have hf := it_f hf c1
    refine lv_lload_n hx hb dX5_power_11 rfl (lv_at hl 2 rfl) ?_
    refine lv_iload_n hx hb dX5_power_12 rfl (lv_at hl 0 rfl) ?_
    refine lv_i2l (v := Int32.toInt64 v0) hx hb dX5_power_13 rfl ?_
    refine lv_lmul hx hb dX5_power_14 ?_
    obtain ⟨x2, ex2, hf⟩ := lt_elim hf
    refine x_letL ex2 ?_
    refine lv_lstore_n (lv' := [(2, .long x2), (0, .int v0), (1, .int v1), (4, .int v4)]) hx hb dX5_power_15 rfl hl (by decide) rfl (fun ls hl => ?_)
    obtain ⟨x3, ex3, hf⟩ := lt_elim hf
    refine lv_iinc (v := x3) (lv' := [(4, .int x3), (2, .long x2), (0, .int v0), (1, .int v1)]) hx hb dX5_power_16 hl (k := 3) rfl (by rw [ex3]; rfl) (by decide) rfl (fun ls hl => ?_)
    refine lv_goto (tgt := 5) hx hb dX5_power_19 (by decide) ?_
    exact hk5 v0 v1 x2 x3 M _ _ ls hw (lv_sub hl [2, 3, 1, 0] rfl) hf
theorem z5_power_5 {G : XG} {p : Program} {l : Launch} {e : Env} {s : State} {m : MethodId} {args : Array Value} {below : List Frame} {meth : Method} {c : Code} (F : Fx G ZX p m c cX5_power 5 s args RX5) (hr : meth.sig.returnType = some .long) (hk : meth.locks = false) {r : Int64} {M' : SX} : ∀ n : Nat, ∀ (v0 : Int32) (v1 : Int32) (v2 : Int64) (v4 : Int32) (M : SX) (H : Heap) (locs : List Loc) (ls : Array Slot), Wld G ZX M s.heap H locs → lv_has ls 5 [(0, .int v0), (1, .int v1), (2, .long v2), (4, .int v4)] → xlp4 p5_power_5 n v0 v1 v2 v4 M = some (r, M') → WXl G ZX p l e 0 s m args below meth c r M' H locs (F0 m 5 ls []) := by
  intro n
  induction n with
  | zero => intro _ _ _ _ _ _ _ _ _ _ hf; cases hf
  | succ n ih => exact w5_power_5 F hr hk (xlp4 p5_power_5 n) ih
def p5_power (a1 : Int32) (a2 : Int32) (M : SX) : Option (Int64 × SX) :=
  xlp4 p5_power_5 FU a1 a2 1 0 M
set_option maxHeartbeats 4000000 in
set_option maxRecDepth 100000 in
theorem c5_power {l : Launch} {G : XG} {r : Int64} {M' : SX} {M : SX} (a1 : Int32) (a2 : Int32) (hf : p5_power a1 a2 M = some (r, M')) : Met l yX5_power (.code yX5_power cX5_power 5 (some .long) :: TBL) (rmX 0) (xPc G ZX M [.int a1, .int a2]) (xQl G ZX r M') 0 0 (inA G ZX) := by
  refine x_met (cc := cX5_power) (by decide) (Nat.le_of_ble_eq_true rfl) ?_
  intro p e s m below meth c ls F hr hk hl hw
  have F : Fx G ZX p m c cX5_power 5 s [.int a1, .int a2].toArray RX5 := F
  have hl : lv_has ls 5 [(0, .int a1), (1, .int a2)] := hl
  have hx := F.1.1
  have hb := F.1.2.1
  unfold p5_power at hf
  refine lv_lconst (v := 1) hx hb dX5_power_0 (by decide) ?_
  refine lv_lstore_n (lv' := [(2, .long 1), (0, .int a1), (1, .int a2)]) hx hb dX5_power_1 rfl hl (by decide) rfl (fun ls hl => ?_)
  refine lv_iconst (v := 0) hx hb dX5_power_2 (by decide) ?_
  refine lv_istore (lv' := [(4, .int 0), (2, .long 1), (0, .int a1), (1, .int a2)]) hx hb dX5_power_3 hl (by decide) rfl (fun ls hl => ?_)
  exact z5_power_5 F hr hk FU a1 a2 1 0 M _ _ ls hw (lv_sub hl [2, 3, 1, 0] rfl) hf
theorem dX5_commonDivisor_0 : decode cX5_commonDivisor 0 = .ok (.lload_n 0, 1) := by decide +kernel
theorem dX5_commonDivisor_1 : decode cX5_commonDivisor 1 = .ok (.lstore 4, 2) := by decide +kernel
theorem dX5_commonDivisor_3 : decode cX5_commonDivisor 3 = .ok (.lload_n 2, 1) := by decide +kernel
theorem dX5_commonDivisor_4 : decode cX5_commonDivisor 4 = .ok (.lstore 6, 2) := by decide +kernel
theorem dX5_commonDivisor_6 : decode cX5_commonDivisor 6 = .ok (.iconst 0, 1) := by decide +kernel
theorem dX5_commonDivisor_7 : decode cX5_commonDivisor 7 = .ok (.istore 8, 2) := by decide +kernel
theorem dX5_commonDivisor_9 : decode cX5_commonDivisor 9 = .ok (.iload 8, 2) := by decide +kernel
theorem dX5_commonDivisor_11 : decode cX5_commonDivisor 11 = .ok (.bipush 100, 2) := by decide +kernel
theorem dX5_commonDivisor_13 : decode cX5_commonDivisor 13 = .ok (.if_icmp .ge 31, 3) := by decide +kernel
theorem dX5_commonDivisor_16 : decode cX5_commonDivisor 16 = .ok (.lload 6, 2) := by decide +kernel
theorem dX5_commonDivisor_18 : decode cX5_commonDivisor 18 = .ok (.lconst 0, 1) := by decide +kernel
theorem dX5_commonDivisor_19 : decode cX5_commonDivisor 19 = .ok (.lcmp, 1) := by decide +kernel
theorem dX5_commonDivisor_20 : decode cX5_commonDivisor 20 = .ok (.ifCond .eq 24, 3) := by decide +kernel
theorem dX5_commonDivisor_23 : decode cX5_commonDivisor 23 = .ok (.lload 4, 2) := by decide +kernel
theorem dX5_commonDivisor_25 : decode cX5_commonDivisor 25 = .ok (.lload 6, 2) := by decide +kernel
theorem dX5_commonDivisor_27 : decode cX5_commonDivisor 27 = .ok (.lrem, 1) := by decide +kernel
theorem dX5_commonDivisor_28 : decode cX5_commonDivisor 28 = .ok (.lstore 9, 2) := by decide +kernel
theorem dX5_commonDivisor_30 : decode cX5_commonDivisor 30 = .ok (.lload 6, 2) := by decide +kernel
theorem dX5_commonDivisor_32 : decode cX5_commonDivisor 32 = .ok (.lstore 4, 2) := by decide +kernel
theorem dX5_commonDivisor_34 : decode cX5_commonDivisor 34 = .ok (.lload 9, 2) := by decide +kernel
theorem dX5_commonDivisor_36 : decode cX5_commonDivisor 36 = .ok (.lstore 6, 2) := by decide +kernel
theorem dX5_commonDivisor_38 : decode cX5_commonDivisor 38 = .ok (.iinc 8 1, 3) := by decide +kernel
theorem dX5_commonDivisor_41 : decode cX5_commonDivisor 41 = .ok (.goto (-32), 3) := by decide +kernel
theorem dX5_commonDivisor_44 : decode cX5_commonDivisor 44 = .ok (.lload 4, 2) := by decide +kernel
theorem dX5_commonDivisor_46 : decode cX5_commonDivisor 46 = .ok (.lreturn, 1) := by decide +kernel
def p5_commonDivisor_44 (v4 : Int64) (M : SX) : Option (Int64 × SX) :=
  some (v4, M)
set_option maxHeartbeats 4000000 in
set_option maxRecDepth 100000 in
theorem w5_commonDivisor_44 {G : XG} {p : Program} {l : Launch} {e : Env} {s : State} {m : MethodId} {args : Array Value} {below : List Frame} {meth : Method} {c : Code} (F : Fx G ZX p m c cX5_commonDivisor 11 s args RX5) (hr : meth.sig.returnType = some .long) (hk : meth.locks = false) {r : Int64} {M' : SX} : ∀ (v4 : Int64) (M : SX) (H : Heap) (locs : List Loc) (ls : Array Slot), Wld G ZX M s.heap H locs → lv_has ls 11 [(4, .long v4)] → p5_commonDivisor_44 v4 M = some (r, M') → WXl G ZX p l e 0 s m args below meth c r M' H locs (F0 m 44 ls []) := by
  intro v4 M H locs ls hw hl hf
  have hx := F.1.1
  have hb := F.1.2.1
  unfold p5_commonDivisor_44 at hf
  refine lv_lload hx hb dX5_commonDivisor_44 (lv_at hl 0 rfl) ?_
  exact x_lret F hw hr hk hf dX5_commonDivisor_46
def p5_commonDivisor_9 (k9 : Int64 → Int64 → Int32 → SX → Option (Int64 × SX)) (v4 : Int64) (v6 : Int64) (v8 : Int32) (M : SX) : Option (Int64 × SX) :=
  if (100 : Int32) ≤ v8 then (p5_commonDivisor_44 v4 M)
  else (if v6 = 0 then (p5_commonDivisor_44 v4 M)
  else (gd (nzL v6) ( lt_ (v4 - v4 / v6 * v6) (fun x4 => lt_ (v8 + 1) (fun x5 => k9 v6 x4 x5 M)))))
set_option maxHeartbeats 4000000 in
set_option maxRecDepth 100000 in
theorem w5_commonDivisor_9 {G : XG} {p : Program} {l : Launch} {e : Env} {s : State} {m : MethodId} {args : Array Value} {below : List Frame} {meth : Method} {c : Code} (F : Fx G ZX p m c cX5_commonDivisor 11 s args RX5) (hr : meth.sig.returnType = some .long) (hk : meth.locks = false) {r : Int64} {M' : SX} (k9 : Int64 → Int64 → Int32 → SX → Option (Int64 × SX)) (hk9 : ∀ (v4 : Int64) (v6 : Int64) (v8 : Int32) (M : SX) (H : Heap) (locs : List Loc) (ls : Array Slot), Wld G ZX M s.heap H locs → lv_has ls 11 [(4, .long v4), (6, .long v6), (8, .int v8)] → k9 v4 v6 v8 M = some (r, M') → WXl G ZX p l e 0 s m args below meth c r M' H locs (F0 m 9 ls [])) : ∀ (v4 : Int64) (v6 : Int64) (v8 : Int32) (M : SX) (H : Heap) (locs : List Loc) (ls : Array Slot), Wld G ZX M s.heap H locs → lv_has ls 11 [(4, .long v4), (6, .long v6), (8, .int v8)] → p5_commonDivisor_9 k9 v4 v6 v8 M = some (r, M') → WXl G ZX p l e 0 s m args below meth c r M' H locs (F0 m 9 ls []) := by
  intro v4 v6 v8 M H locs ls hw hl hf
  have hx := F.1.1
  have hb := F.1.2.1
  unfold p5_commonDivisor_9 at hf
  refine lv_iload hx hb dX5_commonDivisor_9 (lv_at hl 2 rfl) ?_
  refine lv_bipush (v := 100) hx hb dX5_commonDivisor_11 (by decide) ?_
  refine lv_icmp_ge (tgt := 44) hx hb dX5_commonDivisor_13 (by decide) (fun c1 => ?_) (fun c1 => ?_)
  · have hf := it_t hf c1
    exact w5_commonDivisor_44 F hr hk v4 M _ _ ls hw (lv_sub hl [0] rfl) hf
  · have hf := it_f hf c1
    refine lv_lload hx hb dX5_commonDivisor_16 (lv_at hl 1 rfl) ?_
    refine lv_lconst (v := 0) hx hb dX5_commonDivisor_18 (by decide) ?_
    refine W.lcmp hx hb dX5_commonDivisor_19 ?_
    refine lv_if_eq (tgt := 44) hx hb dX5_commonDivisor_20 (by decide) (fun c2 => ?_) (fun c2 => ?_)
    · have hf := it_t hf ((lc_eq v6 0).mp c2)
      exact w5_commonDivisor_44 F hr hk v4 M _ _ ls hw (lv_sub hl [0] rfl) hf
    · have hf := it_f hf (fun h9 => c2 ((lc_eq v6 0).mpr h9))
      refine lv_lload hx hb dX5_commonDivisor_23 (lv_at hl 0 rfl) ?_
      refine lv_lload hx hb dX5_commonDivisor_25 (lv_at hl 1 rfl) ?_
      obtain ⟨g3, hf⟩ := gd_some hf
      refine lv_lrem hx hb dX5_commonDivisor_27 (nzL_ne g3) ?_
      obtain ⟨x4, ex4, hf⟩ := lt_elim hf
      refine x_letL ex4 ?_
      refine lv_lstore (lv' := [(9, .long x4), (4, .long v4), (6, .long v6), (8, .int v8)]) hx hb dX5_commonDivisor_28 hl (by decide) rfl (fun ls hl => ?_)
      refine lv_lload hx hb dX5_commonDivisor_30 (lv_at hl 2 rfl) ?_
      refine lv_lstore (lv' := [(4, .long v6), (9, .long x4), (6, .long v6), (8, .int v8)]) hx hb dX5_commonDivisor_32 hl (by decide) rfl (fun ls hl => ?_)
      refine lv_lload hx hb dX5_commonDivisor_34 (lv_at hl 1 rfl) ?_
      refine lv_lstore (lv' := [(6, .long x4), (4, .long v6), (9, .long x4), (8, .int v8)]) hx hb dX5_commonDivisor_36 hl (by decide) rfl (fun ls hl => ?_)
      obtain ⟨x5, ex5, hf⟩ := lt_elim hf
      refine lv_iinc (v := x5) (lv' := [(8, .int x5), (6, .long x4), (4, .long v6), (9, .long x4)]) hx hb dX5_commonDivisor_38 hl (k := 3) rfl (by rw [ex5]; rfl) (by decide) rfl (fun ls hl => ?_)
      refine lv_goto (tgt := 9) hx hb dX5_commonDivisor_41 (by decide) ?_
      exact hk9 v6 x4 x5 M _ _ ls hw (lv_sub hl [2, 1, 0] rfl) hf
theorem z5_commonDivisor_9 {G : XG} {p : Program} {l : Launch} {e : Env} {s : State} {m : MethodId} {args : Array Value} {below : List Frame} {meth : Method} {c : Code} (F : Fx G ZX p m c cX5_commonDivisor 11 s args RX5) (hr : meth.sig.returnType = some .long) (hk : meth.locks = false) {r : Int64} {M' : SX} : ∀ n : Nat, ∀ (v4 : Int64) (v6 : Int64) (v8 : Int32) (M : SX) (H : Heap) (locs : List Loc) (ls : Array Slot), Wld G ZX M s.heap H locs → lv_has ls 11 [(4, .long v4), (6, .long v6), (8, .int v8)] → xlp3 p5_commonDivisor_9 n v4 v6 v8 M = some (r, M') → WXl G ZX p l e 0 s m args below meth c r M' H locs (F0 m 9 ls []) := by
  intro n
  induction n with
  | zero => intro _ _ _ _ _ _ _ _ _ hf; cases hf
  | succ n ih => exact w5_commonDivisor_9 F hr hk (xlp3 p5_commonDivisor_9 n) ih
def p5_commonDivisor (a1 : Int64) (a2 : Int64) (M : SX) : Option (Int64 × SX) :=
  xlp3 p5_commonDivisor_9 FU a1 a2 0 M
set_option maxHeartbeats 4000000 in
set_option maxRecDepth 100000 in
theorem c5_commonDivisor {l : Launch} {G : XG} {r : Int64} {M' : SX} {M : SX} (a1 : Int64) (a2 : Int64) (hf : p5_commonDivisor a1 a2 M = some (r, M')) : Met l yX5_commonDivisor (.code yX5_commonDivisor cX5_commonDivisor 11 (some .long) :: TBL) (rmX 0) (xPc G ZX M [.long a1, .long a2]) (xQl G ZX r M') 0 0 (inA G ZX) := by
  refine x_met (cc := cX5_commonDivisor) (by decide) (Nat.le_of_ble_eq_true rfl) ?_
  intro p e s m below meth c ls F hr hk hl hw
  have F : Fx G ZX p m c cX5_commonDivisor 11 s [.long a1, .long a2].toArray RX5 := F
  have hl : lv_has ls 11 [(0, .long a1), (2, .long a2)] := hl
  have hx := F.1.1
  have hb := F.1.2.1
  unfold p5_commonDivisor at hf
  refine lv_lload_n hx hb dX5_commonDivisor_0 rfl (lv_at hl 0 rfl) ?_
  refine lv_lstore (lv' := [(4, .long a1), (0, .long a1), (2, .long a2)]) hx hb dX5_commonDivisor_1 hl (by decide) rfl (fun ls hl => ?_)
  refine lv_lload_n hx hb dX5_commonDivisor_3 rfl (lv_at hl 2 rfl) ?_
  refine lv_lstore (lv' := [(6, .long a2), (4, .long a1), (0, .long a1), (2, .long a2)]) hx hb dX5_commonDivisor_4 hl (by decide) rfl (fun ls hl => ?_)
  refine lv_iconst (v := 0) hx hb dX5_commonDivisor_6 (by decide) ?_
  refine lv_istore (lv' := [(8, .int 0), (6, .long a2), (4, .long a1), (0, .long a1), (2, .long a2)]) hx hb dX5_commonDivisor_7 hl (by decide) rfl (fun ls hl => ?_)
  exact z5_commonDivisor_9 F hr hk FU a1 a2 0 M _ _ ls hw (lv_sub hl [2, 1, 0] rfl) hf
theorem dX5_dueWith_0 : decode cX5_dueWith 0 = .ok (.iload_n 0, 1) := by decide +kernel
theorem dX5_dueWith_1 : decode cX5_dueWith 1 = .ok (.tableswitch 63 1 5 #[35, 37, 43, 49, 57], 35) := by decide +kernel
theorem dX5_dueWith_36 : decode cX5_dueWith 36 = .ok (.iload_n 1, 1) := by decide +kernel
theorem dX5_dueWith_37 : decode cX5_dueWith 37 = .ok (.ireturn, 1) := by decide +kernel
theorem dX5_dueWith_38 : decode cX5_dueWith 38 = .ok (.iload_n 1, 1) := by decide +kernel
theorem dX5_dueWith_39 : decode cX5_dueWith 39 = .ok (.iconst 2, 1) := by decide +kernel
theorem dX5_dueWith_40 : decode cX5_dueWith 40 = .ok (.iload_n 2, 1) := by decide +kernel
theorem dX5_dueWith_41 : decode cX5_dueWith 41 = .ok (.imul, 1) := by decide +kernel
theorem dX5_dueWith_42 : decode cX5_dueWith 42 = .ok (.iadd, 1) := by decide +kernel
theorem dX5_dueWith_43 : decode cX5_dueWith 43 = .ok (.ireturn, 1) := by decide +kernel
theorem dX5_dueWith_44 : decode cX5_dueWith 44 = .ok (.iload_n 1, 1) := by decide +kernel
theorem dX5_dueWith_45 : decode cX5_dueWith 45 = .ok (.iload_n 2, 1) := by decide +kernel
theorem dX5_dueWith_46 : decode cX5_dueWith 46 = .ok (.iconst 2, 1) := by decide +kernel
theorem dX5_dueWith_47 : decode cX5_dueWith 47 = .ok (.idiv, 1) := by decide +kernel
theorem dX5_dueWith_48 : decode cX5_dueWith 48 = .ok (.iadd, 1) := by decide +kernel
theorem dX5_dueWith_49 : decode cX5_dueWith 49 = .ok (.ireturn, 1) := by decide +kernel
theorem dX5_dueWith_50 : decode cX5_dueWith 50 = .ok (.iconst 1, 1) := by decide +kernel
theorem dX5_dueWith_51 : decode cX5_dueWith 51 = .ok (.iload_n 1, 1) := by decide +kernel
theorem dX5_dueWith_52 : decode cX5_dueWith 52 = .ok (.iload_n 2, 1) := by decide +kernel
theorem dX5_dueWith_53 : decode cX5_dueWith 53 = .ok (.isub, 1) := by decide +kernel
theorem dX5_dueWith_54 : decode cX5_dueWith 54 = .ok (.invokestatic 335, 3) := by decide +kernel
theorem dX5_dueWith_57 : decode cX5_dueWith 57 = .ok (.ireturn, 1) := by decide +kernel
theorem dX5_dueWith_58 : decode cX5_dueWith 58 = .ok (.iload_n 1, 1) := by decide +kernel
theorem dX5_dueWith_59 : decode cX5_dueWith 59 = .ok (.iconst 3, 1) := by decide +kernel
theorem dX5_dueWith_60 : decode cX5_dueWith 60 = .ok (.iload_n 2, 1) := by decide +kernel
theorem dX5_dueWith_61 : decode cX5_dueWith 61 = .ok (.imul, 1) := by decide +kernel
theorem dX5_dueWith_62 : decode cX5_dueWith 62 = .ok (.iadd, 1) := by decide +kernel
theorem dX5_dueWith_63 : decode cX5_dueWith 63 = .ok (.ireturn, 1) := by decide +kernel
theorem dX5_dueWith_64 : decode cX5_dueWith 64 = .ok (.iload_n 1, 1) := by decide +kernel
theorem dX5_dueWith_65 : decode cX5_dueWith 65 = .ok (.iload_n 2, 1) := by decide +kernel
theorem dX5_dueWith_66 : decode cX5_dueWith 66 = .ok (.iadd, 1) := by decide +kernel
theorem dX5_dueWith_67 : decode cX5_dueWith 67 = .ok (.ireturn, 1) := by decide +kernel
def p5_dueWith (a1 : Int32) (a2 : Int32) (a3 : Int32) (M : SX) : Option (Int32 × SX) :=
  if a1 = 1 then (some (a2, M))
  else (if a1 = 2 then (some (a2 + (2 * a3), M))
  else (if a1 = 3 then (some (a2 + (a3 / 2), M))
  else (if a1 = 4 then (some (jmax 1 (a2 - a3), M))
  else (if a1 = 5 then (some (a2 + (3 * a3), M))
  else (some (a2 + a3, M))))))
set_option maxHeartbeats 4000000 in
set_option maxRecDepth 100000 in
theorem c5_dueWith {l : Launch} {G : XG} {r : Int32} {M' : SX} {M : SX} (a1 : Int32) (a2 : Int32) (a3 : Int32) (hf : p5_dueWith a1 a2 a3 M = some (r, M')) : Met l yX5_dueWith (.code yX5_dueWith cX5_dueWith 3 (some .int) :: TBL) (rmX 1) (xPc G ZX M [.int a1, .int a2, .int a3]) (xQi G ZX r M') 0 0 (inA G ZX) := by
  refine x_met (cc := cX5_dueWith) (by decide) (Nat.le_of_ble_eq_true rfl) ?_
  intro p e s m below meth c ls F hr hk hl hw
  have F : Fx G ZX p m c cX5_dueWith 3 s [.int a1, .int a2, .int a3].toArray RX5 := F
  have hl : lv_has ls 3 [(0, .int a1), (1, .int a2), (2, .int a3)] := hl
  have hx := F.1.1
  have hb := F.1.2.1
  unfold p5_dueWith at hf
  refine lv_iload_n hx hb dX5_dueWith_0 rfl (lv_at hl 0 rfl) ?_
  by_cases c1 : a1 = 1
  · have hf := it_t hf c1
    refine lv_tableIn (tgt := 36) hx hb dX5_dueWith_1 (by rw [c1]; decide) (by rw [c1]; decide) (by rw [c1]; rfl) (by decide) ?_
    refine lv_iload_n hx hb dX5_dueWith_36 rfl (lv_at hl 1 rfl) ?_
    exact x_iret F hw hr hk hf dX5_dueWith_37
  · have hf := it_f hf c1
    by_cases c2 : a1 = 2
    · have hf := it_t hf c2
      refine lv_tableIn (tgt := 38) hx hb dX5_dueWith_1 (by rw [c2]; decide) (by rw [c2]; decide) (by rw [c2]; rfl) (by decide) ?_
      refine lv_iload_n hx hb dX5_dueWith_38 rfl (lv_at hl 1 rfl) ?_
      refine lv_iconst (v := 2) hx hb dX5_dueWith_39 (by decide) ?_
      refine lv_iload_n hx hb dX5_dueWith_40 rfl (lv_at hl 2 rfl) ?_
      refine lv_imul hx hb dX5_dueWith_41 ?_
      refine lv_iadd hx hb dX5_dueWith_42 ?_
      exact x_iret F hw hr hk hf dX5_dueWith_43
    · have hf := it_f hf c2
      by_cases c3 : a1 = 3
      · have hf := it_t hf c3
        refine lv_tableIn (tgt := 44) hx hb dX5_dueWith_1 (by rw [c3]; decide) (by rw [c3]; decide) (by rw [c3]; rfl) (by decide) ?_
        refine lv_iload_n hx hb dX5_dueWith_44 rfl (lv_at hl 1 rfl) ?_
        refine lv_iload_n hx hb dX5_dueWith_45 rfl (lv_at hl 2 rfl) ?_
        refine lv_iconst (v := 2) hx hb dX5_dueWith_46 (by decide) ?_
        refine lv_idiv hx hb dX5_dueWith_47 (by decide) ?_
        refine lv_iadd hx hb dX5_dueWith_48 ?_
        exact x_iret F hw hr hk hf dX5_dueWith_49
      · have hf := it_f hf c3
        by_cases c4 : a1 = 4
        · have hf := it_t hf c4
          refine lv_tableIn (tgt := 50) hx hb dX5_dueWith_1 (by rw [c4]; decide) (by rw [c4]; decide) (by rw [c4]; rfl) (by decide) ?_
          refine lv_iconst (v := 1) hx hb dX5_dueWith_50 (by decide) ?_
          refine lv_iload_n hx hb dX5_dueWith_51 rfl (lv_at hl 1 rfl) ?_
          refine lv_iload_n hx hb dX5_dueWith_52 rfl (lv_at hl 2 rfl) ?_
          refine lv_isub hx hb dX5_dueWith_53 ?_
          refine x_max F hl.1 tw_4 tw_5 tw_6 tw_7 (Nat.le_of_ble_eq_true rfl) (Nat.le_of_ble_eq_true rfl) dX5_dueWith_54 ?_
          exact x_iret F hw hr hk hf dX5_dueWith_57
        · have hf := it_f hf c4
          by_cases c5 : a1 = 5
          · have hf := it_t hf c5
            refine lv_tableIn (tgt := 58) hx hb dX5_dueWith_1 (by rw [c5]; decide) (by rw [c5]; decide) (by rw [c5]; rfl) (by decide) ?_
            refine lv_iload_n hx hb dX5_dueWith_58 rfl (lv_at hl 1 rfl) ?_
            refine lv_iconst (v := 3) hx hb dX5_dueWith_59 (by decide) ?_
            refine lv_iload_n hx hb dX5_dueWith_60 rfl (lv_at hl 2 rfl) ?_
            refine lv_imul hx hb dX5_dueWith_61 ?_
            refine lv_iadd hx hb dX5_dueWith_62 ?_
            exact x_iret F hw hr hk hf dX5_dueWith_63
          · have hf := it_f hf c5
            have nc1 := x_ne (k := 1) (1) rfl c1
            have nc2 := x_ne (k := 2) (2) rfl c2
            have nc3 := x_ne (k := 3) (3) rfl c3
            have nc4 := x_ne (k := 4) (4) rfl c4
            have nc5 := x_ne (k := 5) (5) rfl c5
            refine lv_tableOut (tgt := 64) hx hb dX5_dueWith_1 (by omega) (by decide) ?_
            refine lv_iload_n hx hb dX5_dueWith_64 rfl (lv_at hl 1 rfl) ?_
            refine lv_iload_n hx hb dX5_dueWith_65 rfl (lv_at hl 2 rfl) ?_
            refine lv_iadd hx hb dX5_dueWith_66 ?_
            exact x_iret F hw hr hk hf dX5_dueWith_67
