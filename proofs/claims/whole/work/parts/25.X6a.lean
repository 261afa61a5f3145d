theorem dX6_bits_0 : decode cX6_bits 0 = .ok (.iconst 0, 1) := by decide +kernel
theorem dX6_bits_1 : decode cX6_bits 1 = .ok (.istore_n 1, 1) := by decide +kernel
theorem dX6_bits_2 : decode cX6_bits 2 = .ok (.iconst 0, 1) := by decide +kernel
theorem dX6_bits_3 : decode cX6_bits 3 = .ok (.istore_n 2, 1) := by decide +kernel
theorem dX6_bits_4 : decode cX6_bits 4 = .ok (.iload_n 2, 1) := by decide +kernel
theorem dX6_bits_5 : decode cX6_bits 5 = .ok (.bipush 6, 2) := by decide +kernel
theorem dX6_bits_7 : decode cX6_bits 7 = .ok (.if_icmp .ge 17, 3) := by decide +kernel
theorem dX6_bits_10 : decode cX6_bits 10 = .ok (.iload_n 1, 1) := by decide +kernel
theorem dX6_bits_11 : decode cX6_bits 11 = .ok (.iload_n 0, 1) := by decide +kernel
theorem dX6_bits_12 : decode cX6_bits 12 = .ok (.iload_n 2, 1) := by decide +kernel
theorem dX6_bits_13 : decode cX6_bits 13 = .ok (.ishr, 1) := by decide +kernel
theorem dX6_bits_14 : decode cX6_bits 14 = .ok (.iconst 1, 1) := by decide +kernel
theorem dX6_bits_15 : decode cX6_bits 15 = .ok (.iand, 1) := by decide +kernel
theorem dX6_bits_16 : decode cX6_bits 16 = .ok (.iadd, 1) := by decide +kernel
theorem dX6_bits_17 : decode cX6_bits 17 = .ok (.istore_n 1, 1) := by decide +kernel
theorem dX6_bits_18 : decode cX6_bits 18 = .ok (.iinc 2 1, 3) := by decide +kernel
theorem dX6_bits_21 : decode cX6_bits 21 = .ok (.goto (-17), 3) := by decide +kernel
theorem dX6_bits_24 : decode cX6_bits 24 = .ok (.iload_n 1, 1) := by decide +kernel
theorem dX6_bits_25 : decode cX6_bits 25 = .ok (.ireturn, 1) := by decide +kernel
def p6_bits_4 (k4 : Int32 → Int32 → Int32 → SX → Option (Int32 × SX)) (v0 : Int32) (v1 : Int32) (v2 : Int32) (M : SX) : Option (Int32 × SX) :=
  if (6 : Int32) ≤ v2 then (some (v1, M))
  else (lt_ (v1 + ((v0 >>> (v2 &&& 31)) &&& 1)) (fun x2 => lt_ (v2 + 1) (fun x3 => k4 v0 x2 x3 M)))
set_option maxHeartbeats 4000000 in
set_option maxRecDepth 100000 in
theorem w6_bits_4 {G : XG} {p : Program} {l : Launch} {e : Env} {s : State} {m : MethodId} {args : Array Value} {below : List Frame} {meth : Method} {c : Code} (F : Fx G ZY p m c cX6_bits 3 s args RX6) (hr : meth.sig.returnType = some .int) (hk : meth.locks = false) {r : Int32} {M' : SX} (k4 : Int32 → Int32 → Int32 → SX → Option (Int32 × SX)) (hk4 : ∀ (v0 : Int32) (v1 : Int32) (v2 : Int32) (M : SX) (H : Heap) (locs : List Loc) (ls : Array Slot), Wld G ZY M s.heap H locs → lv_has ls 3 [(0, .int v0), (1, .int v1), (2, .int v2)] → k4 v0 v1 v2 M = some (r, M') → WXi G ZY p l e 0 s m args below meth c r M' H locs (F0 m 4 ls [])) : ∀ (v0 : Int32) (v1 : Int32) (v2 : Int32) (M : SX) (H : Heap) (locs : List Loc) (ls : Array Slot), Wld G ZY M s.heap H locs → lv_has ls 3 [(0, .int v0), (1, .int v1), (2, .int v2)] → p6_bits_4 k4 v0 v1 v2 M = some (r, M') → WXi G ZY p l e 0 s m args below meth c r M' H locs (F0 m 4 ls []) := by
  intro v0 v1 v2 M H locs ls hw hl hf
  have hx := F.1.1
  have hb := F.1.2.1
  unfold p6_bits_4 at hf
  refine lv_iload_n hx hb dX6_bits_4 rfl (lv_at hl 2 rfl) ?_
  refine lv_bipush (v := 6) hx hb dX6_bits_5 (by decide) ?_
  refine lv_icmp_ge (tgt := 24) hx hb dX6_bits_7 (by decide) (fun c1 => ?_) (fun c1 => ?_)
  · have hf := it_t hf c1
    refine lv_iload_n hx hb dX6_bits_24 rfl (lv_at hl 1 rfl) ?_
    exact x_iret F hw hr hk hf dX6_bits_25
  · have hf := it_f hf c1
    refine lv_iload_n hx hb dX6_bits_10 rfl (lv_at hl 1 rfl) ?_
    refine lv_iload_n hx hb dX6_bits_11 rfl (lv_at hl 0 rfl) ?_
    refine lv_iload_n hx hb dX6_bits_12 rfl (lv_at hl 2 rfl) ?_
    refine lv_ishr hx hb dX6_bits_13 ?_
    refine lv_iconst (v := 1) hx hb dX6_bits_14 (by decide) ?_
    refine lv_iand hx hb dX6_bits_15 ?_
    refine lv_iadd hx hb dX6_bits_16 ?_
    obtain ⟨x2, ex2, hf⟩ := lt_elim hf
    refine x_let ex2 ?_
    refine lv_istore_n (lv' := [(1, .int x2), (0, .int v0), (2, .int v2)]) hx hb dX6_bits_17 rfl hl (by decide) rfl (fun ls hl => ?_)
    obtain ⟨x3, ex3, hf⟩ := lt_elim hf
    refine lv_iinc (v := x3) (lv' := [(2, .int x3), (1, .int x2), (0, .int v0)]) hx hb dX6_bits_18 hl (k := 2) rfl (by rw [ex3]; rfl) (by decide) rfl (fun ls hl => ?_)
    refine lv_goto (tgt := 4) hx hb dX6_bits_21 (by decide) ?_
    exact hk4 v0 x2 x3 M _ _ ls hw (lv_sub hl [2, 1, 0] rfl) hf
theorem z6_bits_4 {G : XG} {p : Program} {l : Launch} {e : Env} {s : State} {m : MethodId} {args : Array Value} {below : List Frame} {meth : Method} {c : Code} (F : Fx G ZY p m c cX6_bits 3 s args RX6) (hr : meth.sig.returnType = some .int) (hk : meth.locks = false) {r : Int32} {M' : SX} : ∀ n : Nat, ∀ (v0 : Int32) (v1 : Int32) (v2 : Int32) (M : SX) (H : Heap) (locs : List Loc) (ls : Array Slot), Wld G ZY M s.heap H locs → lv_has ls 3 [(0, .int v0), (1, .int v1), (2, .int v2)] → xlp3 p6_bits_4 n v0 v1 v2 M = some (r, M') → WXi G ZY p l e 0 s m args below meth c r M' H locs (F0 m 4 ls []) := by
  intro n
  induction n with
  | zero => intro _ _ _ _ _ _ _ _ _ hf; cases hf
  | succ n ih => exact w6_bits_4 F hr hk (xlp3 p6_bits_4 n) ih
def p6_bits (a1 : Int32) (M : SX) : Option (Int32 × SX) :=
  xlp3 p6_bits_4 FU a1 0 0 M
set_option maxHeartbeats 4000000 in
set_option maxRecDepth 100000 in
theorem c6_bits {l : Launch} {G : XG} {r : Int32} {M' : SX} {M : SX} (a1 : Int32) (hf : p6_bits a1 M = some (r, M')) : Met l yX6_bits (.code yX6_bits cX6_bits 3 (some .int) :: TBL) (rmX 0) (xPc G ZY M [.int a1]) (xQi G ZY r M') 0 0 (inA G ZY) := by
  refine x_met (cc := cX6_bits) (by decide) (Nat.le_of_ble_eq_true rfl) ?_
  intro p e s m below meth c ls F hr hk hl hw
  have F : Fx G ZY p m c cX6_bits 3 s [.int a1].toArray RX6 := F
  have hl : lv_has ls 3 [(0, .int a1)] := hl
  have hx := F.1.1
  have hb := F.1.2.1
  unfold p6_bits at hf
  refine lv_iconst (v := 0) hx hb dX6_bits_0 (by decide) ?_
  refine lv_istore_n (lv' := [(1, .int 0), (0, .int a1)]) hx hb dX6_bits_1 rfl hl (by decide) rfl (fun ls hl => ?_)
  refine lv_iconst (v := 0) hx hb dX6_bits_2 (by decide) ?_
  refine lv_istore_n (lv' := [(2, .int 0), (1, .int 0), (0, .int a1)]) hx hb dX6_bits_3 rfl hl (by decide) rfl (fun ls hl => ?_)
  exact z6_bits_4 F hr hk FU a1 0 0 M _ _ ls hw (lv_sub hl [2, 1, 0] rfl) hf
theorem dX6_in_0 : decode cX6_in 0 = .ok (.lload_n 0, 1) := by decide +kernel
theorem dX6_in_1 : decode cX6_in 1 = .ok (.lload_n 2, 1) := by decide +kernel
theorem dX6_in_2 : decode cX6_in 2 = .ok (.lcmp, 1) := by decide +kernel
theorem dX6_in_3 : decode cX6_in 3 = .ok (.ifCond .lt 14, 3) := by decide +kernel
theorem dX6_in_6 : decode cX6_in 6 = .ok (.lload_n 0, 1) := by decide +kernel
theorem dX6_in_7 : decode cX6_in 7 = .ok (.lload 4, 2) := by decide +kernel
theorem dX6_in_9 : decode cX6_in 9 = .ok (.lcmp, 1) := by decide +kernel
theorem dX6_in_10 : decode cX6_in 10 = .ok (.ifCond .gt 7, 3) := by decide +kernel
theorem dX6_in_13 : decode cX6_in 13 = .ok (.iconst 1, 1) := by decide +kernel
theorem dX6_in_14 : decode cX6_in 14 = .ok (.goto 4, 3) := by decide +kernel
theorem dX6_in_17 : decode cX6_in 17 = .ok (.iconst 0, 1) := by decide +kernel
theorem dX6_in_18 : decode cX6_in 18 = .ok (.ireturn, 1) := by decide +kernel
def p6_in (a1 : Int64) (a2 : Int64) (a3 : Int64) (M : SX) : Option (Int32 × SX) :=
  if a1 < a2 then (some (0, M))
  else (if a3 < a1 then (some (0, M))
  else (some (1, M)))
set_option maxHeartbeats 4000000 in
set_option maxRecDepth 100000 in
theorem c6_in {l : Launch} {G : XG} {r : Int32} {M' : SX} {M : SX} (a1 : Int64) (a2 : Int64) (a3 : Int64) (hf : p6_in a1 a2 a3 M = some (r, M')) : Met l yX6_in (.code yX6_in cX6_in 6 (some .boolean) :: TBL) (rmX 0) (xPc G ZY M [.long a1, .long a2, .long a3]) (xQi G ZY r M') 0 0 (inA G ZY) := by
  refine x_met (cc := cX6_in) (by decide) (Nat.le_of_ble_eq_true rfl) ?_
  intro p e s m below meth c ls F hr hk hl hw
  have F : Fx G ZY p m c cX6_in 6 s [.long a1, .long a2, .long a3].toArray RX6 := F
  have hl : lv_has ls 6 [(0, .long a1), (2, .long a2), (4, .long a3)] := hl
  have hx := F.1.1
  have hb := F.1.2.1
  unfold p6_in at hf
  refine lv_lload_n hx hb dX6_in_0 rfl (lv_at hl 0 rfl) ?_
  refine lv_lload_n hx hb dX6_in_1 rfl (lv_at hl 1 rfl) ?_
  refine W.lcmp hx hb dX6_in_2 ?_
  refine lv_if_lt (tgt := 17) hx hb dX6_in_3 (by decide) (fun c1 => ?_) (fun c1 => ?_)
  · have hf := it_t hf ((lc_lt a1 a2).mp c1)
    refine lv_iconst (v := 0) hx hb dX6_in_17 (by decide) ?_
    exact x_zret F hw hr hk (by decide) hf dX6_in_18
  · have hf := it_f hf (fun h9 => c1 ((lc_lt a1 a2).mpr h9))
    refine lv_lload_n hx hb dX6_in_6 rfl (lv_at hl 0 rfl) ?_
    refine lv_lload hx hb dX6_in_7 (lv_at hl 2 rfl) ?_
    refine W.lcmp hx hb dX6_in_9 ?_
    refine lv_if_gt (tgt := 17) hx hb dX6_in_10 (by decide) (fun c2 => ?_) (fun c2 => ?_)
    · have hf := it_t hf ((lc_gt a1 a3).mp c2)
      refine lv_iconst (v := 0) hx hb dX6_in_17 (by decide) ?_
      exact x_zret F hw hr hk (by decide) hf dX6_in_18
    · have hf := it_f hf (fun h9 => c2 ((lc_gt a1 a3).mpr h9))
      refine lv_iconst (v := 1) hx hb dX6_in_13 (by decide) ?_
      refine lv_goto (tgt := 18) hx hb dX6_in_14 (by decide) ?_
      exact x_zret F hw hr hk (by decide) hf dX6_in_18
theorem dX6_has_0 : decode cX6_has 0 = .ok (.iload_n 0, 1) := by decide +kernel
theorem dX6_has_1 : decode cX6_has 1 = .ok (.iload_n 1, 1) := by decide +kernel
theorem dX6_has_2 : decode cX6_has 2 = .ok (.ishr, 1) := by decide +kernel
theorem dX6_has_3 : decode cX6_has 3 = .ok (.iconst 1, 1) := by decide +kernel
theorem dX6_has_4 : decode cX6_has 4 = .ok (.iand, 1) := by decide +kernel
theorem dX6_has_5 : decode cX6_has 5 = .ok (.iconst 1, 1) := by decide +kernel
theorem dX6_has_6 : decode cX6_has 6 = .ok (.if_icmp .ne 7, 3) := by decide +kernel
theorem dX6_has_9 : decode cX6_has 9 = .ok (.iconst 1, 1) := by decide +kernel
theorem dX6_has_10 : decode cX6_has 10 = .ok (.goto 4, 3) := by decide +kernel
theorem dX6_has_13 : decode cX6_has 13 = .ok (.iconst 0, 1) := by decide +kernel
theorem dX6_has_14 : decode cX6_has 14 = .ok (.ireturn, 1) := by decide +kernel
def p6_has (a1 : Int32) (a2 : Int32) (M : SX) : Option (Int32 × SX) :=
  if ((a1 >>> (a2 &&& 31)) &&& 1) = (1 : Int32) then (some (1, M))
  else (some (0, M))
set_option maxHeartbeats 4000000 in
set_option maxRecDepth 100000 in
theorem c6_has {l : Launch} {G : XG} {r : Int32} {M' : SX} {M : SX} (a1 : Int32) (a2 : Int32) (hf : p6_has a1 a2 M = some (r, M')) : Met l yX6_has (.code yX6_has cX6_has 2 (some .boolean) :: TBL) (rmX 0) (xPc G ZY M [.int a1, .int a2]) (xQi G ZY r M') 0 0 (inA G ZY) := by
  refine x_met (cc := cX6_has) (by decide) (Nat.le_of_ble_eq_true rfl) ?_
  intro p e s m below meth c ls F hr hk hl hw
  have F : Fx G ZY p m c cX6_has 2 s [.int a1, .int a2].toArray RX6 := F
  have hl : lv_has ls 2 [(0, .int a1), (1, .int a2)] := hl
  have hx := F.1.1
  have hb := F.1.2.1
  unfold p6_has at hf
  refine lv_iload_n hx hb dX6_has_0 rfl (lv_at hl 0 rfl) ?_
  refine lv_iload_n hx hb dX6_has_1 rfl (lv_at hl 1 rfl) ?_
  refine lv_ishr hx hb dX6_has_2 ?_
  refine lv_iconst (v := 1) hx hb dX6_has_3 (by decide) ?_
  refine lv_iand hx hb dX6_has_4 ?_
  refine lv_iconst (v := 1) hx hb dX6_has_5 (by decide) ?_
  refine lv_icmp_ne (tgt := 13) hx hb dX6_has_6 (by decide) (fun c1 => ?_) (fun c1 => ?_)
  · have hf := it_f hf c1
    refine lv_iconst (v := 0) hx hb dX6_has_13 (by decide) ?_
    exact x_zret F hw hr hk (by decide) hf dX6_has_14
  · have hf := it_t hf c1
    refine lv_iconst (v := 1) hx hb dX6_has_9 (by decide) ?_
    refine lv_goto (tgt := 14) hx hb dX6_has_10 (by decide) ?_
    exact x_zret F hw hr hk (by decide) hf dX6_has_14
theorem dX6_find_0 : decode cX6_find 0 = .ok (.aload_n 0, 1) := by decide +kernel
theorem dX6_find_1 : decode cX6_find 1 = .ok (.iload_n 1, 1) := by decide +kernel
theorem dX6_find_2 : decode cX6_find 2 = .ok (.putfield 60, 3) := by decide +kernel
theorem dX6_find_5 : decode cX6_find 5 = .ok (.aload_n 0, 1) := by decide +kernel
theorem dX6_find_6 : decode cX6_find 6 = .ok (.getfield 32, 3) := by decide +kernel
theorem dX6_find_9 : decode cX6_find 9 = .ok (.iload_n 1, 1) := by decide +kernel
theorem dX6_find_10 : decode cX6_find 10 = .ok (.dup2, 1) := by decide +kernel
theorem dX6_find_11 : decode cX6_find 11 = .ok (.iaload, 1) := by decide +kernel
theorem dX6_find_12 : decode cX6_find 12 = .ok (.iconst 1, 1) := by decide +kernel
theorem dX6_find_13 : decode cX6_find 13 = .ok (.iadd, 1) := by decide +kernel
theorem dX6_find_14 : decode cX6_find 14 = .ok (.iastore, 1) := by decide +kernel
theorem dX6_find_15 : decode cX6_find 15 = .ok (.bipush (-3), 2) := by decide +kernel
theorem dX6_find_17 : decode cX6_find 17 = .ok (.ireturn, 1) := by decide +kernel
def p6_find (a1 : Int32) (M : SX) : Option (Int32 × SX) :=
  lt_ (wI M 0 10 a1) (fun M1 => gd (bIn a1 6) ( lt_ (wI M1 7 (Int32.toNatClampNeg a1) ((M1.1 7 (Int32.toNatClampNeg a1)) + 1)) (fun M3 => some ((-3), M3))))
set_option maxHeartbeats 4000000 in
set_option maxRecDepth 100000 in
theorem c6_find {l : Launch} {G : XG} {r : Int32} {M' : SX} {M : SX} (a1 : Int32) (hf : p6_find a1 M = some (r, M')) : Met l yX6_find (.code yX6_find cX6_find 2 (some .int) :: TBL) (rmX 0) (xPc G ZY M [.ref (G.2.1 0), .int a1]) (xQi G ZY r M') 0 0 (inA G ZY) := by
  refine x_met (cc := cX6_find) (by decide) (Nat.le_of_ble_eq_true rfl) ?_
  intro p e s m below meth c ls F hr hk hl hw
  have F : Fx G ZY p m c cX6_find 2 s [.ref (G.2.1 0), .int a1].toArray RX6 := F
  have hl : lv_has ls 2 [(0, .ref (G.2.1 0)), (1, .int a1)] := hl
  have hx := F.1.1
  have hb := F.1.2.1
  unfold p6_find at hf
  refine lv_aload_n hx hb dX6_find_0 rfl (lv_at hl 0 rfl) ?_
  refine lv_iload_n hx hb dX6_find_1 rfl (lv_at hl 1 rfl) ?_
  refine s6_10 F hw tw_602 dX6_find_2 (fun H locs hw => ?_)
  obtain ⟨M1, eM1, hf⟩ := lt_elim hf
  rw [← eM1] at hw
  refine lv_aload_n hx hb dX6_find_5 rfl (lv_at hl 0 rfl) ?_
  refine g6_11 F hw tw_603 dX6_find_6 ?_
  refine lv_iload_n hx hb dX6_find_9 rfl (lv_at hl 1 rfl) ?_
  refine lv_dup2_11 hx hb dX6_find_10 rfl rfl ?_
  obtain ⟨g2, hf⟩ := gd_some hf
  refine x_iald F hw sM7 g2 dX6_find_11 ?_
  refine lv_iconst (v := 1) hx hb dX6_find_12 (by decide) ?_
  refine lv_iadd hx hb dX6_find_13 ?_
  refine x_iast F hw sM7 g2 dX6_find_14 (fun H locs hw => ?_)
  obtain ⟨M3, eM3, hf⟩ := lt_elim hf
  rw [← eM3] at hw
  refine lv_bipush (v := (-3)) hx hb dX6_find_15 (by decide) ?_
  exact x_iret F hw hr hk hf dX6_find_17
theorem dX6_tell_0 : decode cX6_tell 0 = .ok (.aload_n 0, 1) := by decide +kernel
theorem dX6_tell_1 : decode cX6_tell 1 = .ok (.iload_n 1, 1) := by decide +kernel
theorem dX6_tell_2 : decode cX6_tell 2 = .ok (.putfield 64, 3) := by decide +kernel
theorem dX6_tell_5 : decode cX6_tell 5 = .ok (.iconst 1, 1) := by decide +kernel
theorem dX6_tell_6 : decode cX6_tell 6 = .ok (.ireturn, 1) := by decide +kernel
def p6_tell (a1 : Int32) (M : SX) : Option (Int32 × SX) :=
  lt_ (wI M 0 7 a1) (fun M1 => some (1, M1))
set_option maxHeartbeats 4000000 in
set_option maxRecDepth 100000 in
theorem c6_tell {l : Launch} {G : XG} {r : Int32} {M' : SX} {M : SX} (a1 : Int32) (hf : p6_tell a1 M = some (r, M')) : Met l yX6_tell (.code yX6_tell cX6_tell 2 (some .int) :: TBL) (rmX 0) (xPc G ZY M [.ref (G.2.1 0), .int a1]) (xQi G ZY r M') 0 0 (inA G ZY) := by
  refine x_met (cc := cX6_tell) (by decide) (Nat.le_of_ble_eq_true rfl) ?_
  intro p e s m below meth c ls F hr hk hl hw
  have F : Fx G ZY p m c cX6_tell 2 s [.ref (G.2.1 0), .int a1].toArray RX6 := F
  have hl : lv_has ls 2 [(0, .ref (G.2.1 0)), (1, .int a1)] := hl
  have hx := F.1.1
  have hb := F.1.2.1
  unfold p6_tell at hf
  refine lv_aload_n hx hb dX6_tell_0 rfl (lv_at hl 0 rfl) ?_
  refine lv_iload_n hx hb dX6_tell_1 rfl (lv_at hl 1 rfl) ?_
  refine s6_7 F hw tw_604 dX6_tell_2 (fun H locs hw => ?_)
  obtain ⟨M1, eM1, hf⟩ := lt_elim hf
  rw [← eM1] at hw
  refine lv_iconst (v := 1) hx hb dX6_tell_5 (by decide) ?_
  exact x_iret F hw hr hk hf dX6_tell_6
theorem dX6_makeRow_0 : decode cX6_makeRow 0 = .ok (.aload_n 0, 1) := by decide +kernel
theorem dX6_makeRow_1 : decode cX6_makeRow 1 = .ok (.getfield 16, 3) := by decide +kernel
theorem dX6_makeRow_4 : decode cX6_makeRow 4 = .ok (.iload_n 1, 1) := by decide +kernel
theorem dX6_makeRow_5 : decode cX6_makeRow 5 = .ok (.iload_n 2, 1) := by decide +kernel
theorem dX6_makeRow_6 : decode cX6_makeRow 6 = .ok (.iastore, 1) := by decide +kernel
theorem dX6_makeRow_7 : decode cX6_makeRow 7 = .ok (.iconst 0, 1) := by decide +kernel
theorem dX6_makeRow_8 : decode cX6_makeRow 8 = .ok (.istore_n 3, 1) := by decide +kernel
theorem dX6_makeRow_9 : decode cX6_makeRow 9 = .ok (.iload_n 3, 1) := by decide +kernel
theorem dX6_makeRow_10 : decode cX6_makeRow 10 = .ok (.bipush 40, 2) := by decide +kernel
theorem dX6_makeRow_12 : decode cX6_makeRow 12 = .ok (.if_icmp .ge 21, 3) := by decide +kernel
theorem dX6_makeRow_15 : decode cX6_makeRow 15 = .ok (.aload_n 0, 1) := by decide +kernel
theorem dX6_makeRow_16 : decode cX6_makeRow 16 = .ok (.getfield 19, 3) := by decide +kernel
theorem dX6_makeRow_19 : decode cX6_makeRow 19 = .ok (.bipush 40, 2) := by decide +kernel
theorem dX6_makeRow_21 : decode cX6_makeRow 21 = .ok (.iload_n 1, 1) := by decide +kernel
theorem dX6_makeRow_22 : decode cX6_makeRow 22 = .ok (.imul, 1) := by decide +kernel
theorem dX6_makeRow_23 : decode cX6_makeRow 23 = .ok (.iload_n 3, 1) := by decide +kernel
theorem dX6_makeRow_24 : decode cX6_makeRow 24 = .ok (.iadd, 1) := by decide +kernel
theorem dX6_makeRow_25 : decode cX6_makeRow 25 = .ok (.iconst 0, 1) := by decide +kernel
theorem dX6_makeRow_26 : decode cX6_makeRow 26 = .ok (.iastore, 1) := by decide +kernel
theorem dX6_makeRow_27 : decode cX6_makeRow 27 = .ok (.iinc 3 1, 3) := by decide +kernel
theorem dX6_makeRow_30 : decode cX6_makeRow 30 = .ok (.goto (-21), 3) := by decide +kernel
theorem dX6_makeRow_33 : decode cX6_makeRow 33 = .ok (.return_, 1) := by decide +kernel
def p6_makeRow_9 (k9 : Int32 → Int32 → SX → Option SX) (v1 : Int32) (v3 : Int32) (M : SX) : Option SX :=
  if (40 : Int32) ≤ v3 then (some M)
  else (gd (bIn ((40 * v1) + v3) 240) ( lt_ (wI M 4 (Int32.toNatClampNeg ((40 * v1) + v3)) 0) (fun M3 => lt_ (v3 + 1) (fun x4 => k9 v1 x4 M3))))
set_option maxHeartbeats 4000000 in
set_option maxRecDepth 100000 in
theorem w6_makeRow_9 {G : XG} {p : Program} {l : Launch} {e : Env} {s : State} {m : MethodId} {args : Array Value} {below : List Frame} {meth : Method} {c : Code} (F : Fx G ZY p m c cX6_makeRow 4 s args RX6) (hr : meth.sig.returnType = none) (hk : meth.locks = false) {M' : SX} (k9 : Int32 → Int32 → SX → Option SX) (hk9 : ∀ (v1 : Int32) (v3 : Int32) (M : SX) (H : Heap) (locs : List Loc) (ls : Array Slot), Wld G ZY M s.heap H locs → lv_has ls 4 [(0, .ref (G.2.1 0)), (1, .int v1), (3, .int v3)] → k9 v1 v3 M = some M' → WXv G ZY p l e 0 s m args below meth c M' H locs (F0 m 9 ls [])) : ∀ (v1 : Int32) (v3 : Int32) (M : SX) (H : Heap) (locs : List Loc) (ls : Array Slot), Wld G ZY M s.heap H locs → lv_has ls 4 [(0, .ref (G.2.1 0)), (1, .int v1), (3, .int v3)] → p6_makeRow_9 k9 v1 v3 M = some M' → WXv G ZY p l e 0 s m args below meth c M' H locs (F0 m 9 ls []) := by
  intro v1 v3 M H locs ls hw hl hf
  have hx := F.1.1
  have hb := F.1.2.1
  unfold p6_makeRow_9 at hf
  refine lv_iload_n hx hb dX6_makeRow_9 rfl (lv_at hl 2 rfl) ?_
  refine lv_bipush (v := 40) hx hb dX6_makeRow_10 (by decide) ?_
  refine lv_icmp_ge (tgt := 33) hx hb dX6_makeRow_12 (by decide) (fun c1 => ?_) (fun c1 => ?_)
  · have hf := it_t hf c1
    exact x_vret F hw hr hk hf dX6_makeRow_33
  · have hf := it_f hf c1
    refine lv_aload_n hx hb dX6_makeRow_15 rfl (lv_at hl 0 rfl) ?_
    refine g6_4 F hw tw_605 dX6_makeRow_16 ?_
    refine lv_bipush (v := 40) hx hb dX6_makeRow_19 (by decide) ?_
    refine lv_iload_n hx hb dX6_makeRow_21 rfl (lv_at hl 1 rfl) ?_
    refine lv_imul hx hb dX6_makeRow_22 ?_
    refine lv_iload_n hx hb dX6_makeRow_23 rfl (lv_at hl 2 rfl) ?_
    refine lv_iadd hx hb dX6_makeRow_24 ?_
    refine lv_iconst (v := 0) hx hb dX6_makeRow_25 (by decide) ?_
    obtain ⟨g2, hf⟩ := gd_some hf
    refine x_iast F hw sM4 g2 dX6_makeRow_26 (fun H locs hw => ?_)
    obtain ⟨M3, eM3, hf⟩ := lt_elim hf
    rw [← eM3] at hw
    obtain ⟨x4, ex4, hf⟩ := lt_elim hf
    refine lv_iinc (v := x4) (lv' := [(3, .int x4), (0, .ref (G.2.1 0)), (1, .int v1)]) hx hb dX6_makeRow_27 hl (k := 2) rfl (by rw [ex4]; rfl) (by decide) rfl (fun ls hl => ?_)
    refine lv_goto (tgt := 9) hx hb dX6_makeRow_30 (by decide) ?_
    exact hk9 v1 x4 M3 _ _ ls hw (lv_sub hl [1, 2, 0] rfl) hf
theorem z6_makeRow_9 {G : XG} {p : Program} {l : Launch} {e : Env} {s : State} {m : MethodId} {args : Array Value} {below : List Frame} {meth : Method} {c : Code} (F : Fx G ZY p m c cX6_makeRow 4 s args RX6) (hr : meth.sig.returnType = none) (hk : meth.locks = false) {M' : SX} : ∀ n : Nat, ∀ (v1 : Int32) (v3 : Int32) (M : SX) (H : Heap) (locs : List Loc) (ls : Array Slot), Wld G ZY M s.heap H locs → lv_has ls 4 [(0, .ref (G.2.1 0)), (1, .int v1), (3, .int v3)] → xlp2 p6_makeRow_9 n v1 v3 M = some M' → WXv G ZY p l e 0 s m args below meth c M' H locs (F0 m 9 ls []) := by
  intro n
  induction n with
  | zero => intro _ _ _ _ _ _ _ _ hf; cases hf
  | succ n ih => exact w6_makeRow_9 F hr hk (xlp2 p6_makeRow_9 n) ih
def p6_makeRow (a1 : Int32) (a2 : Int32) (M : SX) : Option SX :=
  gd (bIn a1 6) ( lt_ (wI M 3 (Int32.toNatClampNeg a1) a2) (fun M2 => xlp2 p6_makeRow_9 FU a1 0 M2))
set_option maxHeartbeats 4000000 in
set_option maxRecDepth 100000 in
theorem c6_makeRow {l : Launch} {G : XG} {M' : SX} {M : SX} (a1 : Int32) (a2 : Int32) (hf : p6_makeRow a1 a2 M = some M') : Met l yX6_makeRow (.code yX6_makeRow cX6_makeRow 4 none :: TBL) (rmX 0) (xPc G ZY M [.ref (G.2.1 0), .int a1, .int a2]) (xQv G ZY M') 0 0 (inA G ZY) := by
  refine x_met (cc := cX6_makeRow) (by decide) (Nat.le_of_ble_eq_true rfl) ?_
  intro p e s m below meth c ls F hr hk hl hw
  have F : Fx G ZY p m c cX6_makeRow 4 s [.ref (G.2.1 0), .int a1, .int a2].toArray RX6 := F
  have hl : lv_has ls 4 [(0, .ref (G.2.1 0)), (1, .int a1), (2, .int a2)] := hl
  have hx := F.1.1
  have hb := F.1.2.1
  unfold p6_makeRow at hf
  refine lv_aload_n hx hb dX6_makeRow_0 rfl (lv_at hl 0 rfl) ?_
  refine g6_3 F hw tw_606 dX6_makeRow_1 ?_
  refine lv_iload_n hx hb dX6_makeRow_4 rfl (lv_at hl 1 rfl) ?_
  refine lv_iload_n hx hb dX6_makeRow_5 rfl (lv_at hl 2 rfl) ?_
  obtain ⟨g1, hf⟩ := gd_some hf
  refine x_iast F hw sM3 g1 dX6_makeRow_6 (fun H locs hw => ?_)
  obtain ⟨M2, eM2, hf⟩ := lt_elim hf
  rw [← eM2] at hw
  refine lv_iconst (v := 0) hx hb dX6_makeRow_7 (by decide) ?_
  refine lv_istore_n (lv' := [(3, .int 0), (0, .ref (G.2.1 0)), (1, .int a1), (2, .int a2)]) hx hb dX6_makeRow_8 rfl hl (by decide) rfl (fun ls hl => ?_)
  exact z6_makeRow_9 F hr hk FU a1 0 M2 _ _ ls hw (lv_sub hl [1, 2, 0] rfl) hf
theorem dX6_isSpan_0 : decode cX6_isSpan 0 = .ok (.iload_n 2, 1) := by decide +kernel
theorem dX6_isSpan_1 : decode cX6_isSpan 1 = .ok (.ifCond .lt 23, 3) := by decide +kernel
theorem dX6_isSpan_4 : decode cX6_isSpan 4 = .ok (.iload_n 2, 1) := by decide +kernel
theorem dX6_isSpan_5 : decode cX6_isSpan 5 = .ok (.i2l, 1) := by decide +kernel
theorem dX6_isSpan_6 : decode cX6_isSpan 6 = .ok (.iload_n 3, 1) := by decide +kernel
theorem dX6_isSpan_7 : decode cX6_isSpan 7 = .ok (.i2l, 1) := by decide +kernel
theorem dX6_isSpan_8 : decode cX6_isSpan 8 = .ok (.ladd, 1) := by decide +kernel
theorem dX6_isSpan_9 : decode cX6_isSpan 9 = .ok (.aload_n 0, 1) := by decide +kernel
theorem dX6_isSpan_10 : decode cX6_isSpan 10 = .ok (.getfield 16, 3) := by decide +kernel
theorem dX6_isSpan_13 : decode cX6_isSpan 13 = .ok (.iload_n 1, 1) := by decide +kernel
theorem dX6_isSpan_14 : decode cX6_isSpan 14 = .ok (.iaload, 1) := by decide +kernel
theorem dX6_isSpan_15 : decode cX6_isSpan 15 = .ok (.i2l, 1) := by decide +kernel
theorem dX6_isSpan_16 : decode cX6_isSpan 16 = .ok (.lcmp, 1) := by decide +kernel
theorem dX6_isSpan_17 : decode cX6_isSpan 17 = .ok (.ifCond .gt 7, 3) := by decide +kernel
theorem dX6_isSpan_20 : decode cX6_isSpan 20 = .ok (.iconst 1, 1) := by decide +kernel
theorem dX6_isSpan_21 : decode cX6_isSpan 21 = .ok (.goto 4, 3) := by decide +kernel
theorem dX6_isSpan_24 : decode cX6_isSpan 24 = .ok (.iconst 0, 1) := by decide +kernel
theorem dX6_isSpan_25 : decode cX6_isSpan 25 = .ok (.ireturn, 1) := by decide +kernel
def p6_isSpan (a1 : Int32) (a2 : Int32) (a3 : Int32) (M : SX) : Option (Int32 × SX) :=
  if a2 < 0 then (some (0, M))
  else (gd (bIn a1 6) ( if (Int32.toInt64 (M.1 3 (Int32.toNatClampNeg a1))) < ((Int32.toInt64 a2) + (Int32.toInt64 a3)) then (some (0, M))
  else (some (1, M))))
set_option maxHeartbeats 4000000 in
set_option maxRecDepth 100000 in
theorem c6_isSpan {l : Launch} {G : XG} {r : Int32} {M' : SX} {M : SX} (a1 : Int32) (a2 : Int32) (a3 : Int32) (hf : p6_isSpan a1 a2 a3 M = some (r, M')) : Met l yX6_isSpan (.code yX6_isSpan cX6_isSpan 4 (some .boolean) :: TBL) (rmX 0) (xPc G ZY M [.ref (G.2.1 0), .int a1, .int a2, .int a3]) (xQi G ZY r M') 0 0 (inA G ZY) := by
  refine x_met (cc := cX6_isSpan) (by decide) (Nat.le_of_ble_eq_true rfl) ?_
  intro p e s m below meth c ls F hr hk hl hw
  have F : Fx G ZY p m c cX6_isSpan 4 s [.ref (G.2.1 0), .int a1, .int a2, .int a3].toArray RX6 := F
  have hl : lv_has ls 4 [(0, .ref (G.2.1 0)), (1, .int a1), (2, .int a2), (3, .int a3)] := hl
  have hx := F.1.1
  have hb := F.1.2.1
  unfold p6_isSpan at hf
  refine lv_iload_n hx hb dX6_isSpan_0 rfl (lv_at hl 2 rfl) ?_
  refine lv_if_lt (tgt := 24) hx hb dX6_isSpan_1 (by decide) (fun c1 => ?_) (fun c1 => ?_)
  · have hf := it_t hf c1
    refine lv_iconst (v := 0) hx hb dX6_isSpan_24 (by decide) ?_
    exact x_zret F hw hr hk (by decide) hf dX6_isSpan_25
  · have hf := it_f hf c1
    refine lv_iload_n hx hb dX6_isSpan_4 rfl (lv_at hl 2 rfl) ?_
    refine lv_i2l (v := Int32.toInt64 a2) hx hb dX6_isSpan_5 rfl ?_
    refine lv_iload_n hx hb dX6_isSpan_6 rfl (lv_at hl 3 rfl) ?_
    refine lv_i2l (v := Int32.toInt64 a3) hx hb dX6_isSpan_7 rfl ?_
    refine lv_ladd hx hb dX6_isSpan_8 ?_
    refine lv_aload_n hx hb dX6_isSpan_9 rfl (lv_at hl 0 rfl) ?_
    refine g6_3 F hw tw_606 dX6_isSpan_10 ?_
    refine lv_iload_n hx hb dX6_isSpan_13 rfl (lv_at hl 1 rfl) ?_
    obtain ⟨g2, hf⟩ := gd_some hf
    refine x_iald F hw sM3 g2 dX6_isSpan_14 ?_
    refine lv_i2l (v := Int32.toInt64 (M.1 3 (Int32.toNatClampNeg a1))) hx hb dX6_isSpan_15 rfl ?_
    refine W.lcmp hx hb dX6_isSpan_16 ?_
    refine lv_if_gt (tgt := 24) hx hb dX6_isSpan_17 (by decide) (fun c3 => ?_) (fun c3 => ?_)
    · have hf := it_t hf ((lc_gt ((Int32.toInt64 a2) + (Int32.toInt64 a3)) (Int32.toInt64 (M.1 3 (Int32.toNatClampNeg a1)))).mp c3)
      refine lv_iconst (v := 0) hx hb dX6_isSpan_24 (by decide) ?_
      exact x_zret F hw hr hk (by decide) hf dX6_isSpan_25
    · have hf := it_f hf (fun h9 => c3 ((lc_gt ((Int32.toInt64 a2) + (Int32.toInt64 a3)) (Int32.toInt64 (M.1 3 (Int32.toNatClampNeg a1)))).mpr h9))
      refine lv_iconst (v := 1) hx hb dX6_isSpan_20 (by decide) ?_
      refine lv_goto (tgt := 25) hx hb dX6_isSpan_21 (by decide) ?_
      exact x_zret F hw hr hk (by decide) hf dX6_isSpan_25
theorem dX6_here_0 : decode cX6_here 0 = .ok (.aload_n 0, 1) := by decide +kernel
theorem dX6_here_1 : decode cX6_here 1 = .ok (.getfield 25, 3) := by decide +kernel
theorem dX6_here_4 : decode cX6_here 4 = .ok (.aload_n 0, 1) := by decide +kernel
theorem dX6_here_5 : decode cX6_here 5 = .ok (.getfield 101, 3) := by decide +kernel
theorem dX6_here_8 : decode cX6_here 8 = .ok (.aload_n 0, 1) := by decide +kernel
theorem dX6_here_9 : decode cX6_here 9 = .ok (.getfield 104, 3) := by decide +kernel
theorem dX6_here_12 : decode cX6_here 12 = .ok (.iadd, 1) := by decide +kernel
theorem dX6_here_13 : decode cX6_here 13 = .ok (.iaload, 1) := by decide +kernel
theorem dX6_here_14 : decode cX6_here 14 = .ok (.ireturn, 1) := by decide +kernel
def p6_here (M : SX) : Option (Int32 × SX) :=
  gd (bIn ((M.1 0 12) + (M.1 0 13)) 240) ( some (M.1 6 (Int32.toNatClampNeg ((M.1 0 12) + (M.1 0 13))), M))
set_option maxHeartbeats 4000000 in
set_option maxRecDepth 100000 in
theorem c6_here {l : Launch} {G : XG} {r : Int32} {M' : SX} {M : SX} (hf : p6_here M = some (r, M')) : Met l yX6_here (.code yX6_here cX6_here 1 (some .int) :: TBL) (rmX 0) (xPc G ZY M [.ref (G.2.1 0)]) (xQi G ZY r M') 0 0 (inA G ZY) := by
  refine x_met (cc := cX6_here) (by decide) (Nat.le_of_ble_eq_true rfl) ?_
  intro p e s m below meth c ls F hr hk hl hw
  have F : Fx G ZY p m c cX6_here 1 s [.ref (G.2.1 0)].toArray RX6 := F
  have hl : lv_has ls 1 [(0, .ref (G.2.1 0))] := hl
  have hx := F.1.1
  have hb := F.1.2.1
  unfold p6_here at hf
  refine lv_aload_n hx hb dX6_here_0 rfl (lv_at hl 0 rfl) ?_
  refine g6_6 F hw tw_607 dX6_here_1 ?_
  refine lv_aload_n hx hb dX6_here_4 rfl (lv_at hl 0 rfl) ?_
  refine g6_12 F hw tw_608 dX6_here_5 ?_
  refine lv_aload_n hx hb dX6_here_8 rfl (lv_at hl 0 rfl) ?_
  refine g6_13 F hw tw_609 dX6_here_9 ?_
  refine lv_iadd hx hb dX6_here_12 ?_
  obtain ⟨g1, hf⟩ := gd_some hf
  refine x_iald F hw sM6 g1 dX6_here_13 ?_
  exact x_iret F hw hr hk hf dX6_here_14
theorem dX6_kindOfLetter_0 : decode cX6_kindOfLetter 0 = .ok (.iload_n 0, 1) := by decide +kernel
theorem dX6_kindOfLetter_1 : decode cX6_kindOfLetter 1 = .ok (.bipush 115, 2) := by decide +kernel
theorem dX6_kindOfLetter_3 : decode cX6_kindOfLetter 3 = .ok (.if_icmp .ne 7, 3) := by decide +kernel
theorem dX6_kindOfLetter_6 : decode cX6_kindOfLetter 6 = .ok (.iconst 0, 1) := by decide +kernel
theorem dX6_kindOfLetter_7 : decode cX6_kindOfLetter 7 = .ok (.goto 55, 3) := by decide +kernel
theorem dX6_kindOfLetter_10 : decode cX6_kindOfLetter 10 = .ok (.iload_n 0, 1) := by decide +kernel
theorem dX6_kindOfLetter_11 : decode cX6_kindOfLetter 11 = .ok (.bipush 117, 2) := by decide +kernel
theorem dX6_kindOfLetter_13 : decode cX6_kindOfLetter 13 = .ok (.if_icmp .ne 7, 3) := by decide +kernel
theorem dX6_kindOfLetter_16 : decode cX6_kindOfLetter 16 = .ok (.iconst 1, 1) := by decide +kernel
theorem dX6_kindOfLetter_17 : decode cX6_kindOfLetter 17 = .ok (.goto 45, 3) := by decide +kernel
theorem dX6_kindOfLetter_20 : decode cX6_kindOfLetter 20 = .ok (.iload_n 0, 1) := by decide +kernel
theorem dX6_kindOfLetter_21 : decode cX6_kindOfLetter 21 = .ok (.bipush 104, 2) := by decide +kernel
theorem dX6_kindOfLetter_23 : decode cX6_kindOfLetter 23 = .ok (.if_icmp .ne 7, 3) := by decide +kernel
theorem dX6_kindOfLetter_26 : decode cX6_kindOfLetter 26 = .ok (.iconst 2, 1) := by decide +kernel
theorem dX6_kindOfLetter_27 : decode cX6_kindOfLetter 27 = .ok (.goto 35, 3) := by decide +kernel
theorem dX6_kindOfLetter_30 : decode cX6_kindOfLetter 30 = .ok (.iload_n 0, 1) := by decide +kernel
theorem dX6_kindOfLetter_31 : decode cX6_kindOfLetter 31 = .ok (.bipush 119, 2) := by decide +kernel
theorem dX6_kindOfLetter_33 : decode cX6_kindOfLetter 33 = .ok (.if_icmp .ne 7, 3) := by decide +kernel
theorem dX6_kindOfLetter_36 : decode cX6_kindOfLetter 36 = .ok (.iconst 3, 1) := by decide +kernel
theorem dX6_kindOfLetter_37 : decode cX6_kindOfLetter 37 = .ok (.goto 25, 3) := by decide +kernel
theorem dX6_kindOfLetter_40 : decode cX6_kindOfLetter 40 = .ok (.iload_n 0, 1) := by decide +kernel
theorem dX6_kindOfLetter_41 : decode cX6_kindOfLetter 41 = .ok (.bipush 97, 2) := by decide +kernel
theorem dX6_kindOfLetter_43 : decode cX6_kindOfLetter 43 = .ok (.if_icmp .ne 7, 3) := by decide +kernel
theorem dX6_kindOfLetter_46 : decode cX6_kindOfLetter 46 = .ok (.iconst 4, 1) := by decide +kernel
theorem dX6_kindOfLetter_47 : decode cX6_kindOfLetter 47 = .ok (.goto 15, 3) := by decide +kernel
theorem dX6_kindOfLetter_50 : decode cX6_kindOfLetter 50 = .ok (.iload_n 0, 1) := by decide +kernel
theorem dX6_kindOfLetter_51 : decode cX6_kindOfLetter 51 = .ok (.bipush 118, 2) := by decide +kernel
theorem dX6_kindOfLetter_53 : decode cX6_kindOfLetter 53 = .ok (.if_icmp .ne 7, 3) := by decide +kernel
theorem dX6_kindOfLetter_56 : decode cX6_kindOfLetter 56 = .ok (.iconst 5, 1) := by decide +kernel
theorem dX6_kindOfLetter_57 : decode cX6_kindOfLetter 57 = .ok (.goto 5, 3) := by decide +kernel
theorem dX6_kindOfLetter_60 : decode cX6_kindOfLetter 60 = .ok (.bipush (-9), 2) := by decide +kernel
theorem dX6_kindOfLetter_62 : decode cX6_kindOfLetter 62 = .ok (.ireturn, 1) := by decide +kernel
def p6_kindOfLetter (a1 : Int32) (M : SX) : Option (Int32 × SX) :=
  if a1 = (115 : Int32) then (some (0, M))
  else (if a1 = (117 : Int32) then (some (1, M))
  else (if a1 = (104 : Int32) then (some (2, M))
  else (if a1 = (119 : Int32) then (some (3, M))
  else (if a1 = (97 : Int32) then (some (4, M))
  else (if a1 = (118 : Int32) then (some (5, M))
  else (some ((-9), M)))))))
set_option maxHeartbeats 4000000 in
set_option maxRecDepth 100000 in
theorem c6_kindOfLetter {l : Launch} {G : XG} {r : Int32} {M' : SX} {M : SX} (a1 : Int32) (hf : p6_kindOfLetter a1 M = some (r, M')) : Met l yX6_kindOfLetter (.code yX6_kindOfLetter cX6_kindOfLetter 1 (some .int) :: TBL) (rmX 0) (xPc G ZY M [.int a1]) (xQi G ZY r M') 0 0 (inA G ZY) := by
  refine x_met (cc := cX6_kindOfLetter) (by decide) (Nat.le_of_ble_eq_true rfl) ?_
  intro p e s m below meth c ls F hr hk hl hw
  have F : Fx G ZY p m c cX6_kindOfLetter 1 s [.int a1].toArray RX6 := F
  have hl : lv_has ls 1 [(0, .int a1)] := hl
  have hx := F.1.1
  have hb := F.1.2.1
  unfold p6_kindOfLetter at hf
  refine lv_iload_n hx hb dX6_kindOfLetter_0 rfl (lv_at hl 0 rfl) ?_
  refine lv_bipush (v := 115) hx hb dX6_kindOfLetter_1 (by decide) ?_
  refine lv_icmp_ne (tgt := 10) hx hb dX6_kindOfLetter_3 (by decide) (fun c1 => ?_) (fun c1 => ?_)
  · have hf := it_f hf c1
    refine lv_iload_n hx hb dX6_kindOfLetter_10 rfl (lv_at hl 0 rfl) ?_
    refine lv_bipush (v := 117) hx hb dX6_kindOfLetter_11 (by decide) ?_
    refine lv_icmp_ne (tgt := 20) hx hb dX6_kindOfLetter_13 (by decide) (fun c2 => ?_) (fun c2 => ?_)
    · have hf := it_f hf c2
      refine lv_iload_n hx hb dX6_kindOfLetter_20 rfl (lv_at hl 0 rfl) ?_
      refine lv_bipush (v := 104) hx hb dX6_kindOfLetter_21 (by decide) ?_
      refine lv_icmp_ne (tgt := 30) hx hb dX6_kindOfLetter_23 (by decide) (fun c3 => ?_) (fun c3 => ?_)
      · have hf := it_f hf c3
        refine lv_iload_n hx hb dX6_kindOfLetter_30 rfl (lv_at hl 0 rfl) ?_
        refine lv_bipush (v := 119) hx hb dX6_kindOfLetter_31 (by decide) ?_
        refine lv_icmp_ne (tgt := 40) hx hb dX6_kindOfLetter_33 (by decide) (fun c4 => ?_) (fun c4 => ?_)
        · have hf := it_f hf c4
          refine lv_iload_n hx hb dX6_kindOfLetter_40 rfl (lv_at hl 0 rfl) ?_
          refine lv_bipush (v := 97) hx hb dX6_kindOfLetter_41 (by decide) ?_
          refine lv_icmp_ne (tgt := 50) hx hb dX6_kindOfLetter_43 (by decide) (fun c5 => ?_) (fun c5 => ?_)
          · have hf := it_f hf c5
            refine lv_iload_n hx hb dX6_kindOfLetter_50 rfl (lv_at hl 0 rfl) ?_
            refine lv_bipush (v := 118) hx hb dX6_kindOfLetter_51 (by decide) ?_
            refine lv_icmp_ne (tgt := 60) hx hb dX6_kindOfLetter_53 (by decide) (fun c6 => ?_) (fun c6 => ?_)
            · have hf := it_f hf c6
              refine lv_bipush (v := (-9)) hx hb dX6_kindOfLetter_60 (by decide) ?_
              exact x_iret F hw hr hk hf dX6_kindOfLetter_62
            · have hf := it_t hf c6
              refine lv_iconst (v := 5) hx hb dX6_kindOfLetter_56 (by decide) ?_
              refine lv_goto (tgt := 62) hx hb dX6_kindOfLetter_57 (by decide) ?_
              exact x_iret F hw hr hk hf dX6_kindOfLetter_62
          · have hf := it_t hf c5
            refine lv_iconst (v := 4) hx hb dX6_kindOfLetter_46 (by decide) ?_
            refine lv_goto (tgt := 62) hx hb dX6_kindOfLetter_47 (by decide) ?_
            exact x_iret F hw hr hk hf dX6_kindOfLetter_62
        · have hf := it_t hf c4
          refine lv_iconst (v := 3) hx hb dX6_kindOfLetter_36 (by decide) ?_
          refine lv_goto (tgt := 62) hx hb dX6_kindOfLetter_37 (by decide) ?_
          exact x_iret F hw hr hk hf dX6_kindOfLetter_62
      · have hf := it_t hf c3
        refine lv_iconst (v := 2) hx hb dX6_kindOfLetter_26 (by decide) ?_
        refine lv_goto (tgt := 62) hx hb dX6_kindOfLetter_27 (by decide) ?_
        exact x_iret F hw hr hk hf dX6_kindOfLetter_62
    · have hf := it_t hf c2
      refine lv_iconst (v := 1) hx hb dX6_kindOfLetter_16 (by decide) ?_
      refine lv_goto (tgt := 62) hx hb dX6_kindOfLetter_17 (by decide) ?_
      exact x_iret F hw hr hk hf dX6_kindOfLetter_62
  · have hf := it_t hf c1
    refine lv_iconst (v := 0) hx hb dX6_kindOfLetter_6 (by decide) ?_
    refine lv_goto (tgt := 62) hx hb dX6_kindOfLetter_7 (by decide) ?_
    exact x_iret F hw hr hk hf dX6_kindOfLetter_62
theorem dX6_isPawned_0 : decode cX6_isPawned 0 = .ok (.aload_n 0, 1) := by decide +kernel
theorem dX6_isPawned_1 : decode cX6_isPawned 1 = .ok (.getfield 7, 3) := by decide +kernel
theorem dX6_isPawned_4 : decode cX6_isPawned 4 = .ok (.bipush 7, 2) := by decide +kernel
theorem dX6_isPawned_6 : decode cX6_isPawned 6 = .ok (.iload_n 1, 1) := by decide +kernel
theorem dX6_isPawned_7 : decode cX6_isPawned 7 = .ok (.iadd, 1) := by decide +kernel
theorem dX6_isPawned_8 : decode cX6_isPawned 8 = .ok (.iaload, 1) := by decide +kernel
theorem dX6_isPawned_9 : decode cX6_isPawned 9 = .ok (.bipush (-9), 2) := by decide +kernel
theorem dX6_isPawned_11 : decode cX6_isPawned 11 = .ok (.if_icmp .eq 7, 3) := by decide +kernel
theorem dX6_isPawned_14 : decode cX6_isPawned 14 = .ok (.iconst 1, 1) := by decide +kernel
theorem dX6_isPawned_15 : decode cX6_isPawned 15 = .ok (.goto 4, 3) := by decide +kernel
theorem dX6_isPawned_18 : decode cX6_isPawned 18 = .ok (.iconst 0, 1) := by decide +kernel
theorem dX6_isPawned_19 : decode cX6_isPawned 19 = .ok (.ireturn, 1) := by decide +kernel
def p6_isPawned (a1 : Int32) (M : SX) : Option (Int32 × SX) :=
  gd (bIn (7 + a1) 3964) ( if (M.1 1 (Int32.toNatClampNeg (7 + a1))) = (-9 : Int32) then (some (0, M))
  else (some (1, M)))
set_option maxHeartbeats 4000000 in
set_option maxRecDepth 100000 in
theorem c6_isPawned {l : Launch} {G : XG} {r : Int32} {M' : SX} {M : SX} (a1 : Int32) (hf : p6_isPawned a1 M = some (r, M')) : Met l yX6_isPawned (.code yX6_isPawned cX6_isPawned 2 (some .boolean) :: TBL) (rmX 0) (xPc G ZY M [.ref (G.2.1 0), .int a1]) (xQi G ZY r M') 0 0 (inA G ZY) := by
  refine x_met (cc := cX6_isPawned) (by decide) (Nat.le_of_ble_eq_true rfl) ?_
  intro p e s m below meth c ls F hr hk hl hw
  have F : Fx G ZY p m c cX6_isPawned 2 s [.ref (G.2.1 0), .int a1].toArray RX6 := F
  have hl : lv_has ls 2 [(0, .ref (G.2.1 0)), (1, .int a1)] := hl
  have hx := F.1.1
  have hb := F.1.2.1
  unfold p6_isPawned at hf
  refine lv_aload_n hx hb dX6_isPawned_0 rfl (lv_at hl 0 rfl) ?_
  refine g6_0 F hw tw_610 dX6_isPawned_1 ?_
  refine lv_bipush (v := 7) hx hb dX6_isPawned_4 (by decide) ?_
  refine lv_iload_n hx hb dX6_isPawned_6 rfl (lv_at hl 1 rfl) ?_
  refine lv_iadd hx hb dX6_isPawned_7 ?_
  obtain ⟨g1, hf⟩ := gd_some hf
  refine x_iald F hw sM1 g1 dX6_isPawned_8 ?_
  refine lv_bipush (v := (-9)) hx hb dX6_isPawned_9 (by decide) ?_
  refine lv_icmp_eq (tgt := 18) hx hb dX6_isPawned_11 (by decide) (fun c2 => ?_) (fun c2 => ?_)
  · have hf := it_t hf c2
    refine lv_iconst (v := 0) hx hb dX6_isPawned_18 (by decide) ?_
    exact x_zret F hw hr hk (by decide) hf dX6_isPawned_19
  · have hf := it_f hf c2
    refine lv_iconst (v := 1) hx hb dX6_isPawned_14 (by decide) ?_
    refine lv_goto (tgt := 19) hx hb dX6_isPawned_15 (by decide) ?_
    exact x_zret F hw hr hk (by decide) hf dX6_isPawned_19
theorem dX6_heldBy_0 : decode cX6_heldBy 0 = .ok (.iconst 0, 1) := by decide +kernel
theorem dX6_heldBy_1 : decode cX6_heldBy 1 = .ok (.istore_n 2, 1) := by decide +kernel
theorem dX6_heldBy_2 : decode cX6_heldBy 2 = .ok (.iconst 0, 1) := by decide +kernel
theorem dX6_heldBy_3 : decode cX6_heldBy 3 = .ok (.istore_n 3, 1) := by decide +kernel
theorem dX6_heldBy_4 : decode cX6_heldBy 4 = .ok (.iload_n 3, 1) := by decide +kernel
theorem dX6_heldBy_5 : decode cX6_heldBy 5 = .ok (.aload_n 0, 1) := by decide +kernel
theorem dX6_heldBy_6 : decode cX6_heldBy 6 = .ok (.getfield 140, 3) := by decide +kernel
theorem dX6_heldBy_9 : decode cX6_heldBy 9 = .ok (.if_icmp .ge 32, 3) := by decide +kernel
theorem dX6_heldBy_12 : decode cX6_heldBy 12 = .ok (.iload_n 2, 1) := by decide +kernel
theorem dX6_heldBy_13 : decode cX6_heldBy 13 = .ok (.aload_n 0, 1) := by decide +kernel
theorem dX6_heldBy_14 : decode cX6_heldBy 14 = .ok (.getfield 7, 3) := by decide +kernel
theorem dX6_heldBy_17 : decode cX6_heldBy 17 = .ok (.bipush 7, 2) := by decide +kernel
theorem dX6_heldBy_19 : decode cX6_heldBy 19 = .ok (.iload_n 3, 1) := by decide +kernel
theorem dX6_heldBy_20 : decode cX6_heldBy 20 = .ok (.iadd, 1) := by decide +kernel
theorem dX6_heldBy_21 : decode cX6_heldBy 21 = .ok (.iaload, 1) := by decide +kernel
theorem dX6_heldBy_22 : decode cX6_heldBy 22 = .ok (.iload_n 1, 1) := by decide +kernel
theorem dX6_heldBy_23 : decode cX6_heldBy 23 = .ok (.if_icmp .ne 9, 3) := by decide +kernel
theorem dX6_heldBy_26 : decode cX6_heldBy 26 = .ok (.iconst 1, 1) := by decide +kernel
theorem dX6_heldBy_27 : decode cX6_heldBy 27 = .ok (.iload_n 3, 1) := by decide +kernel
theorem dX6_heldBy_28 : decode cX6_heldBy 28 = .ok (.ishl, 1) := by decide +kernel
theorem dX6_heldBy_29 : decode cX6_heldBy 29 = .ok (.goto 4, 3) := by decide +kernel
theorem dX6_heldBy_32 : decode cX6_heldBy 32 = .ok (.iconst 0, 1) := by decide +kernel
theorem dX6_heldBy_33 : decode cX6_heldBy 33 = .ok (.ior, 1) := by decide +kernel
theorem dX6_heldBy_34 : decode cX6_heldBy 34 = .ok (.istore_n 2, 1) := by decide +kernel
theorem dX6_heldBy_35 : decode cX6_heldBy 35 = .ok (.iinc 3 1, 3) := by decide +kernel
theorem dX6_heldBy_38 : decode cX6_heldBy 38 = .ok (.goto (-34), 3) := by decide +kernel
theorem dX6_heldBy_41 : decode cX6_heldBy 41 = .ok (.iload_n 2, 1) := by decide +kernel
theorem dX6_heldBy_42 : decode cX6_heldBy 42 = .ok (.ireturn, 1) := by decide +kernel
def p6_heldBy_33 (k4 : Int32 → Int32 → Int32 → SX → Option (Int32 × SX)) (v1 : Int32) (v3 : Int32) (t0 : Int32) (t1 : Int32) (M : SX) : Option (Int32 × SX) :=
  lt_ (t0 ||| t1) (fun x1 => lt_ (v3 + 1) (fun x2 => k4 v1 x1 x2 M))
set_option maxHeartbeats 4000000 in
set_option maxRecDepth 100000 in
theorem w6_heldBy_33 {G : XG} {p : Program} {l : Launch} {e : Env} {s : State} {m : MethodId} {args : Array Value} {below : List Frame} {meth : Method} {c : Code} (F : Fx G ZY p m c cX6_heldBy 4 s args RX6) (hr : meth.sig.returnType = some .int) (hk : meth.locks = false) {r : Int32} {M' : SX} (k4 : Int32 → Int32 → Int32 → SX → Option (Int32 × SX)) (hk4 : ∀ (v1 : Int32) (v2 : Int32) (v3 : Int32) (M : SX) (H : Heap) (locs : List Loc) (ls : Array Slot), Wld G ZY M s.heap H locs → lv_has ls 4 [(0, .ref (G.2.1 0)), (1, .int v1), (2, .int v2), (3, .int v3)] → k4 v1 v2 v3 M = some (r, M') → WXi G ZY p l e 0 s m args below meth c r M' H locs (F0 m 4 ls [])) : ∀ (v1 : Int32) (v3 : Int32) (t0 : Int32) (t1 : Int32) (M : SX) (H : Heap) (locs : List Loc) (ls : Array Slot), Wld G ZY M s.heap H locs → lv_has ls 4 [(0, .ref (G.2.1 0)), (1, .int v1), (3, .int v3)] → p6_heldBy_33 k4 v1 v3 t0 t1 M = some (r, M') → WXi G ZY p l e 0 s m args below meth c r M' H locs (F0 m 33 ls [.int t1, .int t0]) := by
  intro v1 v3 t0 t1 M H locs ls hw hl hf
  have hx := F.1.1
  have hb := F.1.2.1
  unfold p6_heldBy_33 at hf
  refine lv_ior hx hb dX6_heldBy_33 ?_
  obtain ⟨x1, ex1, hf⟩ := lt_elim hf
  refine x_let ex1 ?_
  refine lv_istore_n (lv' := [(2, .int x1), (0, .ref (G.2.1 0)), (1, .int v1), (3, .int v3)]) hx hb dX6_heldBy_34 rfl hl (by decide) rfl (fun ls hl => ?_)
  obtain ⟨x2, ex2, hf⟩ := lt_elim hf
  refine lv_iinc (v := x2) (lv' := [(3, .int x2), (2, .int x1), (0, .ref (G.2.1 0)), (1, .int v1)]) hx hb dX6_heldBy_35 hl (k := 3) rfl (by rw [ex2]; rfl) (by decide) rfl (fun ls hl => ?_)
  refine lv_goto (tgt := 4) hx hb dX6_heldBy_38 (by decide) ?_
  exact hk4 v1 x1 x2 M _ _ ls hw (lv_sub hl [2, 3, 1, 0] rfl) hf
def p6_heldBy_4 (k4 : Int32 → Int32 → Int32 → SX → Option (Int32 × SX)) (v1 : Int32) (v2 : Int32) (v3 : Int32) (M : SX) : Option (Int32 × SX) :=
  if (M.1 0 1) ≤ v3 then (some (v2, M))
  else (gd (bIn (7 + v3) 3964) ( if (M.1 1 (Int32.toNatClampNeg (7 + v3))) = v1 then (p6_heldBy_33 k4 v1 v3 v2 ((1 : Int32) <<< (v3 &&& 31)) M)
  else (p6_heldBy_33 k4 v1 v3 v2 0 M)))
set_option maxHeartbeats 4000000 in
set_option maxRecDepth 100000 in
theorem w6_heldBy_4 {G : XG} {p : Program} {l : Launch} {e : Env} {s : State} {m : MethodId} {args : Array Value} {below : List Frame} {meth : Method} {c : Code} (F : Fx G ZY p m c cX6_heldBy 4 s args RX6) (hr : meth.sig.returnType = some .int) (hk : meth.locks = false) {r : Int32} {M' : SX} (k4 : Int32 → Int32 → Int32 → SX → Option (Int32 × SX)) (hk4 : ∀ (v1 : Int32) (v2 : Int32) (v3 : Int32) (M : SX) (H : Heap) (locs : List Loc) (ls : Array Slot), Wld G ZY M s.heap H locs → lv_has ls 4 [(0, .ref (G.2.1 0)), (1, .int v1), (2, .int v2), (3, .int v3)] → k4 v1 v2 v3 M = some (r, M') → WXi G ZY p l e 0 s m args below meth c r M' H locs (F0 m 4 ls [])) : ∀ (v1 : Int32) (v2 : Int32) (v3 : Int32) (M : SX) (H : Heap) (locs : List Loc) (ls : Array Slot), Wld G ZY M s.heap H locs → lv_has ls 4 [(0, .ref (G.2.1 0)), (1, .int v1), (2, .int v2), (3, .int v3)] → p6_heldBy_4 k4 v1 v2 v3 M = some (r, M') → WXi G ZY p l e 0 s m args below meth c r M' H locs (F0 m 4 ls []) := by
  intro v1 v2 v3 M H locs ls hw hl hf
  have hx := F.1.1
  have hb := F.1.2.1
  unfold p6_heldBy_4 at hf
  refine lv_iload_n hx hb dX6_heldBy_4 rfl (lv_at hl 3 rfl) ?_
  refine lv_aload_n hx hb dX6_heldBy_5 rfl (lv_at hl 0 rfl) ?_
  refine g6_1 F hw tw_611 dX6_heldBy_6 ?_
  refine lv_icmp_ge (tgt := 41) hx hb dX6_heldBy_9 (by decide) (fun c1 => ?_) (fun c1 => ?_)
  · have hf := it_t hf c1
    refine lv_iload_n hx hb dX6_heldBy_41 rfl (lv_at hl 2 rfl) ?_
    exact x_iret F hw hr hk hf dX6_heldBy_42
  · have hf := it_f hf c1
    refine lv_iload_n hx hb dX6_heldBy_12 rfl (lv_at hl 2 rfl) ?_
    refine lv_aload_n hx hb dX6_heldBy_13 rfl (lv_at hl 0 rfl) ?_
    refine g6_0 F hw tw_610 dX6_heldBy_14 ?_
    refine lv_bipush (v := 7) hx hb dX6_heldBy_17 (by decide) ?_
    refine lv_iload_n hx hb dX6_heldBy_19 rfl (lv_at hl 3 rfl) ?_
    refine lv_iadd hx hb dX6_heldBy_20 ?_
    obtain ⟨g2, hf⟩ := gd_some hf
    refine x_iald F hw sM1 g2 dX6_heldBy_21 ?_
    refine lv_iload_n hx hb dX6_heldBy_22 rfl (lv_at hl 1 rfl) ?_
    refine lv_icmp_ne (tgt := 32) hx hb dX6_heldBy_23 (by decide) (fun c3 => ?_) (fun c3 => ?_)
    · have hf := it_f hf c3
      refine lv_iconst (v := 0) hx hb dX6_heldBy_32 (by decide) ?_
      exact w6_heldBy_33 F hr hk k4 hk4 v1 v3 v2 0 M _ _ ls hw (lv_sub hl [0, 1, 3] rfl) hf
    · have hf := it_t hf c3
      refine lv_iconst (v := 1) hx hb dX6_heldBy_26 (by decide) ?_
      refine lv_iload_n hx hb dX6_heldBy_27 rfl (lv_at hl 3 rfl) ?_
      refine lv_ishl hx hb dX6_heldBy_28 ?_
      refine lv_goto (tgt := 33) hx hb dX6_heldBy_29 (by decide) ?_
      exact w6_heldBy_33 F hr hk k4 hk4 v1 v3 v2 ((1 : Int32) <<< (v3 &&& 31)) M _ _ ls hw (lv_sub hl [0, 1, 3] rfl) hf
theorem z6_heldBy_4 {G : XG} {p : Program} {l : Launch} {e : Env} {s : State} {m : MethodId} {args : Array Value} {below : List Frame} {meth : Method} {c : Code} (F : Fx G ZY p m c cX6_heldBy 4 s args RX6) (hr : meth.sig.returnType = some .int) (hk : meth.locks = false) {r : Int32} {M' : SX} : ∀ n : Nat, ∀ (v1 : Int32) (v2 : Int32) (v3 : Int32) (M : SX) (H : Heap) (locs : List Loc) (ls : Array Slot), Wld G ZY M s.heap H locs → lv_has ls 4 [(0, .ref (G.2.1 0)), (1, .int v1), (2, .int v2), (3, .int v3)] → xlp3 p6_heldBy_4 n v1 v2 v3 M = some (r, M') → WXi G ZY p l e 0 s m args below meth c r M' H locs (F0 m 4 ls []) := by
  intro n
  induction n with
  | zero => intro _ _ _ _ _ _ _ _ _ hf; cases hf
  | succ n ih => exact w6_heldBy_4 F hr hk (xlp3 p6_heldBy_4 n) ih
def p6_heldBy (a1 : Int32) (M : SX) : Option (Int32 × SX) :=
  xlp3 p6_heldBy_4 FU a1 0 0 M
set_option maxHeartbeats 4000000 in
set_option maxRecDepth 100000 in
theorem c6_heldBy {l : Launch} {G : XG} {r : Int32} {M' : SX} {M : SX} (a1 : Int32) (hf : p6_heldBy a1 M = some (r, M')) : Met l yX6_heldBy (.code yX6_heldBy cX6_heldBy 4 (some .int) :: TBL) (rmX 0) (xPc G ZY M [.ref (G.2.1 0), .int a1]) (xQi G ZY r M') 0 0 (inA G ZY) := by
  refine x_met (cc := cX6_heldBy) (by decide) (Nat.le_of_ble_eq_true rfl) ?_
  intro p e s m below meth c ls F hr hk hl hw
  have F : Fx G ZY p m c cX6_heldBy 4 s [.ref (G.2.1 0), .int a1].toArray RX6 := F
  have hl : lv_has ls 4 [(0, .ref (G.2.1 0)), (1, .int a1)] := hl
  have hx := F.1.1
  have hb := F.1.2.1
  unfold p6_heldBy at hf
  refine lv_iconst (v := 0) hx hb dX6_heldBy_0 (by decide) ?_
  refine lv_istore_n (lv' := [(2, .int 0), (0, .ref (G.2.1 0)), (1, .int a1)]) hx hb dX6_heldBy_1 rfl hl (by decide) rfl (fun ls hl => ?_)
  refine lv_iconst (v := 0) hx hb dX6_heldBy_2 (by decide) ?_
  refine lv_istore_n (lv' := [(3, .int 0), (2, .int 0), (0, .ref (G.2.1 0)), (1, .int a1)]) hx hb dX6_heldBy_3 rfl hl (by decide) rfl (fun ls hl => ?_)
  exact z6_heldBy_4 F hr hk FU a1 0 0 M _ _ ls hw (lv_sub hl [2, 3, 1, 0] rfl) hf
theorem dX6_loansTo_0 : decode cX6_loansTo 0 = .ok (.iconst 0, 1) := by decide +kernel
theorem dX6_loansTo_1 : decode cX6_loansTo 1 = .ok (.istore_n 2, 1) := by decide +kernel
theorem dX6_loansTo_2 : decode cX6_loansTo 2 = .ok (.iconst 0, 1) := by decide +kernel
theorem dX6_loansTo_3 : decode cX6_loansTo 3 = .ok (.istore_n 3, 1) := by decide +kernel
theorem dX6_loansTo_4 : decode cX6_loansTo 4 = .ok (.iload_n 3, 1) := by decide +kernel
theorem dX6_loansTo_5 : decode cX6_loansTo 5 = .ok (.aload_n 0, 1) := by decide +kernel
theorem dX6_loansTo_6 : decode cX6_loansTo 6 = .ok (.getfield 140, 3) := by decide +kernel
theorem dX6_loansTo_9 : decode cX6_loansTo 9 = .ok (.if_icmp .ge 38, 3) := by decide +kernel
theorem dX6_loansTo_12 : decode cX6_loansTo 12 = .ok (.iload_n 2, 1) := by decide +kernel
theorem dX6_loansTo_13 : decode cX6_loansTo 13 = .ok (.aload_n 0, 1) := by decide +kernel
theorem dX6_loansTo_14 : decode cX6_loansTo 14 = .ok (.getfield 7, 3) := by decide +kernel
theorem dX6_loansTo_17 : decode cX6_loansTo 17 = .ok (.bipush 7, 2) := by decide +kernel
theorem dX6_loansTo_19 : decode cX6_loansTo 19 = .ok (.iload_n 3, 1) := by decide +kernel
theorem dX6_loansTo_20 : decode cX6_loansTo 20 = .ok (.iadd, 1) := by decide +kernel
theorem dX6_loansTo_21 : decode cX6_loansTo 21 = .ok (.iaload, 1) := by decide +kernel
theorem dX6_loansTo_22 : decode cX6_loansTo 22 = .ok (.iload_n 1, 1) := by decide +kernel
theorem dX6_loansTo_23 : decode cX6_loansTo 23 = .ok (.if_icmp .ne 15, 3) := by decide +kernel
theorem dX6_loansTo_26 : decode cX6_loansTo 26 = .ok (.aload_n 0, 1) := by decide +kernel
theorem dX6_loansTo_27 : decode cX6_loansTo 27 = .ok (.getfield 7, 3) := by decide +kernel
theorem dX6_loansTo_30 : decode cX6_loansTo 30 = .ok (.bipush 13, 2) := by decide +kernel
theorem dX6_loansTo_32 : decode cX6_loansTo 32 = .ok (.iload_n 3, 1) := by decide +kernel
theorem dX6_loansTo_33 : decode cX6_loansTo 33 = .ok (.iadd, 1) := by decide +kernel
theorem dX6_loansTo_34 : decode cX6_loansTo 34 = .ok (.iaload, 1) := by decide +kernel
theorem dX6_loansTo_35 : decode cX6_loansTo 35 = .ok (.goto 4, 3) := by decide +kernel
theorem dX6_loansTo_38 : decode cX6_loansTo 38 = .ok (.iconst 0, 1) := by decide +kernel
theorem dX6_loansTo_39 : decode cX6_loansTo 39 = .ok (.iadd, 1) := by decide +kernel
theorem dX6_loansTo_40 : decode cX6_loansTo 40 = .ok (.istore_n 2, 1) := by decide +kernel
theorem dX6_loansTo_41 : decode cX6_loansTo 41 = .ok (.iinc 3 1, 3) := by decide +kernel
theorem dX6_loansTo_44 : decode cX6_loansTo 44 = .ok (.goto (-40), 3) := by decide +kernel
theorem dX6_loansTo_47 : decode cX6_loansTo 47 = .ok (.iload_n 2, 1) := by decide +kernel
theorem dX6_loansTo_48 : decode cX6_loansTo 48 = .ok (.ireturn, 1) := by decide +kernel
def p6_loansTo_39 (k4 : Int32 → Int32 → Int32 → SX → Option (Int32 × SX)) (v1 : Int32) (v3 : Int32) (t0 : Int32) (t1 : Int32) (M : SX) : Option (Int32 × SX) :=
  lt_ (t0 + t1) (fun x1 => lt_ (v3 + 1) (fun x2 => k4 v1 x1 x2 M))
set_option maxHeartbeats 4000000 in
set_option maxRecDepth 100000 in
theorem w6_loansTo_39 {G : XG} {p : Program} {l : Launch} {e : Env} {s : State} {m : MethodId} {args : Array Value} {below : List Frame} {meth : Method} {c : Code} (F : Fx G ZY p m c cX6_loansTo 4 s args RX6) (hr : meth.sig.returnType = some .int) (hk : meth.locks = false) {r : Int32} {M' : SX} (k4 : Int32 → Int32 → Int32 → SX → Option (Int32 × SX)) (hk4 : ∀ (v1 : Int32) (v2 : Int32) (v3 : Int32) (M : SX) (H : Heap) (locs : List Loc) (ls : Array Slot), Wld G ZY M s.heap H locs → lv_has ls 4 [(0, .ref (G.2.1 0)), (1, .int v1), (2, .int v2), (3, .int v3)] → k4 v1 v2 v3 M = some (r, M') → WXi G ZY p l e 0 s m args below meth c r M' H locs (F0 m 4 ls [])) : ∀ (v1 : Int32) (v3 : Int32) (t0 : Int32) (t1 : Int32) (M : SX) (H : Heap) (locs : List Loc) (ls : Array Slot), Wld G ZY M s.heap H locs → lv_has ls 4 [(0, .ref (G.2.1 0)), (1, .int v1), (3, .int v3)] → p6_loansTo_39 k4 v1 v3 t0 t1 M = some (r, M') → WXi G ZY p l e 0 s m args below meth c r M' H locs (F0 m 39 ls [.int t1, .int t0]) := by
  intro v1 v3 t0 t1 M H locs ls hw hl hf
  have hx := F.1.1
  have hb := F.1.2.1
  unfold p6_loansTo_39 at hf
  refine lv_iadd hx hb dX6_loansTo_39 ?_
  obtain ⟨x1, ex1, hf⟩ := lt_elim hf
  refine x_let ex1 ?_
  refine lv_istore_n (lv' := [(2, .int x1), (0, .ref (G.2.1 0)), (1, .int v1), (3, .int v3)]) hx hb dX6_loansTo_40 rfl hl (by decide) rfl (fun ls hl => ?_)
  obtain ⟨x2, ex2, hf⟩ := lt_elim hf
  refine lv_iinc (v := x2) (lv' := [(3, .int x2), (2, .int x1), (0, .ref (G.2.1 0)), (1, .int v1)]) hx hb dX6_loansTo_41 hl (k := 3) rfl (by rw [ex2]; rfl) (by decide) rfl (fun ls hl => ?_)
  refine lv_goto (tgt := 4) hx hb dX6_loansTo_44 (by decide) ?_
  exact hk4 v1 x1 x2 M _ _ ls hw (lv_sub hl [2, 3, 1, 0] rfl) hf
def p6_loansTo_4 (k4 : Int32 → Int32 → Int32 → SX → Option (Int32 × SX)) (v1 : Int32) (v2 : Int32) (v3 : Int32) (M : SX) : Option (Int32 × SX) :=
  if (M.1 0 1) ≤ v3 then (some (v2, M))
  else (gd (bIn (7 + v3) 3964) ( if (M.1 1 (Int32.toNatClampNeg (7 + v3))) = v1 then (gd (bIn (13 + v3) 3964) ( p6_loansTo_39 k4 v1 v3 v2 (M.1 1 (Int32.toNatClampNeg (13 + v3))) M))
  else (p6_loansTo_39 k4 v1 v3 v2 0 M)))
set_option maxHeartbeats 4000000 in
set_option maxRecDepth 100000 in
theorem w6_loansTo_4 {G : XG} {p : Program} {l : Launch} {e : Env} {s : State} {m : MethodId} {args : Array Value} {below : List Frame} {meth : Method} {c : Code} (F : Fx G ZY p m c cX6_loansTo 4 s args RX6) (hr : meth.sig.returnType = some .int) (hk : meth.locks = false) {r : Int32} {M' : SX} (k4 : Int32 → Int32 → Int32 → SX → Option (Int32 × SX)) (hk4 : ∀ (v1 : Int32) (v2 : Int32) (v3 : Int32) (M : SX) (H : Heap) (locs : List Loc) (ls : Array Slot), Wld G ZY M s.heap H locs → lv_has ls 4 [(0, .ref (G.2.1 0)), (1, .int v1), (2, .int v2), (3, .int v3)] → k4 v1 v2 v3 M = some (r, M') → WXi G ZY p l e 0 s m args below meth c r M' H locs (F0 m 4 ls [])) : ∀ (v1 : Int32) (v2 : Int32) (v3 : Int32) (M : SX) (H : Heap) (locs : List Loc) (ls : Array Slot), Wld G ZY M s.heap H locs → lv_has ls 4 [(0, .ref (G.2.1 0)), (1, .int v1), (2, .int v2), (3, .int v3)] → p6_loansTo_4 k4 v1 v2 v3 M = some (r, M') → WXi G ZY p l e 0 s m args below meth c r M' H locs (F0 m 4 ls []) := by
  intro v1 v2 v3 M H locs ls hw hl hf
  have hx := F.1.1
  have hb := F.1.2.1
  unfold p6_loansTo_4 at hf
  refine lv_iload_n hx hb dX6_loansTo_4 rfl (lv_at hl 3 rfl) ?_
  refine lv_aload_n hx hb dX6_loansTo_5 rfl (lv_at hl 0 rfl) ?_
  refine g6_1 F hw tw_611 dX6_loansTo_6 ?_
  refine lv_icmp_ge (tgt := 47) hx hb dX6_loansTo_9 (by decide) (fun c1 => ?_) (fun c1 => ?_)
  · have hf := it_t hf c1
    refine lv_iload_n hx hb dX6_loansTo_47 rfl (lv_at hl 2 rfl) ?_
    exact x_iret F hw hr hk hf dX6_loansTo_48
  · have hf := it_f hf c1
    refine lv_iload_n hx hb dX6_loansTo_12 rfl (lv_at hl 2 rfl) ?_
    refine lv_aload_n hx hb dX6_loansTo_13 rfl (lv_at hl 0 rfl) ?_
    refine g6_0 F hw tw_610 dX6_loansTo_14 ?_
    refine lv_bipush (v := 7) hx hb dX6_loansTo_17 (by decide) ?_
    refine lv_iload_n hx hb dX6_loansTo_19 rfl (lv_at hl 3 rfl) ?_
    refine lv_iadd hx hb dX6_loansTo_20 ?_
    obtain ⟨g2, hf⟩ := gd_some hf
    refine x_iald F hw sM1 g2 dX6_loansTo_21 ?_
    refine lv_iload_n hx hb dX6_loansTo_22 rfl (lv_at hl 1 rfl) ?_
    refine lv_icmp_ne (tgt := 38) hx hb dX6_loansTo_23 (by decide) (fun c3 => ?_) (fun c3 => ?_)
    · have hf := it_f hf c3
      refine lv_iconst (v := 0) hx hb dX6_loansTo_38 (by decide) ?_
      exact w6_loansTo_39 F hr hk k4 hk4 v1 v3 v2 0 M _ _ ls hw (lv_sub hl [0, 1, 3] rfl) hf
    · have hf := it_t hf c3
      refine lv_aload_n hx hb dX6_loansTo_26 rfl (lv_at hl 0 rfl) ?_
      refine g6_0 F hw tw_610 dX6_loansTo_27 ?_
      refine lv_bipush (v := 13) hx hb dX6_loansTo_30 (by decide) ?_
      refine lv_iload_n hx hb dX6_loansTo_32 rfl (lv_at hl 3 rfl) ?_
      refine lv_iadd hx hb dX6_loansTo_33 ?_
      obtain ⟨g4, hf⟩ := gd_some hf
      refine x_iald F hw sM1 g4 dX6_loansTo_34 ?_
      refine lv_goto (tgt := 39) hx hb dX6_loansTo_35 (by decide) ?_
      exact w6_loansTo_39 F hr hk k4 hk4 v1 v3 v2 (M.1 1 (Int32.toNatClampNeg (13 + v3))) M _ _ ls hw (lv_sub hl [0, 1, 3] rfl) hf
theorem z6_loansTo_4 {G : XG} {p : Program} {l : Launch} {e : Env} {s : State} {m : MethodId} {args : Array Value} {below : List Frame} {meth : Method} {c : Code} (F : Fx G ZY p m c cX6_loansTo 4 s args RX6) (hr : meth.sig.returnType = some .int) (hk : meth.locks = false) {r : Int32} {M' : SX} : ∀ n : Nat, ∀ (v1 : Int32) (v2 : Int32) (v3 : Int32) (M : SX) (H : Heap) (locs : List Loc) (ls : Array Slot), Wld G ZY M s.heap H locs → lv_has ls 4 [(0, .ref (G.2.1 0)), (1, .int v1), (2, .int v2), (3, .int v3)] → xlp3 p6_loansTo_4 n v1 v2 v3 M = some (r, M') → WXi G ZY p l e 0 s m args below meth c r M' H locs (F0 m 4 ls []) := by
  intro n
  induction n with
  | zero => intro _ _ _ _ _ _ _ _ _ hf; cases hf
  | succ n ih => exact w6_loansTo_4 F hr hk (xlp3 p6_loansTo_4 n) ih
def p6_loansTo (a1 : Int32) (M : SX) : Option (Int32 × SX) :=
  xlp3 p6_loansTo_4 FU a1 0 0 M
set_option maxHeartbeats 4000000 in
set_option maxRecDepth 100000 in
theorem c6_loansTo {l : Launch} {G : XG} {r : Int32} {M' : SX} {M : SX} (a1 : Int32) (hf : p6_loansTo a1 M = some (r, M')) : Met l yX6_loansTo (.code yX6_loansTo cX6_loansTo 4 (some .int) :: TBL) (rmX 0) (xPc G ZY M [.ref (G.2.1 0), .int a1]) (xQi G ZY r M') 0 0 (inA G ZY) := by
  refine x_met (cc := cX6_loansTo) (by decide) (Nat.le_of_ble_eq_true rfl) ?_
  intro p e s m below meth c ls F hr hk hl hw
  have F : Fx G ZY p m c cX6_loansTo 4 s [.ref (G.2.1 0), .int a1].toArray RX6 := F
  have hl : lv_has ls 4 [(0, .ref (G.2.1 0)), (1, .int a1)] := hl
  have hx := F.1.1
  have hb := F.1.2.1
  unfold p6_loansTo at hf
  refine lv_iconst (v := 0) hx hb dX6_loansTo_0 (by decide) ?_
  refine lv_istore_n (lv' := [(2, .int 0), (0, .ref (G.2.1 0)), (1, .int a1)]) hx hb dX6_loansTo_1 rfl hl (by decide) rfl (fun ls hl => ?_)
  refine lv_iconst (v := 0) hx hb dX6_loansTo_2 (by decide) ?_
  refine lv_istore_n (lv' := [(3, .int 0), (2, .int 0), (0, .ref (G.2.1 0)), (1, .int a1)]) hx hb dX6_loansTo_3 rfl hl (by decide) rfl (fun ls hl => ?_)
  exact z6_loansTo_4 F hr hk FU a1 0 0 M _ _ ls hw (lv_sub hl [2, 3, 1, 0] rfl) hf
theorem dX6_isOf_0 : decode cX6_isOf 0 = .ok (.aload_n 0, 1) := by decide +kernel
theorem dX6_isOf_1 : decode cX6_isOf 1 = .ok (.getfield 13, 3) := by decide +kernel
theorem dX6_isOf_4 : decode cX6_isOf 4 = .ok (.iload_n 1, 1) := by decide +kernel
theorem dX6_isOf_5 : decode cX6_isOf 5 = .ok (.iaload, 1) := by decide +kernel
theorem dX6_isOf_6 : decode cX6_isOf 6 = .ok (.iload_n 2, 1) := by decide +kernel
theorem dX6_isOf_7 : decode cX6_isOf 7 = .ok (.if_icmp .eq 33, 3) := by decide +kernel
theorem dX6_isOf_10 : decode cX6_isOf 10 = .ok (.iload_n 2, 1) := by decide +kernel
theorem dX6_isOf_11 : decode cX6_isOf 11 = .ok (.iconst 1, 1) := by decide +kernel
theorem dX6_isOf_12 : decode cX6_isOf 12 = .ok (.if_icmp .ne 13, 3) := by decide +kernel
theorem dX6_isOf_15 : decode cX6_isOf 15 = .ok (.aload_n 0, 1) := by decide +kernel
theorem dX6_isOf_16 : decode cX6_isOf 16 = .ok (.getfield 13, 3) := by decide +kernel
theorem dX6_isOf_19 : decode cX6_isOf 19 = .ok (.iload_n 1, 1) := by decide +kernel
theorem dX6_isOf_20 : decode cX6_isOf 20 = .ok (.iaload, 1) := by decide +kernel
theorem dX6_isOf_21 : decode cX6_isOf 21 = .ok (.iconst 4, 1) := by decide +kernel
theorem dX6_isOf_22 : decode cX6_isOf 22 = .ok (.if_icmp .eq 18, 3) := by decide +kernel
theorem dX6_isOf_25 : decode cX6_isOf 25 = .ok (.iload_n 2, 1) := by decide +kernel
theorem dX6_isOf_26 : decode cX6_isOf 26 = .ok (.iconst 2, 1) := by decide +kernel
theorem dX6_isOf_27 : decode cX6_isOf 27 = .ok (.if_icmp .ne 17, 3) := by decide +kernel
theorem dX6_isOf_30 : decode cX6_isOf 30 = .ok (.aload_n 0, 1) := by decide +kernel
theorem dX6_isOf_31 : decode cX6_isOf 31 = .ok (.getfield 13, 3) := by decide +kernel
theorem dX6_isOf_34 : decode cX6_isOf 34 = .ok (.iload_n 1, 1) := by decide +kernel
theorem dX6_isOf_35 : decode cX6_isOf 35 = .ok (.iaload, 1) := by decide +kernel
theorem dX6_isOf_36 : decode cX6_isOf 36 = .ok (.iconst 5, 1) := by decide +kernel
theorem dX6_isOf_37 : decode cX6_isOf 37 = .ok (.if_icmp .ne 7, 3) := by decide +kernel
theorem dX6_isOf_40 : decode cX6_isOf 40 = .ok (.iconst 1, 1) := by decide +kernel
theorem dX6_isOf_41 : decode cX6_isOf 41 = .ok (.goto 4, 3) := by decide +kernel
theorem dX6_isOf_44 : decode cX6_isOf 44 = .ok (.iconst 0, 1) := by decide +kernel
theorem dX6_isOf_45 : decode cX6_isOf 45 = .ok (.ireturn, 1) := by decide +kernel
def p6_isOf_40 (M : SX) : Option (Int32 × SX) :=
  some (1, M)
set_option maxHeartbeats 4000000 in
set_option maxRecDepth 100000 in
theorem w6_isOf_40 {G : XG} {p : Program} {l : Launch} {e : Env} {s : State} {m : MethodId} {args : Array Value} {below : List Frame} {meth : Method} {c : Code} (F : Fx G ZY p m c cX6_isOf 3 s args RX6) (hr : meth.sig.returnType = some .boolean) (hk : meth.locks = false) {r : Int32} {M' : SX} : ∀ (M : SX) (H : Heap) (locs : List Loc) (ls : Array Slot), Wld G ZY M s.heap H locs → lv_has ls 3 [] → p6_isOf_40 M = some (r, M') → WXi G ZY p l e 0 s m args below meth c r M' H locs (F0 m 40 ls []) := by
  intro M H locs ls hw hl hf
  have hx := F.1.1
  have hb := F.1.2.1
  unfold p6_isOf_40 at hf
  refine lv_iconst (v := 1) hx hb dX6_isOf_40 (by decide) ?_
  refine lv_goto (tgt := 45) hx hb dX6_isOf_41 (by decide) ?_
  exact x_zret F hw hr hk (by decide) hf dX6_isOf_45
def p6_isOf_25 (v1 : Int32) (v2 : Int32) (M : SX) : Option (Int32 × SX) :=
  if v2 = (2 : Int32) then (gd (bIn v1 6) ( if (M.1 2 (Int32.toNatClampNeg v1)) = (5 : Int32) then (p6_isOf_40 M)
  else (some (0, M))))
  else (some (0, M))
set_option maxHeartbeats 4000000 in
set_option maxRecDepth 100000 in
theorem w6_isOf_25 {G : XG} {p : Program} {l : Launch} {e : Env} {s : State} {m : MethodId} {args : Array Value} {below : List Frame} {meth : Method} {c : Code} (F : Fx G ZY p m c cX6_isOf 3 s args RX6) (hr : meth.sig.returnType = some .boolean) (hk : meth.locks = false) {r : Int32} {M' : SX} : ∀ (v1 : Int32) (v2 : Int32) (M : SX) (H : Heap) (locs : List Loc) (ls : Array Slot), Wld G ZY M s.heap H locs → lv_has ls 3 [(0, .ref (G.2.1 0)), (1, .int v1), (2, .int v2)] → p6_isOf_25 v1 v2 M = some (r, M') → WXi G ZY p l e 0 s m args below meth c r M' H locs (F0 m 25 ls []) := by
  intro v1 v2 M H locs ls hw hl hf
  have hx := F.1.1
  have hb := F.1.2.1
  unfold p6_isOf_25 at hf
  refine lv_iload_n hx hb dX6_isOf_25 rfl (lv_at hl 2 rfl) ?_
  refine lv_iconst (v := 2) hx hb dX6_isOf_26 (by decide) ?_
  refine lv_icmp_ne (tgt := 44) hx hb dX6_isOf_27 (by decide) (fun c1 => ?_) (fun c1 => ?_)
  · have hf := it_f hf c1
    refine lv_iconst (v := 0) hx hb dX6_isOf_44 (by decide) ?_
    exact x_zret F hw hr hk (by decide) hf dX6_isOf_45
  · have hf := it_t hf c1
    refine lv_aload_n hx hb dX6_isOf_30 rfl (lv_at hl 0 rfl) ?_
    refine g6_2 F hw tw_612 dX6_isOf_31 ?_
    refine lv_iload_n hx hb dX6_isOf_34 rfl (lv_at hl 1 rfl) ?_
    obtain ⟨g2, hf⟩ := gd_some hf
    refine x_iald F hw sM2 g2 dX6_isOf_35 ?_
    refine lv_iconst (v := 5) hx hb dX6_isOf_36 (by decide) ?_
    refine lv_icmp_ne (tgt := 44) hx hb dX6_isOf_37 (by decide) (fun c3 => ?_) (fun c3 => ?_)
    · have hf := it_f hf c3
      refine lv_iconst (v := 0) hx hb dX6_isOf_44 (by decide) ?_
      exact x_zret F hw hr hk (by decide) hf dX6_isOf_45
    · have hf := it_t hf c3
      exact w6_isOf_40 F hr hk M _ _ ls hw (lv_sub hl [] rfl) hf
def p6_isOf (a1 : Int32) (a2 : Int32) (M : SX) : Option (Int32 × SX) :=
  gd (bIn a1 6) ( if (M.1 2 (Int32.toNatClampNeg a1)) = a2 then (p6_isOf_40 M)
  else (if a2 = (1 : Int32) then (if (M.1 2 (Int32.toNatClampNeg a1)) = (4 : Int32) then (p6_isOf_40 M)
  else (p6_isOf_25 a1 a2 M))
  else (p6_isOf_25 a1 a2 M)))
set_option maxHeartbeats 4000000 in
set_option maxRecDepth 100000 in
theorem c6_isOf {l : Launch} {G : XG} {r : Int32} {M' : SX} {M : SX} (a1 : Int32) (a2 : Int32) (hf : p6_isOf a1 a2 M = some (r, M')) : Met l yX6_isOf (.code yX6_isOf cX6_isOf 3 (some .boolean) :: TBL) (rmX 0) (xPc G ZY M [.ref (G.2.1 0), .int a1, .int a2]) (xQi G ZY r M') 0 0 (inA G ZY) := by
  refine x_met (cc := cX6_isOf) (by decide) (Nat.le_of_ble_eq_true rfl) ?_
  intro p e s m below meth c ls F hr hk hl hw
  have F : Fx G ZY p m c cX6_isOf 3 s [.ref (G.2.1 0), .int a1, .int a2].toArray RX6 := F
  have hl : lv_has ls 3 [(0, .ref (G.2.1 0)), (1, .int a1), (2, .int a2)] := hl
  have hx := F.1.1
  have hb := F.1.2.1
  unfold p6_isOf at hf
  refine lv_aload_n hx hb dX6_isOf_0 rfl (lv_at hl 0 rfl) ?_
  refine g6_2 F hw tw_612 dX6_isOf_1 ?_
  refine lv_iload_n hx hb dX6_isOf_4 rfl (lv_at hl 1 rfl) ?_
  obtain ⟨g1, hf⟩ := gd_some hf
  refine x_iald F hw sM2 g1 dX6_isOf_5 ?_
  refine lv_iload_n hx hb dX6_isOf_6 rfl (lv_at hl 2 rfl) ?_
  refine lv_icmp_eq (tgt := 40) hx hb dX6_isOf_7 (by decide) (fun c2 => ?_) (fun c2 => ?_)
  · have hf := it_t hf c2
    exact w6_isOf_40 F hr hk M _ _ ls hw (lv_sub hl [] rfl) hf
  · have hf := it_f hf c2
    refine lv_iload_n hx hb dX6_isOf_10 rfl (lv_at hl 2 rfl) ?_
    refine lv_iconst (v := 1) hx hb dX6_isOf_11 (by decide) ?_
    refine lv_icmp_ne (tgt := 25) hx hb dX6_isOf_12 (by decide) (fun c3 => ?_) (fun c3 => ?_)
    · have hf := it_f hf c3
      exact w6_isOf_25 F hr hk a1 a2 M _ _ ls hw (lv_sub hl [0, 1, 2] rfl) hf
    · have hf := it_t hf c3
      refine lv_aload_n hx hb dX6_isOf_15 rfl (lv_at hl 0 rfl) ?_
      refine g6_2 F hw tw_612 dX6_isOf_16 ?_
      refine lv_iload_n hx hb dX6_isOf_19 rfl (lv_at hl 1 rfl) ?_
      refine x_iald F hw sM2 g1 dX6_isOf_20 ?_
      refine lv_iconst (v := 4) hx hb dX6_isOf_21 (by decide) ?_
      refine lv_icmp_eq (tgt := 40) hx hb dX6_isOf_22 (by decide) (fun c4 => ?_) (fun c4 => ?_)
      · have hf := it_t hf c4
        exact w6_isOf_40 F hr hk M _ _ ls hw (lv_sub hl [] rfl) hf
      · have hf := it_f hf c4
        exact w6_isOf_25 F hr hk a1 a2 M _ _ ls hw (lv_sub hl [0, 1, 2] rfl) hf
theorem dX6_keepPast_0 : decode cX6_keepPast 0 = .ok (.iconst 0, 1) := by decide +kernel
theorem dX6_keepPast_1 : decode cX6_keepPast 1 = .ok (.istore_n 1, 1) := by decide +kernel
theorem dX6_keepPast_2 : decode cX6_keepPast 2 = .ok (.iload_n 1, 1) := by decide +kernel
theorem dX6_keepPast_3 : decode cX6_keepPast 3 = .ok (.bipush 24, 2) := by decide +kernel
theorem dX6_keepPast_5 : decode cX6_keepPast 5 = .ok (.if_icmp .ge 36, 3) := by decide +kernel
theorem dX6_keepPast_8 : decode cX6_keepPast 8 = .ok (.aload_n 0, 1) := by decide +kernel
theorem dX6_keepPast_9 : decode cX6_keepPast 9 = .ok (.getfield 7, 3) := by decide +kernel
theorem dX6_keepPast_12 : decode cX6_keepPast 12 = .ok (.bipush 31, 2) := by decide +kernel
theorem dX6_keepPast_14 : decode cX6_keepPast 14 = .ok (.bipush 24, 2) := by decide +kernel
theorem dX6_keepPast_16 : decode cX6_keepPast 16 = .ok (.aload_n 0, 1) := by decide +kernel
theorem dX6_keepPast_17 : decode cX6_keepPast 17 = .ok (.getfield 7, 3) := by decide +kernel
theorem dX6_keepPast_20 : decode cX6_keepPast 20 = .ok (.iconst 0, 1) := by decide +kernel
theorem dX6_keepPast_21 : decode cX6_keepPast 21 = .ok (.iaload, 1) := by decide +kernel
theorem dX6_keepPast_22 : decode cX6_keepPast 22 = .ok (.imul, 1) := by decide +kernel
theorem dX6_keepPast_23 : decode cX6_keepPast 23 = .ok (.iadd, 1) := by decide +kernel
theorem dX6_keepPast_24 : decode cX6_keepPast 24 = .ok (.iload_n 1, 1) := by decide +kernel
theorem dX6_keepPast_25 : decode cX6_keepPast 25 = .ok (.iadd, 1) := by decide +kernel
theorem dX6_keepPast_26 : decode cX6_keepPast 26 = .ok (.aload_n 0, 1) := by decide +kernel
theorem dX6_keepPast_27 : decode cX6_keepPast 27 = .ok (.getfield 7, 3) := by decide +kernel
theorem dX6_keepPast_30 : decode cX6_keepPast 30 = .ok (.iconst 1, 1) := by decide +kernel
theorem dX6_keepPast_31 : decode cX6_keepPast 31 = .ok (.iload_n 1, 1) := by decide +kernel
theorem dX6_keepPast_32 : decode cX6_keepPast 32 = .ok (.iadd, 1) := by decide +kernel
theorem dX6_keepPast_33 : decode cX6_keepPast 33 = .ok (.iaload, 1) := by decide +kernel
theorem dX6_keepPast_34 : decode cX6_keepPast 34 = .ok (.iastore, 1) := by decide +kernel
theorem dX6_keepPast_35 : decode cX6_keepPast 35 = .ok (.iinc 1 1, 3) := by decide +kernel
theorem dX6_keepPast_38 : decode cX6_keepPast 38 = .ok (.goto (-36), 3) := by decide +kernel
theorem dX6_keepPast_41 : decode cX6_keepPast 41 = .ok (.aload_n 0, 1) := by decide +kernel
theorem dX6_keepPast_42 : decode cX6_keepPast 42 = .ok (.getfield 7, 3) := by decide +kernel
theorem dX6_keepPast_45 : decode cX6_keepPast 45 = .ok (.iconst 0, 1) := by decide +kernel
theorem dX6_keepPast_46 : decode cX6_keepPast 46 = .ok (.dup2, 1) := by decide +kernel
theorem dX6_keepPast_47 : decode cX6_keepPast 47 = .ok (.iaload, 1) := by decide +kernel
theorem dX6_keepPast_48 : decode cX6_keepPast 48 = .ok (.iconst 1, 1) := by decide +kernel
theorem dX6_keepPast_49 : decode cX6_keepPast 49 = .ok (.iadd, 1) := by decide +kernel
theorem dX6_keepPast_50 : decode cX6_keepPast 50 = .ok (.iastore, 1) := by decide +kernel
theorem dX6_keepPast_51 : decode cX6_keepPast 51 = .ok (.return_, 1) := by decide +kernel
def p6_keepPast_2 (k2 : Int32 → SX → Option SX) (v1 : Int32) (M : SX) : Option SX :=
  if (24 : Int32) ≤ v1 then (gd (bIn 0 3964) ( lt_ (wI M 1 (Int32.toNatClampNeg 0) ((M.1 1 (Int32.toNatClampNeg 0)) + 1)) (fun M3 => some M3)))
  else (gd (bIn 0 3964) ( gd (bIn (1 + v1) 3964) ( gd (bIn ((31 + (24 * (M.1 1 (Int32.toNatClampNeg 0)))) + v1) 3964) ( lt_ (wI M 1 (Int32.toNatClampNeg ((31 + (24 * (M.1 1 (Int32.toNatClampNeg 0)))) + v1)) (M.1 1 (Int32.toNatClampNeg (1 + v1)))) (fun M7 => lt_ (v1 + 1) (fun x8 => k2 x8 M7))))))
set_option maxHeartbeats 4000000 in
set_option maxRecDepth 100000 in
theorem w6_keepPast_2 {G : XG} {p : Program} {l : Launch} {e : Env} {s : State} {m : MethodId} {args : Array Value} {below : List Frame} {meth : Method} {c : Code} (F : Fx G ZY p m c cX6_keepPast 2 s args RX6) (hr : meth.sig.returnType = none) (hk : meth.locks = false) {M' : SX} (k2 : Int32 → SX → Option SX) (hk2 : ∀ (v1 : Int32) (M : SX) (H : Heap) (locs : List Loc) (ls : Array Slot), Wld G ZY M s.heap H locs → lv_has ls 2 [(0, .ref (G.2.1 0)), (1, .int v1)] → k2 v1 M = some M' → WXv G ZY p l e 0 s m args below meth c M' H locs (F0 m 2 ls [])) : ∀ (v1 : Int32) (M : SX) (H : Heap) (locs : List Loc) (ls : Array Slot), Wld G ZY M s.heap H locs → lv_has ls 2 [(0, .ref (G.2.1 0)), (1, .int v1)] → p6_keepPast_2 k2 v1 M = some M' → WXv G ZY p l e 0 s m args below meth c M' H locs (F0 m 2 ls []) := by
  intro v1 M H locs ls hw hl hf
  have hx := F.1.1
  have hb := F.1.2.1
  unfold p6_keepPast_2 at hf
  refine lv_iload_n hx hb dX6_keepPast_2 rfl (lv_at hl 1 rfl) ?_
  refine lv_bipush (v := 24) hx hb dX6_keepPast_3 (by decide) ?_
  refine lv_icmp_ge (tgt := 41) hx hb dX6_keepPast_5 (by decide) (fun c1 => ?_) (fun c1 => ?_)
  · have hf := it_t hf c1
    refine lv_aload_n hx hb dX6_keepPast_41 rfl (lv_at hl 0 rfl) ?_
    refine g6_0 F hw tw_610 dX6_keepPast_42 ?_
    refine lv_iconst (v := 0) hx hb dX6_keepPast_45 (by decide) ?_
    refine lv_dup2_11 hx hb dX6_keepPast_46 rfl rfl ?_
    obtain ⟨g2, hf⟩ := gd_some hf
    refine x_iald F hw sM1 g2 dX6_keepPast_47 ?_
    refine lv_iconst (v := 1) hx hb dX6_keepPast_48 (by decide) ?_
    refine lv_iadd hx hb dX6_keepPast_49 ?_
    refine x_iast F hw sM1 g2 dX6_keepPast_50 (fun H locs hw => ?_)
    obtain ⟨M3, eM3, hf⟩ := lt_elim hf
    rw [← eM3] at hw
    exact x_vret F hw hr hk hf dX6_keepPast_51
  · have hf := it_f hf c1
    refine lv_aload_n hx hb dX6_keepPast_8 rfl (lv_at hl 0 rfl) ?_
    refine g6_0 F hw tw_610 dX6_keepPast_9 ?_
    refine lv_bipush (v := 31) hx hb dX6_keepPast_12 (by decide) ?_
    refine lv_bipush (v := 24) hx hb dX6_keepPast_14 (by decide) ?_
    refine lv_aload_n hx hb dX6_keepPast_16 rfl (lv_at hl 0 rfl) ?_
    refine g6_0 F hw tw_610 dX6_keepPast_17 ?_
    refine lv_iconst (v := 0) hx hb dX6_keepPast_20 (by decide) ?_
    obtain ⟨g4, hf⟩ := gd_some hf
    refine x_iald F hw sM1 g4 dX6_keepPast_21 ?_
    refine lv_imul hx hb dX6_keepPast_22 ?_
    refine lv_iadd hx hb dX6_keepPast_23 ?_
    refine lv_iload_n hx hb dX6_keepPast_24 rfl (lv_at hl 1 rfl) ?_
    refine lv_iadd hx hb dX6_keepPast_25 ?_
    refine lv_aload_n hx hb dX6_keepPast_26 rfl (lv_at hl 0 rfl) ?_
    refine g6_0 F hw tw_610 dX6_keepPast_27 ?_
    refine lv_iconst (v := 1) hx hb dX6_keepPast_30 (by decide) ?_
    refine lv_iload_n hx hb dX6_keepPast_31 rfl (lv_at hl 1 rfl) ?_
    refine lv_iadd hx hb dX6_keepPast_32 ?_
    obtain ⟨g5, hf⟩ := gd_some hf
    refine x_iald F hw sM1 g5 dX6_keepPast_33 ?_
    obtain ⟨g6, hf⟩ := gd_some hf
    refine x_iast F hw sM1 g6 dX6_keepPast_34 (fun H locs hw => ?_)
    obtain ⟨M7, eM7, hf⟩ := lt_elim hf
    rw [← eM7] at hw
    obtain ⟨x8, ex8, hf⟩ := lt_elim hf
    refine lv_iinc (v := x8) (lv' := [(1, .int x8), (0, .ref (G.2.1 0))]) hx hb dX6_keepPast_35 hl (k := 1) rfl (by rw [ex8]; rfl) (by decide) rfl (fun ls hl => ?_)
    refine lv_goto (tgt := 2) hx hb dX6_keepPast_38 (by decide) ?_
    exact hk2 x8 M7 _ _ ls hw (lv_sub hl [1, 0] rfl) hf
theorem z6_keepPast_2 {G : XG} {p : Program} {l : Launch} {e : Env} {s : State} {m : MethodId} {args : Array Value} {below : List Frame} {meth : Method} {c : Code} (F : Fx G ZY p m c cX6_keepPast 2 s args RX6) (hr : meth.sig.returnType = none) (hk : meth.locks = false) {M' : SX} : ∀ n : Nat, ∀ (v1 : Int32) (M : SX) (H : Heap) (locs : List Loc) (ls : Array Slot), Wld G ZY M s.heap H locs → lv_has ls 2 [(0, .ref (G.2.1 0)), (1, .int v1)] → xlp1 p6_keepPast_2 n v1 M = some M' → WXv G ZY p l e 0 s m args below meth c M' H locs (F0 m 2 ls []) := by
  intro n
  induction n with
  | zero => intro _ _ _ _ _ _ _ hf; cases hf
  | succ n ih => exact w6_keepPast_2 F hr hk (xlp1 p6_keepPast_2 n) ih
def p6_keepPast (M : SX) : Option SX :=
  xlp1 p6_keepPast_2 FU 0 M
set_option maxHeartbeats 4000000 in
set_option maxRecDepth 100000 in
theorem c6_keepPast {l : Launch} {G : XG} {M' : SX} {M : SX} (hf : p6_keepPast M = some M') : Met l yX6_keepPast (.code yX6_keepPast cX6_keepPast 2 none :: TBL) (rmX 0) (xPc G ZY M [.ref (G.2.1 0)]) (xQv G ZY M') 0 0 (inA G ZY) := by
  refine x_met (cc := cX6_keepPast) (by decide) (Nat.le_of_ble_eq_true rfl) ?_
  intro p e s m below meth c ls F hr hk hl hw
  have F : Fx G ZY p m c cX6_keepPast 2 s [.ref (G.2.1 0)].toArray RX6 := F
  have hl : lv_has ls 2 [(0, .ref (G.2.1 0))] := hl
  have hx := F.1.1
  have hb := F.1.2.1
  unfold p6_keepPast at hf
  refine lv_iconst (v := 0) hx hb dX6_keepPast_0 (by decide) ?_
  refine lv_istore_n (lv' := [(1, .int 0), (0, .ref (G.2.1 0))]) hx hb dX6_keepPast_1 rfl hl (by decide) rfl (fun ls hl => ?_)
  exact z6_keepPast_2 F hr hk FU 0 M _ _ ls hw (lv_sub hl [1, 0] rfl) hf
theorem dX6_isOld_0 : decode cX6_isOld 0 = .ok (.iconst 0, 1) := by decide +kernel
theorem dX6_isOld_1 : decode cX6_isOld 1 = .ok (.istore_n 1, 1) := by decide +kernel
theorem dX6_isOld_2 : decode cX6_isOld 2 = .ok (.iload_n 1, 1) := by decide +kernel
theorem dX6_isOld_3 : decode cX6_isOld 3 = .ok (.aload_n 0, 1) := by decide +kernel
theorem dX6_isOld_4 : decode cX6_isOld 4 = .ok (.getfield 140, 3) := by decide +kernel
theorem dX6_isOld_7 : decode cX6_isOld 7 = .ok (.if_icmp .ge 25, 3) := by decide +kernel
theorem dX6_isOld_10 : decode cX6_isOld 10 = .ok (.aload_n 0, 1) := by decide +kernel
theorem dX6_isOld_11 : decode cX6_isOld 11 = .ok (.getfield 7, 3) := by decide +kernel
theorem dX6_isOld_14 : decode cX6_isOld 14 = .ok (.bipush 19, 2) := by decide +kernel
theorem dX6_isOld_16 : decode cX6_isOld 16 = .ok (.iload_n 1, 1) := by decide +kernel
theorem dX6_isOld_17 : decode cX6_isOld 17 = .ok (.iadd, 1) := by decide +kernel
theorem dX6_isOld_18 : decode cX6_isOld 18 = .ok (.iaload, 1) := by decide +kernel
theorem dX6_isOld_19 : decode cX6_isOld 19 = .ok (.bipush 99, 2) := by decide +kernel
theorem dX6_isOld_21 : decode cX6_isOld 21 = .ok (.if_icmp .ne 5, 3) := by decide +kernel
theorem dX6_isOld_24 : decode cX6_isOld 24 = .ok (.iconst 1, 1) := by decide +kernel
theorem dX6_isOld_25 : decode cX6_isOld 25 = .ok (.ireturn, 1) := by decide +kernel
theorem dX6_isOld_26 : decode cX6_isOld 26 = .ok (.iinc 1 1, 3) := by decide +kernel
theorem dX6_isOld_29 : decode cX6_isOld 29 = .ok (.goto (-27), 3) := by decide +kernel
theorem dX6_isOld_32 : decode cX6_isOld 32 = .ok (.iconst 0, 1) := by decide +kernel
theorem dX6_isOld_33 : decode cX6_isOld 33 = .ok (.ireturn, 1) := by decide +kernel
def p6_isOld_2 (k2 : Int32 → SX → Option (Int32 × SX)) (v1 : Int32) (M : SX) : Option (Int32 × SX) :=
  if (M.1 0 1) ≤ v1 then (some (0, M))
  else (gd (bIn (19 + v1) 3964) ( if (M.1 1 (Int32.toNatClampNeg (19 + v1))) = (99 : Int32) then (some (1, M))
  else (lt_ (v1 + 1) (fun x4 => k2 x4 M))))
set_option maxHeartbeats 4000000 in
set_option maxRecDepth 100000 in
theorem w6_isOld_2 {G : XG} {p : Program} {l : Launch} {e : Env} {s : State} {m : MethodId} {args : Array Value} {below : List Frame} {meth : Method} {c : Code} (F : Fx G ZY p m c cX6_isOld 2 s args RX6) (hr : meth.sig.returnType = some .boolean) (hk : meth.locks = false) {r : Int32} {M' : SX} (k2 : Int32 → SX → Option (Int32 × SX)) (hk2 : ∀ (v1 : Int32) (M : SX) (H : Heap) (locs : List Loc) (ls : Array Slot), Wld G ZY M s.heap H locs → lv_has ls 2 [(0, .ref (G.2.1 0)), (1, .int v1)] → k2 v1 M = some (r, M') → WXi G ZY p l e 0 s m args below meth c r M' H locs (F0 m 2 ls [])) : ∀ (v1 : Int32) (M : SX) (H : Heap) (locs : List Loc) (ls : Array Slot), Wld G ZY M s.heap H locs → lv_has ls 2 [(0, .ref (G.2.1 0)), (1, .int v1)] → p6_isOld_2 k2 v1 M = some (r, M') → WXi G ZY p l e 0 s m args below meth c r M' H locs (F0 m 2 ls []) := by
  intro v1 M H locs ls hw hl hf
  have hx := F.1.1
  have hb := F.1.2.1
  unfold p6_isOld_2 at hf
  refine lv_iload_n hx hb dX6_isOld_2 rfl (lv_at hl 1 rfl) ?_
  refine lv_aload_n hx hb dX6_isOld_3 rfl (lv_at hl 0 rfl) ?_
  refine g6_1 F hw tw_611 dX6_isOld_4 ?_
  refine lv_icmp_ge (tgt := 32) hx hb dX6_isOld_7 (by decide) (fun c1 => ?_) (fun c1 => ?_)
  · have hf := it_t hf c1
    refine lv_iconst (v := 0) hx hb dX6_isOld_32 (by decide) ?_
    exact x_zret F hw hr hk (by decide) hf dX6_isOld_33
  · have hf := it_f hf c1
    refine lv_aload_n hx hb dX6_isOld_10 rfl (lv_at hl 0 rfl) ?_
    refine g6_0 F hw tw_610 dX6_isOld_11 ?_
    refine lv_bipush (v := 19) hx hb dX6_isOld_14 (by decide) ?_
    refine lv_iload_n hx hb dX6_isOld_16 rfl (lv_at hl 1 rfl) ?_
    refine lv_iadd hx hb dX6_isOld_17 ?_
    obtain ⟨g2, hf⟩ := gd_some hf
    refine x_iald F hw sM1 g2 dX6_isOld_18 ?_
    refine lv_bipush (v := 99) hx hb dX6_isOld_19 (by decide) ?_
    refine lv_icmp_ne (tgt := 26) hx hb dX6_isOld_21 (by decide) (fun c3 => ?_) (fun c3 => ?_)
    · have hf := it_f hf c3
      obtain ⟨x4, ex4, hf⟩ := lt_elim hf
      refine lv_iinc (v := x4) (lv' := [(1, .int x4), (0, .ref (G.2.1 0))]) hx hb dX6_isOld_26 hl (k := 1) rfl (by rw [ex4]; rfl) (by decide) rfl (fun ls hl => ?_)
      refine lv_goto (tgt := 2) hx hb dX6_isOld_29 (by decide) ?_
      exact hk2 x4 M _ _ ls hw (lv_sub hl [1, 0] rfl) hf
    · have hf := it_t hf c3
      refine lv_iconst (v := 1) hx hb dX6_isOld_24 (by decide) ?_
      exact x_zret F hw hr hk (by decide) hf dX6_isOld_25
theorem z6_isOld_2 {G : XG} {p : Program} {l : Launch} {e : Env} {s : State} {m : MethodId} {args : Array Value} {below : List Frame} {meth : Method} {c : Code} (F : Fx G ZY p m c cX6_isOld 2 s args RX6) (hr : meth.sig.returnType = some .boolean) (hk : meth.locks = false) {r : Int32} {M' : SX} : ∀ n : Nat, ∀ (v1 : Int32) (M : SX) (H : Heap) (locs : List Loc) (ls : Array Slot), Wld G ZY M s.heap H locs → lv_has ls 2 [(0, .ref (G.2.1 0)), (1, .int v1)] → xlp1 p6_isOld_2 n v1 M = some (r, M') → WXi G ZY p l e 0 s m args below meth c r M' H locs (F0 m 2 ls []) := by
  intro n
  induction n with
  | zero => intro _ _ _ _ _ _ _ hf; cases hf
  | succ n ih => exact w6_isOld_2 F hr hk (xlp1 p6_isOld_2 n) ih
def p6_isOld (M : SX) : Option (Int32 × SX) :=
  xlp1 p6_isOld_2 FU 0 M
set_option maxHeartbeats 4000000 in
set_option maxRecDepth 100000 in
theorem c6_isOld {l : Launch} {G : XG} {r : Int32} {M' : SX} {M : SX} (hf : p6_isOld M = some (r, M')) : Met l yX6_isOld (.code yX6_isOld cX6_isOld 2 (some .boolean) :: TBL) (rmX 0) (xPc G ZY M [.ref (G.2.1 0)]) (xQi G ZY r M') 0 0 (inA G ZY) := by
  refine x_met (cc := cX6_isOld) (by decide) (Nat.le_of_ble_eq_true rfl) ?_
  intro p e s m below meth c ls F hr hk hl hw
  have F : Fx G ZY p m c cX6_isOld 2 s [.ref (G.2.1 0)].toArray RX6 := F
  have hl : lv_has ls 2 [(0, .ref (G.2.1 0))] := hl
  have hx := F.1.1
  have hb := F.1.2.1
  unfold p6_isOld at hf
  refine lv_iconst (v := 0) hx hb dX6_isOld_0 (by decide) ?_
  refine lv_istore_n (lv' := [(1, .int 0), (0, .ref (G.2.1 0))]) hx hb dX6_isOld_1 rfl hl (by decide) rfl (fun ls hl => ?_)
  exact z6_isOld_2 F hr hk FU 0 M _ _ ls hw (lv_sub hl [1, 0] rfl) hf
theorem dX6_copyLane_0 : decode cX6_copyLane 0 = .ok (.iconst 0, 1) := by decide +kernel
theorem dX6_copyLane_1 : decode cX6_copyLane 1 = .ok (.istore_n 3, 1) := by decide +kernel
theorem dX6_copyLane_2 : decode cX6_copyLane 2 = .ok (.iload_n 3, 1) := by decide +kernel
theorem dX6_copyLane_3 : decode cX6_copyLane 3 = .ok (.sipush 991, 3) := by decide +kernel
theorem dX6_copyLane_6 : decode cX6_copyLane 6 = .ok (.if_icmp .ge 25, 3) := by decide +kernel
theorem dX6_copyLane_9 : decode cX6_copyLane 9 = .ok (.aload_n 0, 1) := by decide +kernel
theorem dX6_copyLane_10 : decode cX6_copyLane 10 = .ok (.getfield 7, 3) := by decide +kernel
theorem dX6_copyLane_13 : decode cX6_copyLane 13 = .ok (.iload_n 2, 1) := by decide +kernel
theorem dX6_copyLane_14 : decode cX6_copyLane 14 = .ok (.iload_n 3, 1) := by decide +kernel
theorem dX6_copyLane_15 : decode cX6_copyLane 15 = .ok (.iadd, 1) := by decide +kernel
theorem dX6_copyLane_16 : decode cX6_copyLane 16 = .ok (.aload_n 0, 1) := by decide +kernel
theorem dX6_copyLane_17 : decode cX6_copyLane 17 = .ok (.getfield 7, 3) := by decide +kernel
theorem dX6_copyLane_20 : decode cX6_copyLane 20 = .ok (.iload_n 1, 1) := by decide +kernel
theorem dX6_copyLane_21 : decode cX6_copyLane 21 = .ok (.iload_n 3, 1) := by decide +kernel
theorem dX6_copyLane_22 : decode cX6_copyLane 22 = .ok (.iadd, 1) := by decide +kernel
theorem dX6_copyLane_23 : decode cX6_copyLane 23 = .ok (.iaload, 1) := by decide +kernel
theorem dX6_copyLane_24 : decode cX6_copyLane 24 = .ok (.iastore, 1) := by decide +kernel
theorem dX6_copyLane_25 : decode cX6_copyLane 25 = .ok (.iinc 3 1, 3) := by decide +kernel
theorem dX6_copyLane_28 : decode cX6_copyLane 28 = .ok (.goto (-26), 3) := by decide +kernel
theorem dX6_copyLane_31 : decode cX6_copyLane 31 = .ok (.return_, 1) := by decide +kernel
def p6_copyLane_2 (k2 : Int32 → Int32 → Int32 → SX → Option SX) (v1 : Int32) (v2 : Int32) (v3 : Int32) (M : SX) : Option SX :=
  if (991 : Int32) ≤ v3 then (some M)
  else (gd (bIn (v1 + v3) 3964) ( gd (bIn (v2 + v3) 3964) ( lt_ (wI M 1 (Int32.toNatClampNeg (v2 + v3)) (M.1 1 (Int32.toNatClampNeg (v1 + v3)))) (fun M4 => lt_ (v3 + 1) (fun x5 => k2 v1 v2 x5 M4)))))
set_option maxHeartbeats 4000000 in
set_option maxRecDepth 100000 in
theorem w6_copyLane_2 {G : XG} {p : Program} {l : Launch} {e : Env} {s : State} {m : MethodId} {args : Array Value} {below : List Frame} {meth : Method} {c : Code} (F : Fx G ZY p m c cX6_copyLane 4 s args RX6) (hr : meth.sig.returnType = none) (hk : meth.locks = false) {M' : SX} (k2 : Int32 → Int32 → Int32 → SX → Option SX) (hk2 : ∀ (v1 : Int32) (v2 : Int32) (v3 : Int32) (M : SX) (H : Heap) (locs : List Loc) (ls : Array Slot), Wld G ZY M s.heap H locs → lv_has ls 4 [(0, .ref (G.2.1 0)), (1, .int v1), (2, .int v2), (3, .int v3)] → k2 v1 v2 v3 M = some M' → WXv G ZY p l e 0 s m args below meth c M' H locs (F0 m 2 ls [])) : ∀ (v1 : Int32) (v2 : Int32) (v3 : Int32) (M : SX) (H : Heap) (locs : List Loc) (ls : Array Slot), Wld G ZY M s.heap H locs → lv_has ls 4 [(0, .ref (G.2.1 0)), (1, .int v1), (2, .int v2), (3, .int v3)] → p6_copyLane_2 k2 v1 v2 v3 M = some M' → WXv G ZY p l e 0 s m args below meth c M' H locs (F0 m 2 ls []) := by
  intro v1 v2 v3 M H locs ls hw hl hf
  have hx := F.1.1
  have hb := F.1.2.1
  unfold p6_copyLane_2 at hf
  refine lv_iload_n hx hb dX6_copyLane_2 rfl (lv_at hl 3 rfl) ?_
  refine lv_sipush (v := 991) hx hb dX6_copyLane_3 (by decide) ?_
  refine lv_icmp_ge (tgt := 31) hx hb dX6_copyLane_6 (by decide) (fun c1 => ?_) (fun c1 => ?_)
  · have hf := it_t hf c1
    exact x_vret F hw hr hk hf dX6_copyLane_31
  · have hf := it_f hf c1
    refine lv_aload_n hx hb dX6_copyLane_9 rfl (lv_at hl 0 rfl) ?_
    refine g6_0 F hw tw_610 dX6_copyLane_10 ?_
    refine lv_iload_n hx hb dX6_copyLane_13 rfl (lv_at hl 2 rfl) ?_
    refine lv_iload_n hx hb dX6_copyLane_14 rfl (lv_at hl 3 rfl) ?_
    refine lv_iadd hx hb dX6_copyLane_15 ?_
    refine lv_aload_n hx hb dX6_copyLane_16 rfl (lv_at hl 0 rfl) ?_
    refine g6_0 F hw tw_610 dX6_copyLane_17 ?_
    refine lv_iload_n hx hb dX6_copyLane_20 rfl (lv_at hl 1 rfl) ?_
    refine lv_iload_n hx hb dX6_copyLane_21 rfl (lv_at hl 3 rfl) ?_
    refine lv_iadd hx hb dX6_copyLane_22 ?_
    obtain ⟨g2, hf⟩ := gd_some hf
    refine x_iald F hw sM1 g2 dX6_copyLane_23 ?_
    obtain ⟨g3, hf⟩ := gd_some hf
    refine x_iast F hw sM1 g3 dX6_copyLane_24 (fun H locs hw => ?_)
    obtain ⟨M4, eM4, hf⟩ := lt_elim hf
    rw [← eM4] at hw
    obtain ⟨x5, ex5, hf⟩ := lt_elim hf
    refine lv_iinc (v := x5) (lv' := [(3, .int x5), (0, .ref (G.2.1 0)), (1, .int v1), (2, .int v2)]) hx hb dX6_copyLane_25 hl (k := 3) rfl (by rw [ex5]; rfl) (by decide) rfl (fun ls hl => ?_)
    refine lv_goto (tgt := 2) hx hb dX6_copyLane_28 (by decide) ?_
    exact hk2 v1 v2 x5 M4 _ _ ls hw (lv_sub hl [1, 2, 3, 0] rfl) hf
theorem z6_copyLane_2 {G : XG} {p : Program} {l : Launch} {e : Env} {s : State} {m : MethodId} {args : Array Value} {below : List Frame} {meth : Method} {c : Code} (F : Fx G ZY p m c cX6_copyLane 4 s args RX6) (hr : meth.sig.returnType = none) (hk : meth.locks = false) {M' : SX} : ∀ n : Nat, ∀ (v1 : Int32) (v2 : Int32) (v3 : Int32) (M : SX) (H : Heap) (locs : List Loc) (ls : Array Slot), Wld G ZY M s.heap H locs → lv_has ls 4 [(0, .ref (G.2.1 0)), (1, .int v1), (2, .int v2), (3, .int v3)] → xlp3 p6_copyLane_2 n v1 v2 v3 M = some M' → WXv G ZY p l e 0 s m args below meth c M' H locs (F0 m 2 ls []) := by
  intro n
  induction n with
  | zero => intro _ _ _ _ _ _ _ _ _ hf; cases hf
  | succ n ih => exact w6_copyLane_2 F hr hk (xlp3 p6_copyLane_2 n) ih
def p6_copyLane (a1 : Int32) (a2 : Int32) (M : SX) : Option SX :=
  xlp3 p6_copyLane_2 FU a1 a2 0 M
set_option maxHeartbeats 4000000 in
set_option maxRecDepth 100000 in
theorem c6_copyLane {l : Launch} {G : XG} {M' : SX} {M : SX} (a1 : Int32) (a2 : Int32) (hf : p6_copyLane a1 a2 M = some M') : Met l yX6_copyLane (.code yX6_copyLane cX6_copyLane 4 none :: TBL) (rmX 0) (xPc G ZY M [.ref (G.2.1 0), .int a1, .int a2]) (xQv G ZY M') 0 0 (inA G ZY) := by
  refine x_met (cc := cX6_copyLane) (by decide) (Nat.le_of_ble_eq_true rfl) ?_
  intro p e s m below meth c ls F hr hk hl hw
  have F : Fx G ZY p m c cX6_copyLane 4 s [.ref (G.2.1 0), .int a1, .int a2].toArray RX6 := F
  have hl : lv_has ls 4 [(0, .ref (G.2.1 0)), (1, .int a1), (2, .int a2)] := hl
  have hx := F.1.1
  have hb := F.1.2.1
  unfold p6_copyLane at hf
  refine lv_iconst (v := 0) hx hb dX6_copyLane_0 (by decide) ?_
  refine lv_istore_n (lv' := [(3, .int 0), (0, .ref (G.2.1 0)), (1, .int a1), (2, .int a2)]) hx hb dX6_copyLane_1 rfl hl (by decide) rfl (fun ls hl => ?_)
  exact z6_copyLane_2 F hr hk FU a1 a2 0 M _ _ ls hw (lv_sub hl [1, 2, 3, 0] rfl) hf
theorem dX6_tellMany_0 : decode cX6_tellMany 0 = .ok (.aload_n 0, 1) := by decide +kernel
theorem dX6_tellMany_1 : decode cX6_tellMany 1 = .ok (.lload_n 1, 1) := by decide +kernel
theorem dX6_tellMany_2 : decode cX6_tellMany 2 = .ok (.putfield 237, 3) := by decide +kernel
theorem dX6_tellMany_5 : decode cX6_tellMany 5 = .ok (.aload_n 0, 1) := by decide +kernel
theorem dX6_tellMany_6 : decode cX6_tellMany 6 = .ok (.lconst 1, 1) := by decide +kernel
theorem dX6_tellMany_7 : decode cX6_tellMany 7 = .ok (.putfield 28, 3) := by decide +kernel
theorem dX6_tellMany_10 : decode cX6_tellMany 10 = .ok (.iconst 1, 1) := by decide +kernel
theorem dX6_tellMany_11 : decode cX6_tellMany 11 = .ok (.ireturn, 1) := by decide +kernel
def p6_tellMany (a1 : Int64) (M : SX) : Option (Int32 × SX) :=
  lt_ (wJ M 0 8 a1) (fun M1 => lt_ (wJ M1 0 9 1) (fun M2 => some (1, M2)))
set_option maxHeartbeats 4000000 in
set_option maxRecDepth 100000 in
theorem c6_tellMany {l : Launch} {G : XG} {r : Int32} {M' : SX} {M : SX} (a1 : Int64) (hf : p6_tellMany a1 M = some (r, M')) : Met l yX6_tellMany (.code yX6_tellMany cX6_tellMany 3 (some .int) :: TBL) (rmX 0) (xPc G ZY M [.ref (G.2.1 0), .long a1]) (xQi G ZY r M') 0 0 (inA G ZY) := by
  refine x_met (cc := cX6_tellMany) (by decide) (Nat.le_of_ble_eq_true rfl) ?_
  intro p e s m below meth c ls F hr hk hl hw
  have F : Fx G ZY p m c cX6_tellMany 3 s [.ref (G.2.1 0), .long a1].toArray RX6 := F
  have hl : lv_has ls 3 [(0, .ref (G.2.1 0)), (1, .long a1)] := hl
  have hx := F.1.1
  have hb := F.1.2.1
  unfold p6_tellMany at hf
  refine lv_aload_n hx hb dX6_tellMany_0 rfl (lv_at hl 0 rfl) ?_
  refine lv_lload_n hx hb dX6_tellMany_1 rfl (lv_at hl 1 rfl) ?_
  refine s6_8 F hw tw_613 dX6_tellMany_2 (fun H locs hw => ?_)
  obtain ⟨M1, eM1, hf⟩ := lt_elim hf
  rw [← eM1] at hw
  refine lv_aload_n hx hb dX6_tellMany_5 rfl (lv_at hl 0 rfl) ?_
  refine lv_lconst (v := 1) hx hb dX6_tellMany_6 (by decide) ?_
  refine s6_9 F hw tw_614 dX6_tellMany_7 (fun H locs hw => ?_)
  obtain ⟨M2, eM2, hf⟩ := lt_elim hf
  rw [← eM2] at hw
  refine lv_iconst (v := 1) hx hb dX6_tellMany_10 (by decide) ?_
  exact x_iret F hw hr hk hf dX6_tellMany_11
theorem dX6_tellParts_0 : decode cX6_tellParts 0 = .ok (.lload_n 1, 1) := by decide +kernel
theorem dX6_tellParts_1 : decode cX6_tellParts 1 = .ok (.lstore 5, 2) := by decide +kernel
theorem dX6_tellParts_3 : decode cX6_tellParts 3 = .ok (.lload_n 3, 1) := by decide +kernel
theorem dX6_tellParts_4 : decode cX6_tellParts 4 = .ok (.lstore 7, 2) := by decide +kernel
theorem dX6_tellParts_6 : decode cX6_tellParts 6 = .ok (.lload 7, 2) := by decide +kernel
theorem dX6_tellParts_8 : decode cX6_tellParts 8 = .ok (.lconst 0, 1) := by decide +kernel
theorem dX6_tellParts_9 : decode cX6_tellParts 9 = .ok (.lcmp, 1) := by decide +kernel
theorem dX6_tellParts_10 : decode cX6_tellParts 10 = .ok (.ifCond .eq 21, 3) := by decide +kernel
theorem dX6_tellParts_13 : decode cX6_tellParts 13 = .ok (.lload 5, 2) := by decide +kernel
theorem dX6_tellParts_15 : decode cX6_tellParts 15 = .ok (.lload 7, 2) := by decide +kernel
theorem dX6_tellParts_17 : decode cX6_tellParts 17 = .ok (.lrem, 1) := by decide +kernel
theorem dX6_tellParts_18 : decode cX6_tellParts 18 = .ok (.lstore 9, 2) := by decide +kernel
theorem dX6_tellParts_20 : decode cX6_tellParts 20 = .ok (.lload 7, 2) := by decide +kernel
theorem dX6_tellParts_22 : decode cX6_tellParts 22 = .ok (.lstore 5, 2) := by decide +kernel
theorem dX6_tellParts_24 : decode cX6_tellParts 24 = .ok (.lload 9, 2) := by decide +kernel
theorem dX6_tellParts_26 : decode cX6_tellParts 26 = .ok (.lstore 7, 2) := by decide +kernel
theorem dX6_tellParts_28 : decode cX6_tellParts 28 = .ok (.goto (-22), 3) := by decide +kernel
theorem dX6_tellParts_31 : decode cX6_tellParts 31 = .ok (.aload_n 0, 1) := by decide +kernel
theorem dX6_tellParts_32 : decode cX6_tellParts 32 = .ok (.lload_n 1, 1) := by decide +kernel
theorem dX6_tellParts_33 : decode cX6_tellParts 33 = .ok (.lload 5, 2) := by decide +kernel
theorem dX6_tellParts_35 : decode cX6_tellParts 35 = .ok (.ldiv, 1) := by decide +kernel
theorem dX6_tellParts_36 : decode cX6_tellParts 36 = .ok (.putfield 237, 3) := by decide +kernel
theorem dX6_tellParts_39 : decode cX6_tellParts 39 = .ok (.aload_n 0, 1) := by decide +kernel
theorem dX6_tellParts_40 : decode cX6_tellParts 40 = .ok (.lload_n 3, 1) := by decide +kernel
theorem dX6_tellParts_41 : decode cX6_tellParts 41 = .ok (.lload 5, 2) := by decide +kernel
theorem dX6_tellParts_43 : decode cX6_tellParts 43 = .ok (.ldiv, 1) := by decide +kernel
theorem dX6_tellParts_44 : decode cX6_tellParts 44 = .ok (.putfield 28, 3) := by decide +kernel
theorem dX6_tellParts_47 : decode cX6_tellParts 47 = .ok (.iconst 1, 1) := by decide +kernel
theorem dX6_tellParts_48 : decode cX6_tellParts 48 = .ok (.ireturn, 1) := by decide +kernel
def p6_tellParts_6 (k6 : Int64 → Int64 → Int64 → Int64 → SX → Option (Int32 × SX)) (v1 : Int64) (v3 : Int64) (v5 : Int64) (v7 : Int64) (M : SX) : Option (Int32 × SX) :=
  if v7 = 0 then (gd (nzL v5) ( lt_ (wJ M 0 8 (v1 / v5)) (fun M3 => lt_ (wJ M3 0 9 (v3 / v5)) (fun M4 => some (1, M4)))))
  else (gd (nzL v7) ( lt_ (v5 - v5 / v7 * v7) (fun x6 => k6 v1 v3 v7 x6 M)))
set_option maxHeartbeats 4000000 in
set_option maxRecDepth 100000 in
theorem w6_tellParts_6 {G : XG} {p : Program} {l : Launch} {e : Env} {s : State} {m : MethodId} {args : Array Value} {below : List Frame} {meth : Method} {c : Code} (F : Fx G ZY p m c cX6_tellParts 11 s args RX6) (hr : meth.sig.returnType = some .int) (hk : meth.locks = false) {r : Int32} {M' : SX} (k6 : Int64 → Int64 → Int64 → Int64 → SX → Option (Int32 × SX)) (hk6 : ∀ (v1 : Int64) (v3 : Int64) (v5 : Int64) (v7 : Int64) (M : SX) (H : Heap) (locs : List Loc) (ls : Array Slot), Wld G ZY M s.heap H locs → lv_has ls 11 [(0, .ref (G.2.1 0)), (1, .long v1), (3, .long v3), (5, .long v5), (7, .long v7)] → k6 v1 v3 v5 v7 M = some (r, M') → WXi G ZY p l e 0 s m args below meth c r M' H locs (F0 m 6 ls [])) : ∀ (v1 : Int64) (v3 : Int64) (v5 : Int64) (v7 : Int64) (M : SX) (H : Heap) (locs : List Loc) (ls : Array Slot), Wld G ZY M s.heap H locs → lv_has ls 11 [(0, .ref (G.2.1 0)), (1, .long v1), (3, .long v3), (5, .long v5), (7, .long v7)] → p6_tellParts_6 k6 v1 v3 v5 v7 M = some (r, M') → WXi G ZY p l e 0 s m args below meth c r M' H locs (F0 m 6 ls []) := by
  intro v1 v3 v5 v7 M H locs ls hw hl hf
  have hx := F.1.1
  have hb := F.1.2.1
  unfold p6_tellParts_6 at hf
  refine lv_lload hx hb dX6_tellParts_6 (lv_at hl 4 rfl) ?_
  refine lv_lconst (v := 0) hx hb dX6_tellParts_8 (by decide) ?_
  refine W.lcmp hx hb dX6_tellParts_9 ?_
  refine lv_if_eq (tgt := 31) hx hb dX6_tellParts_10 (by decide) (fun c1 => ?_) (fun c1 => ?_)
  · have hf := it_t hf ((lc_eq v7 0).mp c1)
    refine lv_aload_n hx hb dX6_tellParts_31 rfl (lv_at hl 0 rfl) ?_
    refine lv_lload_n hx hb dX6_tellParts_32 rfl (lv_at hl 1 rfl) ?_
    refine lv_lload hx hb dX6_tellParts_33 (lv_at hl 3 rfl) ?_
    obtain ⟨g2, hf⟩ := gd_some hf
    refine lv_ldiv hx hb dX6_tellParts_35 (nzL_ne g2) ?_
    refine s6_8 F hw tw_613 dX6_tellParts_36 (fun H locs hw => ?_)
    obtain ⟨M3, eM3, hf⟩ := lt_elim hf
    rw [← eM3] at hw
    refine lv_aload_n hx hb dX6_tellParts_39 rfl (lv_at hl 0 rfl) ?_
    refine lv_lload_n hx hb dX6_tellParts_40 rfl (lv_at hl 2 rfl) ?_
    refine lv_lload hx hb dX6_tellParts_41 (lv_at hl 3 rfl) ?_
    refine lv_ldiv hx hb dX6_tellParts_43 (nzL_ne g2) ?_
    refine s6_9 F hw tw_614 dX6_tellParts_44 (fun H locs hw => ?_)
    obtain ⟨M4, eM4, hf⟩ := lt_elim hf
    rw [← eM4] at hw
    refine lv_iconst (v := 1) hx hb dX6_tellParts_47 (by decide) ?_
    exact x_iret F hw hr hk hf dX6_tellParts_48
  · have hf := it_f hf (fun h9 => c1 ((lc_eq v7 0).mpr h9))
    refine lv_lload hx hb dX6_tellParts_13 (lv_at hl 3 rfl) ?_
    refine lv_lload hx hb dX6_tellParts_15 (lv_at hl 4 rfl) ?_
    obtain ⟨g5, hf⟩ := gd_some hf
    refine lv_lrem hx hb dX6_tellParts_17 (nzL_ne g5) ?_
    obtain ⟨x6, ex6, hf⟩ := lt_elim hf
    refine x_letL ex6 ?_
    refine lv_lstore (lv' := [(9, .long x6), (0, .ref (G.2.1 0)), (1, .long v1), (3, .long v3), (5, .long v5), (7, .long v7)]) hx hb dX6_tellParts_18 hl (by decide) rfl (fun ls hl => ?_)
    refine lv_lload hx hb dX6_tellParts_20 (lv_at hl 5 rfl) ?_
    refine lv_lstore (lv' := [(5, .long v7), (9, .long x6), (0, .ref (G.2.1 0)), (1, .long v1), (3, .long v3), (7, .long v7)]) hx hb dX6_tellParts_22 hl (by decide) rfl (fun ls hl => ?_)
    refine lv_lload hx hb dX6_tellParts_24 (lv_at hl 1 rfl) ?_
    refine lv_lstore (lv' := [(7, .long x6), (5, .long v7), (9, .long x6), (0, .ref (G.2.1 0)), (1, .long v1), (3, .long v3)]) hx hb dX6_tellParts_26 hl (by decide) rfl (fun ls hl => ?_)
    refine lv_goto (tgt := 6) hx hb dX6_tellParts_28 (by decide) ?_
    exact hk6 v1 v3 v7 x6 M _ _ ls hw (lv_sub hl [3, 4, 5, 1, 0] rfl) hf
theorem z6_tellParts_6 {G : XG} {p : Program} {l : Launch} {e : Env} {s : State} {m : MethodId} {args : Array Value} {below : List Frame} {meth : Method} {c : Code} (F : Fx G ZY p m c cX6_tellParts 11 s args RX6) (hr : meth.sig.returnType = some .int) (hk : meth.locks = false) {r : Int32} {M' : SX} : ∀ n : Nat, ∀ (v1 : Int64) (v3 : Int64) (v5 : Int64) (v7 : Int64) (M : SX) (H : Heap) (locs : List Loc) (ls : Array Slot), Wld G ZY M s.heap H locs → lv_has ls 11 [(0, .ref (G.2.1 0)), (1, .long v1), (3, .long v3), (5, .long v5), (7, .long v7)] → xlp4 p6_tellParts_6 n v1 v3 v5 v7 M = some (r, M') → WXi G ZY p l e 0 s m args below meth c r M' H locs (F0 m 6 ls []) := by
  intro n
  induction n with
  | zero => intro _ _ _ _ _ _ _ _ _ _ hf; cases hf
  | succ n ih => exact w6_tellParts_6 F hr hk (xlp4 p6_tellParts_6 n) ih
def p6_tellParts (a1 : Int64) (a2 : Int64) (M : SX) : Option (Int32 × SX) :=
  xlp4 p6_tellParts_6 FU a1 a2 a1 a2 M
set_option maxHeartbeats 4000000 in
set_option maxRecDepth 100000 in
theorem c6_tellParts {l : Launch} {G : XG} {r : Int32} {M' : SX} {M : SX} (a1 : Int64) (a2 : Int64) (hf : p6_tellParts a1 a2 M = some (r, M')) : Met l yX6_tellParts (.code yX6_tellParts cX6_tellParts 11 (some .int) :: TBL) (rmX 0) (xPc G ZY M [.ref (G.2.1 0), .long a1, .long a2]) (xQi G ZY r M') 0 0 (inA G ZY) := by
  refine x_met (cc := cX6_tellParts) (by decide) (Nat.le_of_ble_eq_true rfl) ?_
  intro p e s m below meth c ls F hr hk hl hw
  have F : Fx G ZY p m c cX6_tellParts 11 s [.ref (G.2.1 0), .long a1, .long a2].toArray RX6 := F
  have hl : lv_has ls 11 [(0, .ref (G.2.1 0)), (1, .long a1), (3, .long a2)] := hl
  have hx := F.1.1
  have hb := F.1.2.1
  unfold p6_tellParts at hf
  refine lv_lload_n hx hb dX6_tellParts_0 rfl (lv_at hl 1 rfl) ?_
  refine lv_lstore (lv' := [(5, .long a1), (0, .ref (G.2.1 0)), (1, .long a1), (3, .long a2)]) hx hb dX6_tellParts_1 hl (by decide) rfl (fun ls hl => ?_)
  refine lv_lload_n hx hb dX6_tellParts_3 rfl (lv_at hl 3 rfl) ?_
  refine lv_lstore (lv' := [(7, .long a2), (5, .long a1), (0, .ref (G.2.1 0)), (1, .long a1), (3, .long a2)]) hx hb dX6_tellParts_4 hl (by decide) rfl (fun ls hl => ?_)
  exact z6_tellParts_6 F hr hk FU a1 a2 a1 a2 M _ _ ls hw (lv_sub hl [2, 3, 4, 1, 0] rfl) hf
