theorem dX6_asked_0 : decode cX6_asked 0 = .ok (.aload_n 0, 1) := by decide +kernel
theorem dX6_asked_1 : decode cX6_asked 1 = .ok (.getfield 64, 3) := by decide +kernel
theorem dX6_asked_4 : decode cX6_asked 4 = .ok (.ireturn, 1) := by decide +kernel
def p6_asked (M : SX) : Option (Int32 × SX) :=
  some (M.1 0 7, M)
set_option maxHeartbeats 4000000 in
set_option maxRecDepth 100000 in
theorem c6_asked {l : Launch} {G : XG} {r : Int32} {M' : SX} {M : SX} (hf : p6_asked M = some (r, M')) : Met l yX6_asked (.code yX6_asked cX6_asked 1 (some .int) :: TBL) (rmX 0) (xPc G ZY M [.ref (G.2.1 0)]) (xQi G ZY r M') 0 0 (inA G ZY) := by
  refine x_met (cc := cX6_asked) (by decide) (Nat.le_of_ble_eq_true rfl) ?_
  intro p e s m below meth c ls F hr hk hl hw
  have F : Fx G ZY p m c cX6_asked 1 s [.ref (G.2.1 0)].toArray RX6 := F
  have hl : lv_has ls 1 [(0, .ref (G.2.1 0))] := hl
  have hx := F.1.1
  have hb := F.1.2.1
  unfold p6_asked at hf
  refine lv_aload_n hx hb dX6_asked_0 rfl (lv_at hl 0 rfl) ?_
  refine g6_7 F hw tw_604 dX6_asked_1 ?_
  exact x_iret F hw hr hk hf dX6_asked_4
theorem dX6_upper_0 : decode cX6_upper 0 = .ok (.aload_n 0, 1) := by decide +kernel
theorem dX6_upper_1 : decode cX6_upper 1 = .ok (.getfield 237, 3) := by decide +kernel
theorem dX6_upper_4 : decode cX6_upper 4 = .ok (.lreturn, 1) := by decide +kernel
def p6_upper (M : SX) : Option (Int64 × SX) :=
  some (M.2 0 8, M)
set_option maxHeartbeats 4000000 in
set_option maxRecDepth 100000 in
theorem c6_upper {l : Launch} {G : XG} {r : Int64} {M' : SX} {M : SX} (hf : p6_upper M = some (r, M')) : Met l yX6_upper (.code yX6_upper cX6_upper 1 (some .long) :: TBL) (rmX 0) (xPc G ZY M [.ref (G.2.1 0)]) (xQl G ZY r M') 0 0 (inA G ZY) := by
  refine x_met (cc := cX6_upper) (by decide) (Nat.le_of_ble_eq_true rfl) ?_
  intro p e s m below meth c ls F hr hk hl hw
  have F : Fx G ZY p m c cX6_upper 1 s [.ref (G.2.1 0)].toArray RX6 := F
  have hl : lv_has ls 1 [(0, .ref (G.2.1 0))] := hl
  have hx := F.1.1
  have hb := F.1.2.1
  unfold p6_upper at hf
  refine lv_aload_n hx hb dX6_upper_0 rfl (lv_at hl 0 rfl) ?_
  refine g6_8 F hw tw_613 dX6_upper_1 ?_
  exact x_lret F hw hr hk hf dX6_upper_4
theorem dX6_lower_0 : decode cX6_lower 0 = .ok (.aload_n 0, 1) := by decide +kernel
theorem dX6_lower_1 : decode cX6_lower 1 = .ok (.getfield 28, 3) := by decide +kernel
theorem dX6_lower_4 : decode cX6_lower 4 = .ok (.lreturn, 1) := by decide +kernel
def p6_lower (M : SX) : Option (Int64 × SX) :=
  some (M.2 0 9, M)
set_option maxHeartbeats 4000000 in
set_option maxRecDepth 100000 in
theorem c6_lower {l : Launch} {G : XG} {r : Int64} {M' : SX} {M : SX} (hf : p6_lower M = some (r, M')) : Met l yX6_lower (.code yX6_lower cX6_lower 1 (some .long) :: TBL) (rmX 0) (xPc G ZY M [.ref (G.2.1 0)]) (xQl G ZY r M') 0 0 (inA G ZY) := by
  refine x_met (cc := cX6_lower) (by decide) (Nat.le_of_ble_eq_true rfl) ?_
  intro p e s m below meth c ls F hr hk hl hw
  have F : Fx G ZY p m c cX6_lower 1 s [.ref (G.2.1 0)].toArray RX6 := F
  have hl : lv_has ls 1 [(0, .ref (G.2.1 0))] := hl
  have hx := F.1.1
  have hb := F.1.2.1
  unfold p6_lower at hf
  refine lv_aload_n hx hb dX6_lower_0 rfl (lv_at hl 0 rfl) ?_
  refine g6_9 F hw tw_614 dX6_lower_1 ?_
  exact x_lret F hw hr hk hf dX6_lower_4
theorem dX6_cashOfAll_0 : decode cX6_cashOfAll 0 = .ok (.iconst 0, 1) := by decide +kernel
theorem dX6_cashOfAll_1 : decode cX6_cashOfAll 1 = .ok (.istore_n 1, 1) := by decide +kernel
theorem dX6_cashOfAll_2 : decode cX6_cashOfAll 2 = .ok (.iconst 0, 1) := by decide +kernel
theorem dX6_cashOfAll_3 : decode cX6_cashOfAll 3 = .ok (.istore_n 2, 1) := by decide +kernel
theorem dX6_cashOfAll_4 : decode cX6_cashOfAll 4 = .ok (.iload_n 2, 1) := by decide +kernel
theorem dX6_cashOfAll_5 : decode cX6_cashOfAll 5 = .ok (.aload_n 0, 1) := by decide +kernel
theorem dX6_cashOfAll_6 : decode cX6_cashOfAll 6 = .ok (.getfield 140, 3) := by decide +kernel
theorem dX6_cashOfAll_9 : decode cX6_cashOfAll 9 = .ok (.if_icmp .ge 20, 3) := by decide +kernel
theorem dX6_cashOfAll_12 : decode cX6_cashOfAll 12 = .ok (.iload_n 1, 1) := by decide +kernel
theorem dX6_cashOfAll_13 : decode cX6_cashOfAll 13 = .ok (.aload_n 0, 1) := by decide +kernel
theorem dX6_cashOfAll_14 : decode cX6_cashOfAll 14 = .ok (.getfield 7, 3) := by decide +kernel
theorem dX6_cashOfAll_17 : decode cX6_cashOfAll 17 = .ok (.iconst 1, 1) := by decide +kernel
theorem dX6_cashOfAll_18 : decode cX6_cashOfAll 18 = .ok (.iload_n 2, 1) := by decide +kernel
theorem dX6_cashOfAll_19 : decode cX6_cashOfAll 19 = .ok (.iadd, 1) := by decide +kernel
theorem dX6_cashOfAll_20 : decode cX6_cashOfAll 20 = .ok (.iaload, 1) := by decide +kernel
theorem dX6_cashOfAll_21 : decode cX6_cashOfAll 21 = .ok (.iadd, 1) := by decide +kernel
theorem dX6_cashOfAll_22 : decode cX6_cashOfAll 22 = .ok (.istore_n 1, 1) := by decide +kernel
theorem dX6_cashOfAll_23 : decode cX6_cashOfAll 23 = .ok (.iinc 2 1, 3) := by decide +kernel
theorem dX6_cashOfAll_26 : decode cX6_cashOfAll 26 = .ok (.goto (-22), 3) := by decide +kernel
theorem dX6_cashOfAll_29 : decode cX6_cashOfAll 29 = .ok (.iload_n 1, 1) := by decide +kernel
theorem dX6_cashOfAll_30 : decode cX6_cashOfAll 30 = .ok (.ireturn, 1) := by decide +kernel
def p6_cashOfAll_4 (k4 : Int32 → Int32 → SX → Option (Int32 × SX)) (v1 : Int32) (v2 : Int32) (M : SX) : Option (Int32 × SX) :=
  if (M.1 0 1) ≤ v2 then (some (v1, M))
  else (gd (bIn (1 + v2) 3964) ( lt_ (v1 + (M.1 1 (Int32.toNatClampNeg (1 + v2)))) (fun x3 => lt_ (v2 + 1) (fun x4 => k4 x3 x4 M))))
set_option maxHeartbeats 4000000 in
set_option maxRecDepth 100000 in
theorem w6_cashOfAll_4 {G : XG} {p : Program} {l : Launch} {e : Env} {s : State} {m : MethodId} {args : Array Value} {below : List Frame} {meth : Method} {c : Code} (F : Fx G ZY p m c cX6_cashOfAll 3 s args RX6) (hr : meth.sig.returnType = some .int) (hk : meth.locks = false) {r : Int32} {M' : SX} (k4 : Int32 → Int32 → SX → Option (Int32 × SX)) (hk4 : ∀ (v1 : Int32) (v2 : Int32) (M : SX) (H : Heap) (locs : List Loc) (ls : Array Slot), Wld G ZY M s.heap H locs → lv_has ls 3 [(0, .ref (G.2.1 0)), (1, .int v1), (2, .int v2)] → k4 v1 v2 M = some (r, M') → WXi G ZY p l e 0 s m args below meth c r M' H locs (F0 m 4 ls [])) : ∀ (v1 : Int32) (v2 : Int32) (M : SX) (H : Heap) (locs : List Loc) (ls : Array Slot), Wld G ZY M s.heap H locs → lv_has ls 3 [(0, .ref (G.2.1 0)), (1, .int v1), (2, .int v2)] → p6_cashOfAll_4 k4 v1 v2 M = some (r, M') → WXi G ZY p l e 0 s m args below meth c r M' H locs (F0 m 4 ls []) := by
  intro v1 v2 M H locs ls hw hl hf
  have hx := F.1.1
  have hb := F.1.2.1
  unfold p6_cashOfAll_4 at hf
  refine lv_iload_n hx hb dX6_cashOfAll_4 rfl (lv_at hl 2 rfl) ?_
  refine lv_aload_n hx hb dX6_cashOfAll_5 rfl (lv_at hl 0 rfl) ?_
  refine g6_1 F hw tw_611 dX6_cashOfAll_6 ?_
  refine lv_icmp_ge (tgt := 29) hx hb dX6_cashOfAll_9 (by decide) (fun c1 => ?_) (fun c1 => ?_)
  · have hf := it_t hf c1
    refine lv_iload_n hx hb dX6_cashOfAll_29 rfl (lv_at hl 1 rfl) ?_
    exact x_iret F hw hr hk hf dX6_cashOfAll_30
  · have hf := it_f hf c1
    refine lv_iload_n hx hb dX6_cashOfAll_12 rfl (lv_at hl 1 rfl) ?_
    refine lv_aload_n hx hb dX6_cashOfAll_13 rfl (lv_at hl 0 rfl) ?_
    refine g6_0 F hw tw_610 dX6_cashOfAll_14 ?_
    refine lv_iconst (v := 1) hx hb dX6_cashOfAll_17 (by decide) ?_
    refine lv_iload_n hx hb dX6_cashOfAll_18 rfl (lv_at hl 2 rfl) ?_
    refine lv_iadd hx hb dX6_cashOfAll_19 ?_
    obtain ⟨g2, hf⟩ := gd_some hf
    refine x_iald F hw sM1 g2 dX6_cashOfAll_20 ?_
    refine lv_iadd hx hb dX6_cashOfAll_21 ?_
    obtain ⟨x3, ex3, hf⟩ := lt_elim hf
    refine x_let ex3 ?_
    refine lv_istore_n (lv' := [(1, .int x3), (0, .ref (G.2.1 0)), (2, .int v2)]) hx hb dX6_cashOfAll_22 rfl hl (by decide) rfl (fun ls hl => ?_)
    obtain ⟨x4, ex4, hf⟩ := lt_elim hf
    refine lv_iinc (v := x4) (lv' := [(2, .int x4), (1, .int x3), (0, .ref (G.2.1 0))]) hx hb dX6_cashOfAll_23 hl (k := 2) rfl (by rw [ex4]; rfl) (by decide) rfl (fun ls hl => ?_)
    refine lv_goto (tgt := 4) hx hb dX6_cashOfAll_26 (by decide) ?_
    exact hk4 x3 x4 M _ _ ls hw (lv_sub hl [2, 1, 0] rfl) hf
theorem z6_cashOfAll_4 {G : XG} {p : Program} {l : Launch} {e : Env} {s : State} {m : MethodId} {args : Array Value} {below : List Frame} {meth : Method} {c : Code} (F : Fx G ZY p m c cX6_cashOfAll 3 s args RX6) (hr : meth.sig.returnType = some .int) (hk : meth.locks = false) {r : Int32} {M' : SX} : ∀ n : Nat, ∀ (v1 : Int32) (v2 : Int32) (M : SX) (H : Heap) (locs : List Loc) (ls : Array Slot), Wld G ZY M s.heap H locs → lv_has ls 3 [(0, .ref (G.2.1 0)), (1, .int v1), (2, .int v2)] → xlp2 p6_cashOfAll_4 n v1 v2 M = some (r, M') → WXi G ZY p l e 0 s m args below meth c r M' H locs (F0 m 4 ls []) := by
  intro n
  induction n with
  | zero => intro _ _ _ _ _ _ _ _ hf; cases hf
  | succ n ih => exact w6_cashOfAll_4 F hr hk (xlp2 p6_cashOfAll_4 n) ih
def p6_cashOfAll (M : SX) : Option (Int32 × SX) :=
  xlp2 p6_cashOfAll_4 FU 0 0 M
set_option maxHeartbeats 4000000 in
set_option maxRecDepth 100000 in
theorem c6_cashOfAll {l : Launch} {G : XG} {r : Int32} {M' : SX} {M : SX} (hf : p6_cashOfAll M = some (r, M')) : Met l yX6_cashOfAll (.code yX6_cashOfAll cX6_cashOfAll 3 (some .int) :: TBL) (rmX 0) (xPc G ZY M [.ref (G.2.1 0)]) (xQi G ZY r M') 0 0 (inA G ZY) := by
  refine x_met (cc := cX6_cashOfAll) (by decide) (Nat.le_of_ble_eq_true rfl) ?_
  intro p e s m below meth c ls F hr hk hl hw
  have F : Fx G ZY p m c cX6_cashOfAll 3 s [.ref (G.2.1 0)].toArray RX6 := F
  have hl : lv_has ls 3 [(0, .ref (G.2.1 0))] := hl
  have hx := F.1.1
  have hb := F.1.2.1
  unfold p6_cashOfAll at hf
  refine lv_iconst (v := 0) hx hb dX6_cashOfAll_0 (by decide) ?_
  refine lv_istore_n (lv' := [(1, .int 0), (0, .ref (G.2.1 0))]) hx hb dX6_cashOfAll_1 rfl hl (by decide) rfl (fun ls hl => ?_)
  refine lv_iconst (v := 0) hx hb dX6_cashOfAll_2 (by decide) ?_
  refine lv_istore_n (lv' := [(2, .int 0), (1, .int 0), (0, .ref (G.2.1 0))]) hx hb dX6_cashOfAll_3 rfl hl (by decide) rfl (fun ls hl => ?_)
  exact z6_cashOfAll_4 F hr hk FU 0 0 M _ _ ls hw (lv_sub hl [2, 1, 0] rfl) hf
theorem dX6_thereOf_0 : decode cX6_thereOf 0 = .ok (.iconst 0, 1) := by decide +kernel
theorem dX6_thereOf_1 : decode cX6_thereOf 1 = .ok (.istore_n 2, 1) := by decide +kernel
theorem dX6_thereOf_2 : decode cX6_thereOf 2 = .ok (.iconst 0, 1) := by decide +kernel
theorem dX6_thereOf_3 : decode cX6_thereOf 3 = .ok (.istore_n 3, 1) := by decide +kernel
theorem dX6_thereOf_4 : decode cX6_thereOf 4 = .ok (.iload_n 3, 1) := by decide +kernel
theorem dX6_thereOf_5 : decode cX6_thereOf 5 = .ok (.bipush 6, 2) := by decide +kernel
theorem dX6_thereOf_7 : decode cX6_thereOf 7 = .ok (.if_icmp .ge 90, 3) := by decide +kernel
theorem dX6_thereOf_10 : decode cX6_thereOf 10 = .ok (.iload_n 2, 1) := by decide +kernel
theorem dX6_thereOf_11 : decode cX6_thereOf 11 = .ok (.iload_n 1, 1) := by decide +kernel
theorem dX6_thereOf_12 : decode cX6_thereOf 12 = .ok (.bipush 6, 2) := by decide +kernel
theorem dX6_thereOf_14 : decode cX6_thereOf 14 = .ok (.if_icmp .ne 20, 3) := by decide +kernel
theorem dX6_thereOf_17 : decode cX6_thereOf 17 = .ok (.aload_n 0, 1) := by decide +kernel
theorem dX6_thereOf_18 : decode cX6_thereOf 18 = .ok (.getfield 16, 3) := by decide +kernel
theorem dX6_thereOf_21 : decode cX6_thereOf 21 = .ok (.iload_n 3, 1) := by decide +kernel
theorem dX6_thereOf_22 : decode cX6_thereOf 22 = .ok (.iaload, 1) := by decide +kernel
theorem dX6_thereOf_23 : decode cX6_thereOf 23 = .ok (.ifCond .ge 7, 3) := by decide +kernel
theorem dX6_thereOf_26 : decode cX6_thereOf 26 = .ok (.iconst 0, 1) := by decide +kernel
theorem dX6_thereOf_27 : decode cX6_thereOf 27 = .ok (.goto 62, 3) := by decide +kernel
theorem dX6_thereOf_30 : decode cX6_thereOf 30 = .ok (.iconst 1, 1) := by decide +kernel
theorem dX6_thereOf_31 : decode cX6_thereOf 31 = .ok (.goto 58, 3) := by decide +kernel
theorem dX6_thereOf_34 : decode cX6_thereOf 34 = .ok (.iload_n 1, 1) := by decide +kernel
theorem dX6_thereOf_35 : decode cX6_thereOf 35 = .ok (.bipush 7, 2) := by decide +kernel
theorem dX6_thereOf_37 : decode cX6_thereOf 37 = .ok (.if_icmp .ne 25, 3) := by decide +kernel
theorem dX6_thereOf_40 : decode cX6_thereOf 40 = .ok (.iload_n 3, 1) := by decide +kernel
theorem dX6_thereOf_41 : decode cX6_thereOf 41 = .ok (.iconst 4, 1) := by decide +kernel
theorem dX6_thereOf_42 : decode cX6_thereOf 42 = .ok (.if_icmp .ge 16, 3) := by decide +kernel
theorem dX6_thereOf_45 : decode cX6_thereOf 45 = .ok (.aload_n 0, 1) := by decide +kernel
theorem dX6_thereOf_46 : decode cX6_thereOf 46 = .ok (.getfield 22, 3) := by decide +kernel
theorem dX6_thereOf_49 : decode cX6_thereOf 49 = .ok (.iload_n 3, 1) := by decide +kernel
theorem dX6_thereOf_50 : decode cX6_thereOf 50 = .ok (.iaload, 1) := by decide +kernel
theorem dX6_thereOf_51 : decode cX6_thereOf 51 = .ok (.ifCond .lt 7, 3) := by decide +kernel
theorem dX6_thereOf_54 : decode cX6_thereOf 54 = .ok (.iconst 1, 1) := by decide +kernel
theorem dX6_thereOf_55 : decode cX6_thereOf 55 = .ok (.goto 34, 3) := by decide +kernel
theorem dX6_thereOf_58 : decode cX6_thereOf 58 = .ok (.iconst 0, 1) := by decide +kernel
theorem dX6_thereOf_59 : decode cX6_thereOf 59 = .ok (.goto 30, 3) := by decide +kernel
theorem dX6_thereOf_62 : decode cX6_thereOf 62 = .ok (.iload_n 3, 1) := by decide +kernel
theorem dX6_thereOf_63 : decode cX6_thereOf 63 = .ok (.iconst 3, 1) := by decide +kernel
theorem dX6_thereOf_64 : decode cX6_thereOf 64 = .ok (.if_icmp .ge 24, 3) := by decide +kernel
theorem dX6_thereOf_67 : decode cX6_thereOf 67 = .ok (.aload_n 0, 1) := by decide +kernel
theorem dX6_thereOf_68 : decode cX6_thereOf 68 = .ok (.getfield 7, 3) := by decide +kernel
theorem dX6_thereOf_71 : decode cX6_thereOf 71 = .ok (.sipush 991, 3) := by decide +kernel
theorem dX6_thereOf_74 : decode cX6_thereOf 74 = .ok (.iconst 1, 1) := by decide +kernel
theorem dX6_thereOf_75 : decode cX6_thereOf 75 = .ok (.iload_n 3, 1) := by decide +kernel
theorem dX6_thereOf_76 : decode cX6_thereOf 76 = .ok (.iadd, 1) := by decide +kernel
theorem dX6_thereOf_77 : decode cX6_thereOf 77 = .ok (.imul, 1) := by decide +kernel
theorem dX6_thereOf_78 : decode cX6_thereOf 78 = .ok (.iconst 0, 1) := by decide +kernel
theorem dX6_thereOf_79 : decode cX6_thereOf 79 = .ok (.iadd, 1) := by decide +kernel
theorem dX6_thereOf_80 : decode cX6_thereOf 80 = .ok (.iaload, 1) := by decide +kernel
theorem dX6_thereOf_81 : decode cX6_thereOf 81 = .ok (.ifCond .lt 7, 3) := by decide +kernel
theorem dX6_thereOf_84 : decode cX6_thereOf 84 = .ok (.iconst 1, 1) := by decide +kernel
theorem dX6_thereOf_85 : decode cX6_thereOf 85 = .ok (.goto 4, 3) := by decide +kernel
theorem dX6_thereOf_88 : decode cX6_thereOf 88 = .ok (.iconst 0, 1) := by decide +kernel
theorem dX6_thereOf_89 : decode cX6_thereOf 89 = .ok (.iadd, 1) := by decide +kernel
theorem dX6_thereOf_90 : decode cX6_thereOf 90 = .ok (.istore_n 2, 1) := by decide +kernel
theorem dX6_thereOf_91 : decode cX6_thereOf 91 = .ok (.iinc 3 1, 3) := by decide +kernel
theorem dX6_thereOf_94 : decode cX6_thereOf 94 = .ok (.goto (-90), 3) := by decide +kernel
theorem dX6_thereOf_97 : decode cX6_thereOf 97 = .ok (.iload_n 2, 1) := by decide +kernel
theorem dX6_thereOf_98 : decode cX6_thereOf 98 = .ok (.ireturn, 1) := by decide +kernel
def p6_thereOf_89 (k4 : Int32 → Int32 → Int32 → SX → Option (Int32 × SX)) (v1 : Int32) (v3 : Int32) (t0 : Int32) (t1 : Int32) (M : SX) : Option (Int32 × SX) :=
  lt_ (t0 + t1) (fun x1 => lt_ (v3 + 1) (fun x2 => k4 v1 x1 x2 M))
set_option maxHeartbeats 4000000 in
set_option maxRecDepth 100000 in
theorem w6_thereOf_89 {G : XG} {p : Program} {l : Launch} {e : Env} {s : State} {m : MethodId} {args : Array Value} {below : List Frame} {meth : Method} {c : Code} (F : Fx G ZY p m c cX6_thereOf 4 s args RX6) (hr : meth.sig.returnType = some .int) (hk : meth.locks = false) {r : Int32} {M' : SX} (k4 : Int32 → Int32 → Int32 → SX → Option (Int32 × SX)) (hk4 : ∀ (v1 : Int32) (v2 : Int32) (v3 : Int32) (M : SX) (H : Heap) (locs : List Loc) (ls : Array Slot), Wld G ZY M s.heap H locs → lv_has ls 4 [(0, .ref (G.2.1 0)), (1, .int v1), (2, .int v2), (3, .int v3)] → k4 v1 v2 v3 M = some (r, M') → WXi G ZY p l e 0 s m args below meth c r M' H locs (F0 m 4 ls [])) : ∀ (v1 : Int32) (v3 : Int32) (t0 : Int32) (t1 : Int32) (M : SX) (H : Heap) (locs : List Loc) (ls : Array Slot), Wld G ZY M s.heap H locs → lv_has ls 4 [(0, .ref (G.2.1 0)), (1, .int v1), (3, .int v3)] → p6_thereOf_89 k4 v1 v3 t0 t1 M = some (r, M') → WXi G ZY p l e 0 s m args below meth c r M' H locs (F0 m 89 ls [.int t1, .int t0]) := by
  intro v1 v3 t0 t1 M H locs ls hw hl hf
  have hx := F.1.1
  have hb := F.1.2.1
  unfold p6_thereOf_89 at hf
  refine lv_iadd hx hb dX6_thereOf_89 ?_
  obtain ⟨x1, ex1, hf⟩ := lt_elim hf
  refine x_let ex1 ?_
  refine lv_istore_n (lv' := [(2, .int x1), (0, .ref (G.2.1 0)), (1, .int v1), (3, .int v3)]) hx hb dX6_thereOf_90 rfl hl (by decide) rfl (fun ls hl => ?_)
  obtain ⟨x2, ex2, hf⟩ := lt_elim hf
  refine lv_iinc (v := x2) (lv' := [(3, .int x2), (2, .int x1), (0, .ref (G.2.1 0)), (1, .int v1)]) hx hb dX6_thereOf_91 hl (k := 3) rfl (by rw [ex2]; rfl) (by decide) rfl (fun ls hl => ?_)
  refine lv_goto (tgt := 4) hx hb dX6_thereOf_94 (by decide) ?_
  exact hk4 v1 x1 x2 M _ _ ls hw (lv_sub hl [2, 3, 1, 0] rfl) hf
def p6_thereOf_88 (k4 : Int32 → Int32 → Int32 → SX → Option (Int32 × SX)) (v1 : Int32) (v3 : Int32) (t0 : Int32) (M : SX) : Option (Int32 × SX) :=
  p6_thereOf_89 k4 v1 v3 t0 0 M
set_option maxHeartbeats 4000000 in
set_option maxRecDepth 100000 in
theorem w6_thereOf_88 {G : XG} {p : Program} {l : Launch} {e : Env} {s : State} {m : MethodId} {args : Array Value} {below : List Frame} {meth : Method} {c : Code} (F : Fx G ZY p m c cX6_thereOf 4 s args RX6) (hr : meth.sig.returnType = some .int) (hk : meth.locks = false) {r : Int32} {M' : SX} (k4 : Int32 → Int32 → Int32 → SX → Option (Int32 × SX)) (hk4 : ∀ (v1 : Int32) (v2 : Int32) (v3 : Int32) (M : SX) (H : Heap) (locs : List Loc) (ls : Array Slot), Wld G ZY M s.heap H locs → lv_has ls 4 [(0, .ref (G.2.1 0)), (1, .int v1), (2, .int v2), (3, .int v3)] → k4 v1 v2 v3 M = some (r, M') → WXi G ZY p l e 0 s m args below meth c r M' H locs (F0 m 4 ls [])) : ∀ (v1 : Int32) (v3 : Int32) (t0 : Int32) (M : SX) (H : Heap) (locs : List Loc) (ls : Array Slot), Wld G ZY M s.heap H locs → lv_has ls 4 [(0, .ref (G.2.1 0)), (1, .int v1), (3, .int v3)] → p6_thereOf_88 k4 v1 v3 t0 M = some (r, M') → WXi G ZY p l e 0 s m args below meth c r M' H locs (F0 m 88 ls [.int t0]) := by
  intro v1 v3 t0 M H locs ls hw hl hf
  have hx := F.1.1
  have hb := F.1.2.1
  unfold p6_thereOf_88 at hf
  refine lv_iconst (v := 0) hx hb dX6_thereOf_88 (by decide) ?_
  exact w6_thereOf_89 F hr hk k4 hk4 v1 v3 t0 0 M _ _ ls hw (lv_sub hl [0, 1, 2] rfl) hf
def p6_thereOf_58 (k4 : Int32 → Int32 → Int32 → SX → Option (Int32 × SX)) (v1 : Int32) (v3 : Int32) (t0 : Int32) (M : SX) : Option (Int32 × SX) :=
  p6_thereOf_89 k4 v1 v3 t0 0 M
set_option maxHeartbeats 4000000 in
set_option maxRecDepth 100000 in
theorem w6_thereOf_58 {G : XG} {p : Program} {l : Launch} {e : Env} {s : State} {m : MethodId} {args : Array Value} {below : List Frame} {meth : Method} {c : Code} (F : Fx G ZY p m c cX6_thereOf 4 s args RX6) (hr : meth.sig.returnType = some .int) (hk : meth.locks = false) {r : Int32} {M' : SX} (k4 : Int32 → Int32 → Int32 → SX → Option (Int32 × SX)) (hk4 : ∀ (v1 : Int32) (v2 : Int32) (v3 : Int32) (M : SX) (H : Heap) (locs : List Loc) (ls : Array Slot), Wld G ZY M s.heap H locs → lv_has ls 4 [(0, .ref (G.2.1 0)), (1, .int v1), (2, .int v2), (3, .int v3)] → k4 v1 v2 v3 M = some (r, M') → WXi G ZY p l e 0 s m args below meth c r M' H locs (F0 m 4 ls [])) : ∀ (v1 : Int32) (v3 : Int32) (t0 : Int32) (M : SX) (H : Heap) (locs : List Loc) (ls : Array Slot), Wld G ZY M s.heap H locs → lv_has ls 4 [(0, .ref (G.2.1 0)), (1, .int v1), (3, .int v3)] → p6_thereOf_58 k4 v1 v3 t0 M = some (r, M') → WXi G ZY p l e 0 s m args below meth c r M' H locs (F0 m 58 ls [.int t0]) := by
  intro v1 v3 t0 M H locs ls hw hl hf
  have hx := F.1.1
  have hb := F.1.2.1
  unfold p6_thereOf_58 at hf
  refine lv_iconst (v := 0) hx hb dX6_thereOf_58 (by decide) ?_
  refine lv_goto (tgt := 89) hx hb dX6_thereOf_59 (by decide) ?_
  exact w6_thereOf_89 F hr hk k4 hk4 v1 v3 t0 0 M _ _ ls hw (lv_sub hl [0, 1, 2] rfl) hf
def p6_thereOf_4 (k4 : Int32 → Int32 → Int32 → SX → Option (Int32 × SX)) (v1 : Int32) (v2 : Int32) (v3 : Int32) (M : SX) : Option (Int32 × SX) :=
  if (6 : Int32) ≤ v3 then (some (v2, M))
  else (if v1 = (6 : Int32) then (gd (bIn v3 6) ( if 0 ≤ (M.1 3 (Int32.toNatClampNeg v3)) then (p6_thereOf_89 k4 v1 v3 v2 1 M)
  else (p6_thereOf_89 k4 v1 v3 v2 0 M)))
  else (if v1 = (7 : Int32) then (if (4 : Int32) ≤ v3 then (p6_thereOf_58 k4 v1 v3 v2 M)
  else (gd (bIn v3 4) ( if (M.1 5 (Int32.toNatClampNeg v3)) < 0 then (p6_thereOf_58 k4 v1 v3 v2 M)
  else (p6_thereOf_89 k4 v1 v3 v2 1 M))))
  else (if (3 : Int32) ≤ v3 then (p6_thereOf_88 k4 v1 v3 v2 M)
  else (gd (bIn ((991 * (1 + v3)) + 0) 3964) ( if (M.1 1 (Int32.toNatClampNeg ((991 * (1 + v3)) + 0))) < 0 then (p6_thereOf_88 k4 v1 v3 v2 M)
  else (p6_thereOf_89 k4 v1 v3 v2 1 M))))))
set_option maxHeartbeats 4000000 in
set_option maxRecDepth 100000 in
theorem w6_thereOf_4 {G : XG} {p : Program} {l : Launch} {e : Env} {s : State} {m : MethodId} {args : Array Value} {below : List Frame} {meth : Method} {c : Code} (F : Fx G ZY p m c cX6_thereOf 4 s args RX6) (hr : meth.sig.returnType = some .int) (hk : meth.locks = false) {r : Int32} {M' : SX} (k4 : Int32 → Int32 → Int32 → SX → Option (Int32 × SX)) (hk4 : ∀ (v1 : Int32) (v2 : Int32) (v3 : Int32) (M : SX) (H : Heap) (locs : List Loc) (ls : Array Slot), Wld G ZY M s.heap H locs → lv_has ls 4 [(0, .ref (G.2.1 0)), (1, .int v1), (2, .int v2), (3, .int v3)] → k4 v1 v2 v3 M = some (r, M') → WXi G ZY p l e 0 s m args below meth c r M' H locs (F0 m 4 ls [])) : ∀ (v1 : Int32) (v2 : Int32) (v3 : Int32) (M : SX) (H : Heap) (locs : List Loc) (ls : Array Slot), Wld G ZY M s.heap H locs → lv_has ls 4 [(0, .ref (G.2.1 0)), (1, .int v1), (2, .int v2), (3, .int v3)] → p6_thereOf_4 k4 v1 v2 v3 M = some (r, M') → WXi G ZY p l e 0 s m args below meth c r M' H locs (F0 m 4 ls []) := by
  intro v1 v2 v3 M H locs ls hw hl hf
  have hx := F.1.1
  have hb := F.1.2.1
  unfold p6_thereOf_4 at hf
  refine lv_iload_n hx hb dX6_thereOf_4 rfl (lv_at hl 3 rfl) ?_
  refine lv_bipush (v := 6) hx hb dX6_thereOf_5 (by decide) ?_
  refine lv_icmp_ge (tgt := 97) hx hb dX6_thereOf_7 (by decide) (fun c1 => ?_) (fun c1 => ?_)
  · have hf := it_t hf c1
    refine lv_iload_n hx hb dX6_thereOf_97 rfl (lv_at hl 2 rfl) ?_
    exact x_iret F hw hr hk hf dX6_thereOf_98
  · have hf := it_f hf c1
    refine lv_iload_n hx hb dX6_thereOf_10 rfl (lv_at hl 2 rfl) ?_
    refine lv_iload_n hx hb dX6_thereOf_11 rfl (lv_at hl 1 rfl) ?_
    refine lv_bipush (v := 6) hx hb dX6_thereOf_12 (by decide) ?_
    refine lv_icmp_ne (tgt := 34) hx hb dX6_thereOf_14 (by decide) (fun c2 => ?_) (fun c2 => ?_)
    · have hf := it_f hf c2
      refine lv_iload_n hx hb dX6_thereOf_34 rfl (lv_at hl 1 rfl) ?_
      refine lv_bipush (v := 7) hx hb dX6_thereOf_35 (by decide) ?_
      refine lv_icmp_ne (tgt := 62) hx hb dX6_thereOf_37 (by decide) (fun c3 => ?_) (fun c3 => ?_)
      · have hf := it_f hf c3
        refine lv_iload_n hx hb dX6_thereOf_62 rfl (lv_at hl 3 rfl) ?_
        refine lv_iconst (v := 3) hx hb dX6_thereOf_63 (by decide) ?_
        refine lv_icmp_ge (tgt := 88) hx hb dX6_thereOf_64 (by decide) (fun c4 => ?_) (fun c4 => ?_)
        · have hf := it_t hf c4
          exact w6_thereOf_88 F hr hk k4 hk4 v1 v3 v2 M _ _ ls hw (lv_sub hl [0, 1, 3] rfl) hf
        · have hf := it_f hf c4
          refine lv_aload_n hx hb dX6_thereOf_67 rfl (lv_at hl 0 rfl) ?_
          refine g6_0 F hw tw_610 dX6_thereOf_68 ?_
          refine lv_sipush (v := 991) hx hb dX6_thereOf_71 (by decide) ?_
          refine lv_iconst (v := 1) hx hb dX6_thereOf_74 (by decide) ?_
          refine lv_iload_n hx hb dX6_thereOf_75 rfl (lv_at hl 3 rfl) ?_
          refine lv_iadd hx hb dX6_thereOf_76 ?_
          refine lv_imul hx hb dX6_thereOf_77 ?_
          refine lv_iconst (v := 0) hx hb dX6_thereOf_78 (by decide) ?_
          refine lv_iadd hx hb dX6_thereOf_79 ?_
          obtain ⟨g5, hf⟩ := gd_some hf
          refine x_iald F hw sM1 g5 dX6_thereOf_80 ?_
          refine lv_if_lt (tgt := 88) hx hb dX6_thereOf_81 (by decide) (fun c6 => ?_) (fun c6 => ?_)
          · have hf := it_t hf c6
            exact w6_thereOf_88 F hr hk k4 hk4 v1 v3 v2 M _ _ ls hw (lv_sub hl [0, 1, 3] rfl) hf
          · have hf := it_f hf c6
            refine lv_iconst (v := 1) hx hb dX6_thereOf_84 (by decide) ?_
            refine lv_goto (tgt := 89) hx hb dX6_thereOf_85 (by decide) ?_
            exact w6_thereOf_89 F hr hk k4 hk4 v1 v3 v2 1 M _ _ ls hw (lv_sub hl [0, 1, 3] rfl) hf
      · have hf := it_t hf c3
        refine lv_iload_n hx hb dX6_thereOf_40 rfl (lv_at hl 3 rfl) ?_
        refine lv_iconst (v := 4) hx hb dX6_thereOf_41 (by decide) ?_
        refine lv_icmp_ge (tgt := 58) hx hb dX6_thereOf_42 (by decide) (fun c7 => ?_) (fun c7 => ?_)
        · have hf := it_t hf c7
          exact w6_thereOf_58 F hr hk k4 hk4 v1 v3 v2 M _ _ ls hw (lv_sub hl [0, 1, 3] rfl) hf
        · have hf := it_f hf c7
          refine lv_aload_n hx hb dX6_thereOf_45 rfl (lv_at hl 0 rfl) ?_
          refine g6_5 F hw tw_615 dX6_thereOf_46 ?_
          refine lv_iload_n hx hb dX6_thereOf_49 rfl (lv_at hl 3 rfl) ?_
          obtain ⟨g8, hf⟩ := gd_some hf
          refine x_iald F hw sM5 g8 dX6_thereOf_50 ?_
          refine lv_if_lt (tgt := 58) hx hb dX6_thereOf_51 (by decide) (fun c9 => ?_) (fun c9 => ?_)
          · have hf := it_t hf c9
            exact w6_thereOf_58 F hr hk k4 hk4 v1 v3 v2 M _ _ ls hw (lv_sub hl [0, 1, 3] rfl) hf
          · have hf := it_f hf c9
            refine lv_iconst (v := 1) hx hb dX6_thereOf_54 (by decide) ?_
            refine lv_goto (tgt := 89) hx hb dX6_thereOf_55 (by decide) ?_
            exact w6_thereOf_89 F hr hk k4 hk4 v1 v3 v2 1 M _ _ ls hw (lv_sub hl [0, 1, 3] rfl) hf
    · have hf := it_t hf c2
      refine lv_aload_n hx hb dX6_thereOf_17 rfl (lv_at hl 0 rfl) ?_
      refine g6_3 F hw tw_606 dX6_thereOf_18 ?_
      refine lv_iload_n hx hb dX6_thereOf_21 rfl (lv_at hl 3 rfl) ?_
      obtain ⟨g10, hf⟩ := gd_some hf
      refine x_iald F hw sM3 g10 dX6_thereOf_22 ?_
      refine lv_if_ge (tgt := 30) hx hb dX6_thereOf_23 (by decide) (fun c11 => ?_) (fun c11 => ?_)
      · have hf := it_t hf c11
        refine lv_iconst (v := 1) hx hb dX6_thereOf_30 (by decide) ?_
        refine lv_goto (tgt := 89) hx hb dX6_thereOf_31 (by decide) ?_
        exact w6_thereOf_89 F hr hk k4 hk4 v1 v3 v2 1 M _ _ ls hw (lv_sub hl [0, 1, 3] rfl) hf
      · have hf := it_f hf c11
        refine lv_iconst (v := 0) hx hb dX6_thereOf_26 (by decide) ?_
        refine lv_goto (tgt := 89) hx hb dX6_thereOf_27 (by decide) ?_
        exact w6_thereOf_89 F hr hk k4 hk4 v1 v3 v2 0 M _ _ ls hw (lv_sub hl [0, 1, 3] rfl) hf
theorem z6_thereOf_4 {G : XG} {p : Program} {l : Launch} {e : Env} {s : State} {m : MethodId} {args : Array Value} {below : List Frame} {meth : Method} {c : Code} (F : Fx G ZY p m c cX6_thereOf 4 s args RX6) (hr : meth.sig.returnType = some .int) (hk : meth.locks = false) {r : Int32} {M' : SX} : ∀ n : Nat, ∀ (v1 : Int32) (v2 : Int32) (v3 : Int32) (M : SX) (H : Heap) (locs : List Loc) (ls : Array Slot), Wld G ZY M s.heap H locs → lv_has ls 4 [(0, .ref (G.2.1 0)), (1, .int v1), (2, .int v2), (3, .int v3)] → xlp3 p6_thereOf_4 n v1 v2 v3 M = some (r, M') → WXi G ZY p l e 0 s m args below meth c r M' H locs (F0 m 4 ls []) := by
  intro n
  induction n with
  | zero => intro _ _ _ _ _ _ _ _ _ hf; cases hf
  | succ n ih => exact w6_thereOf_4 F hr hk (xlp3 p6_thereOf_4 n) ih
def p6_thereOf (a1 : Int32) (M : SX) : Option (Int32 × SX) :=
  xlp3 p6_thereOf_4 FU a1 0 0 M
set_option maxHeartbeats 4000000 in
set_option maxRecDepth 100000 in
theorem c6_thereOf {l : Launch} {G : XG} {r : Int32} {M' : SX} {M : SX} (a1 : Int32) (hf : p6_thereOf a1 M = some (r, M')) : Met l yX6_thereOf (.code yX6_thereOf cX6_thereOf 4 (some .int) :: TBL) (rmX 0) (xPc G ZY M [.ref (G.2.1 0), .int a1]) (xQi G ZY r M') 0 0 (inA G ZY) := by
  refine x_met (cc := cX6_thereOf) (by decide) (Nat.le_of_ble_eq_true rfl) ?_
  intro p e s m below meth c ls F hr hk hl hw
  have F : Fx G ZY p m c cX6_thereOf 4 s [.ref (G.2.1 0), .int a1].toArray RX6 := F
  have hl : lv_has ls 4 [(0, .ref (G.2.1 0)), (1, .int a1)] := hl
  have hx := F.1.1
  have hb := F.1.2.1
  unfold p6_thereOf at hf
  refine lv_iconst (v := 0) hx hb dX6_thereOf_0 (by decide) ?_
  refine lv_istore_n (lv' := [(2, .int 0), (0, .ref (G.2.1 0)), (1, .int a1)]) hx hb dX6_thereOf_1 rfl hl (by decide) rfl (fun ls hl => ?_)
  refine lv_iconst (v := 0) hx hb dX6_thereOf_2 (by decide) ?_
  refine lv_istore_n (lv' := [(3, .int 0), (2, .int 0), (0, .ref (G.2.1 0)), (1, .int a1)]) hx hb dX6_thereOf_3 rfl hl (by decide) rfl (fun ls hl => ?_)
  exact z6_thereOf_4 F hr hk FU a1 0 0 M _ _ ls hw (lv_sub hl [2, 3, 1, 0] rfl) hf
theorem dX6_finding_0 : decode cX6_finding 0 = .ok (.aload_n 0, 1) := by decide +kernel
theorem dX6_finding_1 : decode cX6_finding 1 = .ok (.getfield 60, 3) := by decide +kernel
theorem dX6_finding_4 : decode cX6_finding 4 = .ok (.ireturn, 1) := by decide +kernel
def p6_finding (M : SX) : Option (Int32 × SX) :=
  some (M.1 0 10, M)
set_option maxHeartbeats 4000000 in
set_option maxRecDepth 100000 in
theorem c6_finding {l : Launch} {G : XG} {r : Int32} {M' : SX} {M : SX} (hf : p6_finding M = some (r, M')) : Met l yX6_finding (.code yX6_finding cX6_finding 1 (some .int) :: TBL) (rmX 0) (xPc G ZY M [.ref (G.2.1 0)]) (xQi G ZY r M') 0 0 (inA G ZY) := by
  refine x_met (cc := cX6_finding) (by decide) (Nat.le_of_ble_eq_true rfl) ?_
  intro p e s m below meth c ls F hr hk hl hw
  have F : Fx G ZY p m c cX6_finding 1 s [.ref (G.2.1 0)].toArray RX6 := F
  have hl : lv_has ls 1 [(0, .ref (G.2.1 0))] := hl
  have hx := F.1.1
  have hb := F.1.2.1
  unfold p6_finding at hf
  refine lv_aload_n hx hb dX6_finding_0 rfl (lv_at hl 0 rfl) ?_
  refine g6_10 F hw tw_602 dX6_finding_1 ?_
  exact x_iret F hw hr hk hf dX6_finding_4
theorem dX6_isRow_0 : decode cX6_isRow 0 = .ok (.iload_n 0, 1) := by decide +kernel
theorem dX6_isRow_1 : decode cX6_isRow 1 = .ok (.i2l, 1) := by decide +kernel
theorem dX6_isRow_2 : decode cX6_isRow 2 = .ok (.lconst 0, 1) := by decide +kernel
theorem dX6_isRow_3 : decode cX6_isRow 3 = .ok (.ldc2_w 67, 3) := by decide +kernel
theorem dX6_isRow_6 : decode cX6_isRow 6 = .ok (.invokestatic 69, 3) := by decide +kernel
theorem dX6_isRow_9 : decode cX6_isRow 9 = .ok (.ireturn, 1) := by decide +kernel
def p6_isRow (a1 : Int32) (M : SX) : Option (Int32 × SX) :=
  bd (p6_in (Int32.toInt64 a1) 0 5 M) (fun r3 M2 => gd (isB r3) ( some (r3, M2)))
set_option maxHeartbeats 4000000 in
set_option maxRecDepth 100000 in
theorem c6_isRow {l : Launch} {G : XG} {r : Int32} {M' : SX} {M : SX} (a1 : Int32) (hf : p6_isRow a1 M = some (r, M')) : Met l yX6_isRow (.code yX6_isRow cX6_isRow 1 (some .boolean) :: TBL) (rmX 1) (xPc G ZY M [.int a1]) (xQi G ZY r M') 0 0 (inA G ZY) := by
  refine x_met (cc := cX6_isRow) (by decide) (Nat.le_of_ble_eq_true rfl) ?_
  intro p e s m below meth c ls F hr hk hl hw
  have F : Fx G ZY p m c cX6_isRow 1 s [.int a1].toArray RX6 := F
  have hl : lv_has ls 1 [(0, .int a1)] := hl
  have hx := F.1.1
  have hb := F.1.2.1
  unfold p6_isRow at hf
  refine lv_iload_n hx hb dX6_isRow_0 rfl (lv_at hl 0 rfl) ?_
  refine lv_i2l (v := Int32.toInt64 a1) hx hb dX6_isRow_1 rfl ?_
  refine lv_lconst (v := 0) hx hb dX6_isRow_2 (by decide) ?_
  refine lv_ldc2 (v := 5) hx hb F.1.2.2.2.1 (F.1.2.2.2.2 _ tw_616) dX6_isRow_3 ?_
  obtain ⟨r3, M2, hc1, hf⟩ := bd_some hf
  refine x_aftI hw (x_runS (rest := []) F hw hl.1 sw_RX6_69 (c6_in (Int32.toInt64 a1) 0 5 hc1) rfl rfl (Nat.le_of_ble_eq_true rfl) ⟨Nat.le_of_ble_eq_true rfl, Nat.le_of_ble_eq_true rfl⟩ dX6_isRow_6) (fun H locs hw => ?_)
  obtain ⟨g4, hf⟩ := gd_some hf
  exact x_zret F hw hr hk (isB_nar g4) hf dX6_isRow_9
theorem dX6_isText_0 : decode cX6_isText 0 = .ok (.iload_n 0, 1) := by decide +kernel
theorem dX6_isText_1 : decode cX6_isText 1 = .ok (.i2l, 1) := by decide +kernel
theorem dX6_isText_2 : decode cX6_isText 2 = .ok (.lconst 0, 1) := by decide +kernel
theorem dX6_isText_3 : decode cX6_isText 3 = .ok (.ldc2_w 73, 3) := by decide +kernel
theorem dX6_isText_6 : decode cX6_isText 6 = .ok (.invokestatic 69, 3) := by decide +kernel
theorem dX6_isText_9 : decode cX6_isText 9 = .ok (.ireturn, 1) := by decide +kernel
def p6_isText (a1 : Int32) (M : SX) : Option (Int32 × SX) :=
  bd (p6_in (Int32.toInt64 a1) 0 3 M) (fun r3 M2 => gd (isB r3) ( some (r3, M2)))
set_option maxHeartbeats 4000000 in
set_option maxRecDepth 100000 in
theorem c6_isText {l : Launch} {G : XG} {r : Int32} {M' : SX} {M : SX} (a1 : Int32) (hf : p6_isText a1 M = some (r, M')) : Met l yX6_isText (.code yX6_isText cX6_isText 1 (some .boolean) :: TBL) (rmX 1) (xPc G ZY M [.int a1]) (xQi G ZY r M') 0 0 (inA G ZY) := by
  refine x_met (cc := cX6_isText) (by decide) (Nat.le_of_ble_eq_true rfl) ?_
  intro p e s m below meth c ls F hr hk hl hw
  have F : Fx G ZY p m c cX6_isText 1 s [.int a1].toArray RX6 := F
  have hl : lv_has ls 1 [(0, .int a1)] := hl
  have hx := F.1.1
  have hb := F.1.2.1
  unfold p6_isText at hf
  refine lv_iload_n hx hb dX6_isText_0 rfl (lv_at hl 0 rfl) ?_
  refine lv_i2l (v := Int32.toInt64 a1) hx hb dX6_isText_1 rfl ?_
  refine lv_lconst (v := 0) hx hb dX6_isText_2 (by decide) ?_
  refine lv_ldc2 (v := 3) hx hb F.1.2.2.2.1 (F.1.2.2.2.2 _ tw_622) dX6_isText_3 ?_
  obtain ⟨r3, M2, hc1, hf⟩ := bd_some hf
  refine x_aftI hw (x_runS (rest := []) F hw hl.1 sw_RX6_69 (c6_in (Int32.toInt64 a1) 0 3 hc1) rfl rfl (Nat.le_of_ble_eq_true rfl) ⟨Nat.le_of_ble_eq_true rfl, Nat.le_of_ble_eq_true rfl⟩ dX6_isText_6) (fun H locs hw => ?_)
  obtain ⟨g4, hf⟩ := gd_some hf
  exact x_zret F hw hr hk (isB_nar g4) hf dX6_isText_9
theorem dX6_skip_0 : decode cX6_skip 0 = .ok (.aload_n 0, 1) := by decide +kernel
theorem dX6_skip_1 : decode cX6_skip 1 = .ok (.getfield 104, 3) := by decide +kernel
theorem dX6_skip_4 : decode cX6_skip 4 = .ok (.aload_n 0, 1) := by decide +kernel
theorem dX6_skip_5 : decode cX6_skip 5 = .ok (.getfield 107, 3) := by decide +kernel
theorem dX6_skip_8 : decode cX6_skip 8 = .ok (.if_icmp .ge 25, 3) := by decide +kernel
theorem dX6_skip_11 : decode cX6_skip 11 = .ok (.aload_n 0, 1) := by decide +kernel
theorem dX6_skip_12 : decode cX6_skip 12 = .ok (.invokevirtual 110, 3) := by decide +kernel
theorem dX6_skip_15 : decode cX6_skip 15 = .ok (.bipush 32, 2) := by decide +kernel
theorem dX6_skip_17 : decode cX6_skip 17 = .ok (.if_icmp .ne 16, 3) := by decide +kernel
theorem dX6_skip_20 : decode cX6_skip 20 = .ok (.aload_n 0, 1) := by decide +kernel
theorem dX6_skip_21 : decode cX6_skip 21 = .ok (.dup, 1) := by decide +kernel
theorem dX6_skip_22 : decode cX6_skip 22 = .ok (.getfield 104, 3) := by decide +kernel
theorem dX6_skip_25 : decode cX6_skip 25 = .ok (.iconst 1, 1) := by decide +kernel
theorem dX6_skip_26 : decode cX6_skip 26 = .ok (.iadd, 1) := by decide +kernel
theorem dX6_skip_27 : decode cX6_skip 27 = .ok (.putfield 104, 3) := by decide +kernel
theorem dX6_skip_30 : decode cX6_skip 30 = .ok (.goto (-30), 3) := by decide +kernel
theorem dX6_skip_33 : decode cX6_skip 33 = .ok (.return_, 1) := by decide +kernel
def p6_skip_0 (k0 : SX → Option SX) (M : SX) : Option SX :=
  if (M.1 0 14) ≤ (M.1 0 13) then (some M)
  else (bd (p6_here M) (fun r4 M3 => if r4 = (32 : Int32) then (lt_ (wI M3 0 13 ((M3.1 0 13) + 1)) (fun M6 => k0 M6))
  else (some M3)))
set_option maxHeartbeats 4000000 in
set_option maxRecDepth 100000 in
theorem w6_skip_0 {G : XG} {p : Program} {l : Launch} {e : Env} {s : State} {m : MethodId} {args : Array Value} {below : List Frame} {meth : Method} {c : Code} (F : Fx G ZY p m c cX6_skip 1 s args RX6) (hr : meth.sig.returnType = none) (hk : meth.locks = false) {M' : SX} (k0 : SX → Option SX) (hk0 : ∀ (M : SX) (H : Heap) (locs : List Loc) (ls : Array Slot), Wld G ZY M s.heap H locs → lv_has ls 1 [(0, .ref (G.2.1 0))] → k0 M = some M' → WXv G ZY p l e 1 s m args below meth c M' H locs (F0 m 0 ls [])) : ∀ (M : SX) (H : Heap) (locs : List Loc) (ls : Array Slot), Wld G ZY M s.heap H locs → lv_has ls 1 [(0, .ref (G.2.1 0))] → p6_skip_0 k0 M = some M' → WXv G ZY p l e 1 s m args below meth c M' H locs (F0 m 0 ls []) := by
  intro M H locs ls hw hl hf
  have hx := F.1.1
  have hb := F.1.2.1
  unfold p6_skip_0 at hf
  refine lv_aload_n hx hb dX6_skip_0 rfl (lv_at hl 0 rfl) ?_
  refine g6_13 F hw tw_609 dX6_skip_1 ?_
  refine lv_aload_n hx hb dX6_skip_4 rfl (lv_at hl 0 rfl) ?_
  refine g6_14 F hw tw_623 dX6_skip_5 ?_
  refine lv_icmp_ge (tgt := 33) hx hb dX6_skip_8 (by decide) (fun c1 => ?_) (fun c1 => ?_)
  · have hf := it_t hf c1
    exact x_vret F hw hr hk hf dX6_skip_33
  · have hf := it_f hf c1
    refine lv_aload_n hx hb dX6_skip_11 rfl (lv_at hl 0 rfl) ?_
    obtain ⟨r4, M3, hc2, hf⟩ := bd_some hf
    refine x_aftI hw (x_runV (rest := []) F hw hl.1 vw_RX6_110 (sM) rfl (c6_here hc2) rfl rfl (Nat.le_of_ble_eq_true rfl) ⟨Nat.le_of_ble_eq_true rfl, Nat.le_of_ble_eq_true rfl⟩ dX6_skip_12) (fun H locs hw => ?_)
    refine lv_bipush (v := 32) hx hb dX6_skip_15 (by decide) ?_
    refine lv_icmp_ne (tgt := 33) hx hb dX6_skip_17 (by decide) (fun c5 => ?_) (fun c5 => ?_)
    · have hf := it_f hf c5
      exact x_vret F hw hr hk hf dX6_skip_33
    · have hf := it_t hf c5
      refine lv_aload_n hx hb dX6_skip_20 rfl (lv_at hl 0 rfl) ?_
      refine lv_dup hx hb dX6_skip_21 rfl ?_
      refine g6_13 F hw tw_609 dX6_skip_22 ?_
      refine lv_iconst (v := 1) hx hb dX6_skip_25 (by decide) ?_
      refine lv_iadd hx hb dX6_skip_26 ?_
      refine s6_13 F hw tw_609 dX6_skip_27 (fun H locs hw => ?_)
      obtain ⟨M6, eM6, hf⟩ := lt_elim hf
      rw [← eM6] at hw
      refine lv_goto (tgt := 0) hx hb dX6_skip_30 (by decide) ?_
      exact hk0 M6 _ _ ls hw (lv_sub hl [0] rfl) hf
theorem z6_skip_0 {G : XG} {p : Program} {l : Launch} {e : Env} {s : State} {m : MethodId} {args : Array Value} {below : List Frame} {meth : Method} {c : Code} (F : Fx G ZY p m c cX6_skip 1 s args RX6) (hr : meth.sig.returnType = none) (hk : meth.locks = false) {M' : SX} : ∀ n : Nat, ∀ (M : SX) (H : Heap) (locs : List Loc) (ls : Array Slot), Wld G ZY M s.heap H locs → lv_has ls 1 [(0, .ref (G.2.1 0))] → xlp0 p6_skip_0 n M = some M' → WXv G ZY p l e 1 s m args below meth c M' H locs (F0 m 0 ls []) := by
  intro n
  induction n with
  | zero => intro _ _ _ _ _ _ hf; cases hf
  | succ n ih => exact w6_skip_0 F hr hk (xlp0 p6_skip_0 n) ih
def p6_skip (M : SX) : Option SX :=
  if (M.1 0 14) ≤ (M.1 0 13) then (some M)
  else (bd (p6_here M) (fun r4 M3 => if r4 = (32 : Int32) then (lt_ (wI M3 0 13 ((M3.1 0 13) + 1)) (fun M6 => xlp0 p6_skip_0 FU M6))
  else (some M3)))
set_option maxHeartbeats 4000000 in
set_option maxRecDepth 100000 in
theorem c6_skip {l : Launch} {G : XG} {M' : SX} {M : SX} (hf : p6_skip M = some M') : Met l yX6_skip (.code yX6_skip cX6_skip 1 none :: TBL) (rmX 1) (xPc G ZY M [.ref (G.2.1 0)]) (xQv G ZY M') 0 0 (inA G ZY) := by
  refine x_met (cc := cX6_skip) (by decide) (Nat.le_of_ble_eq_true rfl) ?_
  intro p e s m below meth c ls F hr hk hl hw
  have F : Fx G ZY p m c cX6_skip 1 s [.ref (G.2.1 0)].toArray RX6 := F
  have hl : lv_has ls 1 [(0, .ref (G.2.1 0))] := hl
  have hx := F.1.1
  have hb := F.1.2.1
  unfold p6_skip at hf
  refine lv_aload_n hx hb dX6_skip_0 rfl (lv_at hl 0 rfl) ?_
  refine g6_13 F hw tw_609 dX6_skip_1 ?_
  refine lv_aload_n hx hb dX6_skip_4 rfl (lv_at hl 0 rfl) ?_
  refine g6_14 F hw tw_623 dX6_skip_5 ?_
  refine lv_icmp_ge (tgt := 33) hx hb dX6_skip_8 (by decide) (fun c1 => ?_) (fun c1 => ?_)
  · have hf := it_t hf c1
    exact x_vret F hw hr hk hf dX6_skip_33
  · have hf := it_f hf c1
    refine lv_aload_n hx hb dX6_skip_11 rfl (lv_at hl 0 rfl) ?_
    obtain ⟨r4, M3, hc2, hf⟩ := bd_some hf
    refine x_aftI hw (x_runV (rest := []) F hw hl.1 vw_RX6_110 (sM) rfl (c6_here hc2) rfl rfl (Nat.le_of_ble_eq_true rfl) ⟨Nat.le_of_ble_eq_true rfl, Nat.le_of_ble_eq_true rfl⟩ dX6_skip_12) (fun H locs hw => ?_)
    refine lv_bipush (v := 32) hx hb dX6_skip_15 (by decide) ?_
    refine lv_icmp_ne (tgt := 33) hx hb dX6_skip_17 (by decide) (fun c5 => ?_) (fun c5 => ?_)
    · have hf := it_f hf c5
      exact x_vret F hw hr hk hf dX6_skip_33
    · have hf := it_t hf c5
      refine lv_aload_n hx hb dX6_skip_20 rfl (lv_at hl 0 rfl) ?_
      refine lv_dup hx hb dX6_skip_21 rfl ?_
      refine g6_13 F hw tw_609 dX6_skip_22 ?_
      refine lv_iconst (v := 1) hx hb dX6_skip_25 (by decide) ?_
      refine lv_iadd hx hb dX6_skip_26 ?_
      refine s6_13 F hw tw_609 dX6_skip_27 (fun H locs hw => ?_)
      obtain ⟨M6, eM6, hf⟩ := lt_elim hf
      rw [← eM6] at hw
      refine lv_goto (tgt := 0) hx hb dX6_skip_30 (by decide) ?_
      exact z6_skip_0 F hr hk FU M6 _ _ ls hw (lv_sub hl [0] rfl) hf
theorem dX6_figure_0 : decode cX6_figure 0 = .ok (.aload_n 0, 1) := by decide +kernel
theorem dX6_figure_1 : decode cX6_figure 1 = .ok (.getfield 104, 3) := by decide +kernel
theorem dX6_figure_4 : decode cX6_figure 4 = .ok (.aload_n 0, 1) := by decide +kernel
theorem dX6_figure_5 : decode cX6_figure 5 = .ok (.getfield 107, 3) := by decide +kernel
theorem dX6_figure_8 : decode cX6_figure 8 = .ok (.if_icmp .eq 35, 3) := by decide +kernel
theorem dX6_figure_11 : decode cX6_figure 11 = .ok (.aload_n 0, 1) := by decide +kernel
theorem dX6_figure_12 : decode cX6_figure 12 = .ok (.invokevirtual 110, 3) := by decide +kernel
theorem dX6_figure_15 : decode cX6_figure 15 = .ok (.i2l, 1) := by decide +kernel
theorem dX6_figure_16 : decode cX6_figure 16 = .ok (.bipush 48, 2) := by decide +kernel
theorem dX6_figure_18 : decode cX6_figure 18 = .ok (.iload_n 1, 1) := by decide +kernel
theorem dX6_figure_19 : decode cX6_figure 19 = .ok (.iadd, 1) := by decide +kernel
theorem dX6_figure_20 : decode cX6_figure 20 = .ok (.i2l, 1) := by decide +kernel
theorem dX6_figure_21 : decode cX6_figure 21 = .ok (.bipush 48, 2) := by decide +kernel
theorem dX6_figure_23 : decode cX6_figure 23 = .ok (.iload_n 2, 1) := by decide +kernel
theorem dX6_figure_24 : decode cX6_figure 24 = .ok (.iadd, 1) := by decide +kernel
theorem dX6_figure_25 : decode cX6_figure 25 = .ok (.i2l, 1) := by decide +kernel
theorem dX6_figure_26 : decode cX6_figure 26 = .ok (.invokestatic 69, 3) := by decide +kernel
theorem dX6_figure_29 : decode cX6_figure 29 = .ok (.ifCond .eq 14, 3) := by decide +kernel
theorem dX6_figure_32 : decode cX6_figure 32 = .ok (.aload_n 0, 1) := by decide +kernel
theorem dX6_figure_33 : decode cX6_figure 33 = .ok (.invokevirtual 110, 3) := by decide +kernel
theorem dX6_figure_36 : decode cX6_figure 36 = .ok (.bipush 48, 2) := by decide +kernel
theorem dX6_figure_38 : decode cX6_figure 38 = .ok (.isub, 1) := by decide +kernel
theorem dX6_figure_39 : decode cX6_figure 39 = .ok (.iload_n 3, 1) := by decide +kernel
theorem dX6_figure_40 : decode cX6_figure 40 = .ok (.if_icmp .ne 6, 3) := by decide +kernel
theorem dX6_figure_43 : decode cX6_figure 43 = .ok (.bipush (-9), 2) := by decide +kernel
theorem dX6_figure_45 : decode cX6_figure 45 = .ok (.ireturn, 1) := by decide +kernel
theorem dX6_figure_46 : decode cX6_figure 46 = .ok (.aload_n 0, 1) := by decide +kernel
theorem dX6_figure_47 : decode cX6_figure 47 = .ok (.dup, 1) := by decide +kernel
theorem dX6_figure_48 : decode cX6_figure 48 = .ok (.getfield 104, 3) := by decide +kernel
theorem dX6_figure_51 : decode cX6_figure 51 = .ok (.iconst 1, 1) := by decide +kernel
theorem dX6_figure_52 : decode cX6_figure 52 = .ok (.iadd, 1) := by decide +kernel
theorem dX6_figure_53 : decode cX6_figure 53 = .ok (.putfield 104, 3) := by decide +kernel
theorem dX6_figure_56 : decode cX6_figure 56 = .ok (.aload_n 0, 1) := by decide +kernel
theorem dX6_figure_57 : decode cX6_figure 57 = .ok (.getfield 25, 3) := by decide +kernel
theorem dX6_figure_60 : decode cX6_figure 60 = .ok (.aload_n 0, 1) := by decide +kernel
theorem dX6_figure_61 : decode cX6_figure 61 = .ok (.getfield 101, 3) := by decide +kernel
theorem dX6_figure_64 : decode cX6_figure 64 = .ok (.aload_n 0, 1) := by decide +kernel
theorem dX6_figure_65 : decode cX6_figure 65 = .ok (.getfield 104, 3) := by decide +kernel
theorem dX6_figure_68 : decode cX6_figure 68 = .ok (.iadd, 1) := by decide +kernel
theorem dX6_figure_69 : decode cX6_figure 69 = .ok (.iconst 1, 1) := by decide +kernel
theorem dX6_figure_70 : decode cX6_figure 70 = .ok (.isub, 1) := by decide +kernel
theorem dX6_figure_71 : decode cX6_figure 71 = .ok (.iaload, 1) := by decide +kernel
theorem dX6_figure_72 : decode cX6_figure 72 = .ok (.bipush 48, 2) := by decide +kernel
theorem dX6_figure_74 : decode cX6_figure 74 = .ok (.isub, 1) := by decide +kernel
theorem dX6_figure_75 : decode cX6_figure 75 = .ok (.ireturn, 1) := by decide +kernel
def p6_figure (a1 : Int32) (a2 : Int32) (a3 : Int32) (M : SX) : Option (Int32 × SX) :=
  if (M.1 0 13) = (M.1 0 14) then (some ((-9), M))
  else (bd (p6_here M) (fun r4 M3 => bd (p6_in (Int32.toInt64 r4) (Int32.toInt64 (48 + a1)) (Int32.toInt64 (48 + a2)) M3) (fun r7 M6 => if r7 = 0 then (some ((-9), M6))
  else (bd (p6_here M6) (fun r11 M10 => if (r11 - 48) = a3 then (some ((-9), M10))
  else (lt_ (wI M10 0 13 ((M10.1 0 13) + 1)) (fun M13 => gd (bIn (((M13.1 0 12) + (M13.1 0 13)) - 1) 240) ( some ((M13.1 6 (Int32.toNatClampNeg (((M13.1 0 12) + (M13.1 0 13)) - 1))) - 48, M13)))))))))
set_option maxHeartbeats 4000000 in
set_option maxRecDepth 100000 in
theorem c6_figure {l : Launch} {G : XG} {r : Int32} {M' : SX} {M : SX} (a1 : Int32) (a2 : Int32) (a3 : Int32) (hf : p6_figure a1 a2 a3 M = some (r, M')) : Met l yX6_figure (.code yX6_figure cX6_figure 4 (some .int) :: TBL) (rmX 1) (xPc G ZY M [.ref (G.2.1 0), .int a1, .int a2, .int a3]) (xQi G ZY r M') 0 0 (inA G ZY) := by
  refine x_met (cc := cX6_figure) (by decide) (Nat.le_of_ble_eq_true rfl) ?_
  intro p e s m below meth c ls F hr hk hl hw
  have F : Fx G ZY p m c cX6_figure 4 s [.ref (G.2.1 0), .int a1, .int a2, .int a3].toArray RX6 := F
  have hl : lv_has ls 4 [(0, .ref (G.2.1 0)), (1, .int a1), (2, .int a2), (3, .int a3)] := hl
  have hx := F.1.1
  have hb := F.1.2.1
  unfold p6_figure at hf
  refine lv_aload_n hx hb dX6_figure_0 rfl (lv_at hl 0 rfl) ?_
  refine g6_13 F hw tw_609 dX6_figure_1 ?_
  refine lv_aload_n hx hb dX6_figure_4 rfl (lv_at hl 0 rfl) ?_
  refine g6_14 F hw tw_623 dX6_figure_5 ?_
  refine lv_icmp_eq (tgt := 43) hx hb dX6_figure_8 (by decide) (fun c1 => ?_) (fun c1 => ?_)
  · have hf := it_t hf c1
    refine lv_bipush (v := (-9)) hx hb dX6_figure_43 (by decide) ?_
    exact x_iret F hw hr hk hf dX6_figure_45
  · have hf := it_f hf c1
    refine lv_aload_n hx hb dX6_figure_11 rfl (lv_at hl 0 rfl) ?_
    obtain ⟨r4, M3, hc2, hf⟩ := bd_some hf
    refine x_aftI hw (x_runV (rest := []) F hw hl.1 vw_RX6_110 (sM) rfl (c6_here hc2) rfl rfl (Nat.le_of_ble_eq_true rfl) ⟨Nat.le_of_ble_eq_true rfl, Nat.le_of_ble_eq_true rfl⟩ dX6_figure_12) (fun H locs hw => ?_)
    refine lv_i2l (v := Int32.toInt64 r4) hx hb dX6_figure_15 rfl ?_
    refine lv_bipush (v := 48) hx hb dX6_figure_16 (by decide) ?_
    refine lv_iload_n hx hb dX6_figure_18 rfl (lv_at hl 1 rfl) ?_
    refine lv_iadd hx hb dX6_figure_19 ?_
    refine lv_i2l (v := Int32.toInt64 (48 + a1)) hx hb dX6_figure_20 rfl ?_
    refine lv_bipush (v := 48) hx hb dX6_figure_21 (by decide) ?_
    refine lv_iload_n hx hb dX6_figure_23 rfl (lv_at hl 2 rfl) ?_
    refine lv_iadd hx hb dX6_figure_24 ?_
    refine lv_i2l (v := Int32.toInt64 (48 + a2)) hx hb dX6_figure_25 rfl ?_
    obtain ⟨r7, M6, hc5, hf⟩ := bd_some hf
    refine x_aftI hw (x_runS (rest := []) F hw hl.1 sw_RX6_69 (c6_in (Int32.toInt64 r4) (Int32.toInt64 (48 + a1)) (Int32.toInt64 (48 + a2)) hc5) rfl rfl (Nat.le_of_ble_eq_true rfl) ⟨Nat.le_of_ble_eq_true rfl, Nat.le_of_ble_eq_true rfl⟩ dX6_figure_26) (fun H locs hw => ?_)
    refine lv_if_eq (tgt := 43) hx hb dX6_figure_29 (by decide) (fun c8 => ?_) (fun c8 => ?_)
    · have hf := it_t hf c8
      refine lv_bipush (v := (-9)) hx hb dX6_figure_43 (by decide) ?_
      exact x_iret F hw hr hk hf dX6_figure_45
    · have hf := it_f hf c8
      refine lv_aload_n hx hb dX6_figure_32 rfl (lv_at hl 0 rfl) ?_
      obtain ⟨r11, M10, hc9, hf⟩ := bd_some hf
      refine x_aftI hw (x_runV (rest := []) F hw hl.1 vw_RX6_110 (sM) rfl (c6_here hc9) rfl rfl (Nat.le_of_ble_eq_true rfl) ⟨Nat.le_of_ble_eq_true rfl, Nat.le_of_ble_eq_true rfl⟩ dX6_figure_33) (fun H locs hw => ?_)
      refine lv_bipush (v := 48) hx hb dX6_figure_36 (by decide) ?_
      refine lv_isub hx hb dX6_figure_38 ?_
      refine lv_iload_n hx hb dX6_figure_39 rfl (lv_at hl 3 rfl) ?_
      refine lv_icmp_ne (tgt := 46) hx hb dX6_figure_40 (by decide) (fun c12 => ?_) (fun c12 => ?_)
      · have hf := it_f hf c12
        refine lv_aload_n hx hb dX6_figure_46 rfl (lv_at hl 0 rfl) ?_
        refine lv_dup hx hb dX6_figure_47 rfl ?_
        refine g6_13 F hw tw_609 dX6_figure_48 ?_
        refine lv_iconst (v := 1) hx hb dX6_figure_51 (by decide) ?_
        refine lv_iadd hx hb dX6_figure_52 ?_
        refine s6_13 F hw tw_609 dX6_figure_53 (fun H locs hw => ?_)
        obtain ⟨M13, eM13, hf⟩ := lt_elim hf
        rw [← eM13] at hw
        refine lv_aload_n hx hb dX6_figure_56 rfl (lv_at hl 0 rfl) ?_
        refine g6_6 F hw tw_607 dX6_figure_57 ?_
        refine lv_aload_n hx hb dX6_figure_60 rfl (lv_at hl 0 rfl) ?_
        refine g6_12 F hw tw_608 dX6_figure_61 ?_
        refine lv_aload_n hx hb dX6_figure_64 rfl (lv_at hl 0 rfl) ?_
        refine g6_13 F hw tw_609 dX6_figure_65 ?_
        refine lv_iadd hx hb dX6_figure_68 ?_
        refine lv_iconst (v := 1) hx hb dX6_figure_69 (by decide) ?_
        refine lv_isub hx hb dX6_figure_70 ?_
        obtain ⟨g14, hf⟩ := gd_some hf
        refine x_iald F hw sM6 g14 dX6_figure_71 ?_
        refine lv_bipush (v := 48) hx hb dX6_figure_72 (by decide) ?_
        refine lv_isub hx hb dX6_figure_74 ?_
        exact x_iret F hw hr hk hf dX6_figure_75
      · have hf := it_t hf c12
        refine lv_bipush (v := (-9)) hx hb dX6_figure_43 (by decide) ?_
        exact x_iret F hw hr hk hf dX6_figure_45
theorem dX6_isShop_0 : decode cX6_isShop 0 = .ok (.iload_n 1, 1) := by decide +kernel
theorem dX6_isShop_1 : decode cX6_isShop 1 = .ok (.i2l, 1) := by decide +kernel
theorem dX6_isShop_2 : decode cX6_isShop 2 = .ok (.lconst 0, 1) := by decide +kernel
theorem dX6_isShop_3 : decode cX6_isShop 3 = .ok (.aload_n 0, 1) := by decide +kernel
theorem dX6_isShop_4 : decode cX6_isShop 4 = .ok (.getfield 140, 3) := by decide +kernel
theorem dX6_isShop_7 : decode cX6_isShop 7 = .ok (.iconst 1, 1) := by decide +kernel
theorem dX6_isShop_8 : decode cX6_isShop 8 = .ok (.isub, 1) := by decide +kernel
theorem dX6_isShop_9 : decode cX6_isShop 9 = .ok (.i2l, 1) := by decide +kernel
theorem dX6_isShop_10 : decode cX6_isShop 10 = .ok (.invokestatic 69, 3) := by decide +kernel
theorem dX6_isShop_13 : decode cX6_isShop 13 = .ok (.ireturn, 1) := by decide +kernel
def p6_isShop (a1 : Int32) (M : SX) : Option (Int32 × SX) :=
  bd (p6_in (Int32.toInt64 a1) 0 (Int32.toInt64 ((M.1 0 1) - 1)) M) (fun r3 M2 => gd (isB r3) ( some (r3, M2)))
set_option maxHeartbeats 4000000 in
set_option maxRecDepth 100000 in
theorem c6_isShop {l : Launch} {G : XG} {r : Int32} {M' : SX} {M : SX} (a1 : Int32) (hf : p6_isShop a1 M = some (r, M')) : Met l yX6_isShop (.code yX6_isShop cX6_isShop 2 (some .boolean) :: TBL) (rmX 1) (xPc G ZY M [.ref (G.2.1 0), .int a1]) (xQi G ZY r M') 0 0 (inA G ZY) := by
  refine x_met (cc := cX6_isShop) (by decide) (Nat.le_of_ble_eq_true rfl) ?_
  intro p e s m below meth c ls F hr hk hl hw
  have F : Fx G ZY p m c cX6_isShop 2 s [.ref (G.2.1 0), .int a1].toArray RX6 := F
  have hl : lv_has ls 2 [(0, .ref (G.2.1 0)), (1, .int a1)] := hl
  have hx := F.1.1
  have hb := F.1.2.1
  unfold p6_isShop at hf
  refine lv_iload_n hx hb dX6_isShop_0 rfl (lv_at hl 1 rfl) ?_
  refine lv_i2l (v := Int32.toInt64 a1) hx hb dX6_isShop_1 rfl ?_
  refine lv_lconst (v := 0) hx hb dX6_isShop_2 (by decide) ?_
  refine lv_aload_n hx hb dX6_isShop_3 rfl (lv_at hl 0 rfl) ?_
  refine g6_1 F hw tw_611 dX6_isShop_4 ?_
  refine lv_iconst (v := 1) hx hb dX6_isShop_7 (by decide) ?_
  refine lv_isub hx hb dX6_isShop_8 ?_
  refine lv_i2l (v := Int32.toInt64 ((M.1 0 1) - 1)) hx hb dX6_isShop_9 rfl ?_
  obtain ⟨r3, M2, hc1, hf⟩ := bd_some hf
  refine x_aftI hw (x_runS (rest := []) F hw hl.1 sw_RX6_69 (c6_in (Int32.toInt64 a1) 0 (Int32.toInt64 ((M.1 0 1) - 1)) hc1) rfl rfl (Nat.le_of_ble_eq_true rfl) ⟨Nat.le_of_ble_eq_true rfl, Nat.le_of_ble_eq_true rfl⟩ dX6_isShop_10) (fun H locs hw => ?_)
  obtain ⟨g4, hf⟩ := gd_some hf
  exact x_zret F hw hr hk (isB_nar g4) hf dX6_isShop_13
theorem dX6_dueIn_0 : decode cX6_dueIn 0 = .ok (.aload_n 0, 1) := by decide +kernel
theorem dX6_dueIn_1 : decode cX6_dueIn 1 = .ok (.iload_n 1, 1) := by decide +kernel
theorem dX6_dueIn_2 : decode cX6_dueIn 2 = .ok (.invokevirtual 143, 3) := by decide +kernel
theorem dX6_dueIn_5 : decode cX6_dueIn 5 = .ok (.ifCond .ne 5, 3) := by decide +kernel
theorem dX6_dueIn_8 : decode cX6_dueIn 8 = .ok (.iconst 0, 1) := by decide +kernel
theorem dX6_dueIn_9 : decode cX6_dueIn 9 = .ok (.ireturn, 1) := by decide +kernel
theorem dX6_dueIn_10 : decode cX6_dueIn 10 = .ok (.aload_n 0, 1) := by decide +kernel
theorem dX6_dueIn_11 : decode cX6_dueIn 11 = .ok (.getfield 7, 3) := by decide +kernel
theorem dX6_dueIn_14 : decode cX6_dueIn 14 = .ok (.bipush 13, 2) := by decide +kernel
theorem dX6_dueIn_16 : decode cX6_dueIn 16 = .ok (.iload_n 1, 1) := by decide +kernel
theorem dX6_dueIn_17 : decode cX6_dueIn 17 = .ok (.iadd, 1) := by decide +kernel
theorem dX6_dueIn_18 : decode cX6_dueIn 18 = .ok (.iaload, 1) := by decide +kernel
theorem dX6_dueIn_19 : decode cX6_dueIn 19 = .ok (.istore_n 3, 1) := by decide +kernel
theorem dX6_dueIn_20 : decode cX6_dueIn 20 = .ok (.aload_n 0, 1) := by decide +kernel
theorem dX6_dueIn_21 : decode cX6_dueIn 21 = .ok (.getfield 7, 3) := by decide +kernel
theorem dX6_dueIn_24 : decode cX6_dueIn 24 = .ok (.bipush 19, 2) := by decide +kernel
theorem dX6_dueIn_26 : decode cX6_dueIn 26 = .ok (.iload_n 1, 1) := by decide +kernel
theorem dX6_dueIn_27 : decode cX6_dueIn 27 = .ok (.iadd, 1) := by decide +kernel
theorem dX6_dueIn_28 : decode cX6_dueIn 28 = .ok (.iaload, 1) := by decide +kernel
theorem dX6_dueIn_29 : decode cX6_dueIn 29 = .ok (.iload_n 2, 1) := by decide +kernel
theorem dX6_dueIn_30 : decode cX6_dueIn 30 = .ok (.iadd, 1) := by decide +kernel
theorem dX6_dueIn_31 : decode cX6_dueIn 31 = .ok (.istore 4, 2) := by decide +kernel
theorem dX6_dueIn_33 : decode cX6_dueIn 33 = .ok (.aload_n 0, 1) := by decide +kernel
theorem dX6_dueIn_34 : decode cX6_dueIn 34 = .ok (.getfield 13, 3) := by decide +kernel
theorem dX6_dueIn_37 : decode cX6_dueIn 37 = .ok (.aload_n 0, 1) := by decide +kernel
theorem dX6_dueIn_38 : decode cX6_dueIn 38 = .ok (.getfield 7, 3) := by decide +kernel
theorem dX6_dueIn_41 : decode cX6_dueIn 41 = .ok (.bipush 7, 2) := by decide +kernel
theorem dX6_dueIn_43 : decode cX6_dueIn 43 = .ok (.iload_n 1, 1) := by decide +kernel
theorem dX6_dueIn_44 : decode cX6_dueIn 44 = .ok (.iadd, 1) := by decide +kernel
theorem dX6_dueIn_45 : decode cX6_dueIn 45 = .ok (.iaload, 1) := by decide +kernel
theorem dX6_dueIn_46 : decode cX6_dueIn 46 = .ok (.iaload, 1) := by decide +kernel
theorem dX6_dueIn_47 : decode cX6_dueIn 47 = .ok (.tableswitch 71 1 5 #[33, 35, 42, 49, 64], 33) := by decide +kernel
theorem dX6_dueIn_80 : decode cX6_dueIn 80 = .ok (.iload_n 3, 1) := by decide +kernel
theorem dX6_dueIn_81 : decode cX6_dueIn 81 = .ok (.ireturn, 1) := by decide +kernel
theorem dX6_dueIn_82 : decode cX6_dueIn 82 = .ok (.iload_n 3, 1) := by decide +kernel
theorem dX6_dueIn_83 : decode cX6_dueIn 83 = .ok (.iconst 2, 1) := by decide +kernel
theorem dX6_dueIn_84 : decode cX6_dueIn 84 = .ok (.iload 4, 2) := by decide +kernel
theorem dX6_dueIn_86 : decode cX6_dueIn 86 = .ok (.imul, 1) := by decide +kernel
theorem dX6_dueIn_87 : decode cX6_dueIn 87 = .ok (.iadd, 1) := by decide +kernel
theorem dX6_dueIn_88 : decode cX6_dueIn 88 = .ok (.ireturn, 1) := by decide +kernel
theorem dX6_dueIn_89 : decode cX6_dueIn 89 = .ok (.iload_n 3, 1) := by decide +kernel
theorem dX6_dueIn_90 : decode cX6_dueIn 90 = .ok (.iload 4, 2) := by decide +kernel
theorem dX6_dueIn_92 : decode cX6_dueIn 92 = .ok (.iconst 2, 1) := by decide +kernel
theorem dX6_dueIn_93 : decode cX6_dueIn 93 = .ok (.idiv, 1) := by decide +kernel
theorem dX6_dueIn_94 : decode cX6_dueIn 94 = .ok (.iadd, 1) := by decide +kernel
theorem dX6_dueIn_95 : decode cX6_dueIn 95 = .ok (.ireturn, 1) := by decide +kernel
theorem dX6_dueIn_96 : decode cX6_dueIn 96 = .ok (.iload_n 3, 1) := by decide +kernel
theorem dX6_dueIn_97 : decode cX6_dueIn 97 = .ok (.iload 4, 2) := by decide +kernel
theorem dX6_dueIn_99 : decode cX6_dueIn 99 = .ok (.if_icmp .le 10, 3) := by decide +kernel
theorem dX6_dueIn_102 : decode cX6_dueIn 102 = .ok (.iload_n 3, 1) := by decide +kernel
theorem dX6_dueIn_103 : decode cX6_dueIn 103 = .ok (.iload 4, 2) := by decide +kernel
theorem dX6_dueIn_105 : decode cX6_dueIn 105 = .ok (.isub, 1) := by decide +kernel
theorem dX6_dueIn_106 : decode cX6_dueIn 106 = .ok (.goto 4, 3) := by decide +kernel
theorem dX6_dueIn_109 : decode cX6_dueIn 109 = .ok (.iconst 1, 1) := by decide +kernel
theorem dX6_dueIn_110 : decode cX6_dueIn 110 = .ok (.ireturn, 1) := by decide +kernel
theorem dX6_dueIn_111 : decode cX6_dueIn 111 = .ok (.iload_n 3, 1) := by decide +kernel
theorem dX6_dueIn_112 : decode cX6_dueIn 112 = .ok (.iconst 3, 1) := by decide +kernel
theorem dX6_dueIn_113 : decode cX6_dueIn 113 = .ok (.iload 4, 2) := by decide +kernel
theorem dX6_dueIn_115 : decode cX6_dueIn 115 = .ok (.imul, 1) := by decide +kernel
theorem dX6_dueIn_116 : decode cX6_dueIn 116 = .ok (.iadd, 1) := by decide +kernel
theorem dX6_dueIn_117 : decode cX6_dueIn 117 = .ok (.ireturn, 1) := by decide +kernel
theorem dX6_dueIn_118 : decode cX6_dueIn 118 = .ok (.iload_n 3, 1) := by decide +kernel
theorem dX6_dueIn_119 : decode cX6_dueIn 119 = .ok (.iload 4, 2) := by decide +kernel
theorem dX6_dueIn_121 : decode cX6_dueIn 121 = .ok (.iadd, 1) := by decide +kernel
theorem dX6_dueIn_122 : decode cX6_dueIn 122 = .ok (.ireturn, 1) := by decide +kernel
def p6_dueIn (a1 : Int32) (a2 : Int32) (M : SX) : Option (Int32 × SX) :=
  bd (p6_isPawned a1 M) (fun r3 M2 => if r3 = 0 then (some (0, M2))
  else (gd (bIn (13 + a1) 3964) ( lt_ (M2.1 1 (Int32.toNatClampNeg (13 + a1))) (fun x6 => gd (bIn (19 + a1) 3964) ( lt_ ((M2.1 1 (Int32.toNatClampNeg (19 + a1))) + a2) (fun x8 => gd (bIn (7 + a1) 3964) ( gd (bIn (M2.1 1 (Int32.toNatClampNeg (7 + a1))) 6) ( if (M2.1 2 (Int32.toNatClampNeg (M2.1 1 (Int32.toNatClampNeg (7 + a1))))) = 1 then (some (x6, M2))
  else (if (M2.1 2 (Int32.toNatClampNeg (M2.1 1 (Int32.toNatClampNeg (7 + a1))))) = 2 then (some (x6 + (2 * x8), M2))
  else (if (M2.1 2 (Int32.toNatClampNeg (M2.1 1 (Int32.toNatClampNeg (7 + a1))))) = 3 then (some (x6 + (x8 / 2), M2))
  else (if (M2.1 2 (Int32.toNatClampNeg (M2.1 1 (Int32.toNatClampNeg (7 + a1))))) = 4 then (if x6 ≤ x8 then (some (1, M2))
  else (some (x6 - x8, M2)))
  else (if (M2.1 2 (Int32.toNatClampNeg (M2.1 1 (Int32.toNatClampNeg (7 + a1))))) = 5 then (some (x6 + (3 * x8), M2))
  else (some (x6 + x8, M2))))))))))))))
set_option maxHeartbeats 4000000 in
set_option maxRecDepth 100000 in
theorem c6_dueIn {l : Launch} {G : XG} {r : Int32} {M' : SX} {M : SX} (a1 : Int32) (a2 : Int32) (hf : p6_dueIn a1 a2 M = some (r, M')) : Met l yX6_dueIn (.code yX6_dueIn cX6_dueIn 5 (some .int) :: TBL) (rmX 1) (xPc G ZY M [.ref (G.2.1 0), .int a1, .int a2]) (xQi G ZY r M') 0 0 (inA G ZY) := by
  refine x_met (cc := cX6_dueIn) (by decide) (Nat.le_of_ble_eq_true rfl) ?_
  intro p e s m below meth c ls F hr hk hl hw
  have F : Fx G ZY p m c cX6_dueIn 5 s [.ref (G.2.1 0), .int a1, .int a2].toArray RX6 := F
  have hl : lv_has ls 5 [(0, .ref (G.2.1 0)), (1, .int a1), (2, .int a2)] := hl
  have hx := F.1.1
  have hb := F.1.2.1
  unfold p6_dueIn at hf
  refine lv_aload_n hx hb dX6_dueIn_0 rfl (lv_at hl 0 rfl) ?_
  refine lv_iload_n hx hb dX6_dueIn_1 rfl (lv_at hl 1 rfl) ?_
  obtain ⟨r3, M2, hc1, hf⟩ := bd_some hf
  refine x_aftI hw (x_runV (rest := []) F hw hl.1 vw_RX6_143 (sM) rfl (c6_isPawned a1 hc1) rfl rfl (Nat.le_of_ble_eq_true rfl) ⟨Nat.le_of_ble_eq_true rfl, Nat.le_of_ble_eq_true rfl⟩ dX6_dueIn_2) (fun H locs hw => ?_)
  refine lv_if_ne (tgt := 10) hx hb dX6_dueIn_5 (by decide) (fun c4 => ?_) (fun c4 => ?_)
  · have hf := it_f hf c4
    refine lv_aload_n hx hb dX6_dueIn_10 rfl (lv_at hl 0 rfl) ?_
    refine g6_0 F hw tw_610 dX6_dueIn_11 ?_
    refine lv_bipush (v := 13) hx hb dX6_dueIn_14 (by decide) ?_
    refine lv_iload_n hx hb dX6_dueIn_16 rfl (lv_at hl 1 rfl) ?_
    refine lv_iadd hx hb dX6_dueIn_17 ?_
    obtain ⟨g5, hf⟩ := gd_some hf
    refine x_iald F hw sM1 g5 dX6_dueIn_18 ?_
    obtain ⟨x6, ex6, hf⟩ := lt_elim hf
    refine x_let ex6 ?_
    refine lv_istore_n (lv' := [(3, .int x6), (0, .ref (G.2.1 0)), (1, .int a1), (2, .int a2)]) hx hb dX6_dueIn_19 rfl hl (by decide) rfl (fun ls hl => ?_)
    refine lv_aload_n hx hb dX6_dueIn_20 rfl (lv_at hl 1 rfl) ?_
    refine g6_0 F hw tw_610 dX6_dueIn_21 ?_
    refine lv_bipush (v := 19) hx hb dX6_dueIn_24 (by decide) ?_
    refine lv_iload_n hx hb dX6_dueIn_26 rfl (lv_at hl 2 rfl) ?_
    refine lv_iadd hx hb dX6_dueIn_27 ?_
    obtain ⟨g7, hf⟩ := gd_some hf
    refine x_iald F hw sM1 g7 dX6_dueIn_28 ?_
    refine lv_iload_n hx hb dX6_dueIn_29 rfl (lv_at hl 3 rfl) ?_
    refine lv_iadd hx hb dX6_dueIn_30 ?_
    obtain ⟨x8, ex8, hf⟩ := lt_elim hf
    refine x_let ex8 ?_
    refine lv_istore (lv' := [(4, .int x8), (3, .int x6), (0, .ref (G.2.1 0)), (1, .int a1), (2, .int a2)]) hx hb dX6_dueIn_31 hl (by decide) rfl (fun ls hl => ?_)
    refine lv_aload_n hx hb dX6_dueIn_33 rfl (lv_at hl 2 rfl) ?_
    refine g6_2 F hw tw_612 dX6_dueIn_34 ?_
    refine lv_aload_n hx hb dX6_dueIn_37 rfl (lv_at hl 2 rfl) ?_
    refine g6_0 F hw tw_610 dX6_dueIn_38 ?_
    refine lv_bipush (v := 7) hx hb dX6_dueIn_41 (by decide) ?_
    refine lv_iload_n hx hb dX6_dueIn_43 rfl (lv_at hl 3 rfl) ?_
    refine lv_iadd hx hb dX6_dueIn_44 ?_
    obtain ⟨g9, hf⟩ := gd_some hf
    refine x_iald F hw sM1 g9 dX6_dueIn_45 ?_
    obtain ⟨g10, hf⟩ := gd_some hf
    refine x_iald F hw sM2 g10 dX6_dueIn_46 ?_
    by_cases c11 : (M2.1 2 (Int32.toNatClampNeg (M2.1 1 (Int32.toNatClampNeg (7 + a1))))) = 1
    · have hf := it_t hf c11
      refine lv_tableIn (tgt := 80) hx hb dX6_dueIn_47 (by rw [c11]; decide) (by rw [c11]; decide) (by rw [c11]; rfl) (by decide) ?_
      refine lv_iload_n hx hb dX6_dueIn_80 rfl (lv_at hl 1 rfl) ?_
      exact x_iret F hw hr hk hf dX6_dueIn_81
    · have hf := it_f hf c11
      by_cases c12 : (M2.1 2 (Int32.toNatClampNeg (M2.1 1 (Int32.toNatClampNeg (7 + a1))))) = 2
      · have hf := it_t hf c12
        refine lv_tableIn (tgt := 82) hx hb dX6_dueIn_47 (by rw [c12]; decide) (by rw [c12]; decide) (by rw [c12]; rfl) (by decide) ?_
        refine lv_iload_n hx hb dX6_dueIn_82 rfl (lv_at hl 1 rfl) ?_
        refine lv_iconst (v := 2) hx hb dX6_dueIn_83 (by decide) ?_
        refine lv_iload hx hb dX6_dueIn_84 (lv_at hl 0 rfl) ?_
        refine lv_imul hx hb dX6_dueIn_86 ?_
        refine lv_iadd hx hb dX6_dueIn_87 ?_
        exact x_iret F hw hr hk hf dX6_dueIn_88
      · have hf := it_f hf c12
        by_cases c13 : (M2.1 2 (Int32.toNatClampNeg (M2.1 1 (Int32.toNatClampNeg (7 + a1))))) = 3
        · have hf := it_t hf c13
          refine lv_tableIn (tgt := 89) hx hb dX6_dueIn_47 (by rw [c13]; decide) (by rw [c13]; decide) (by rw [c13]; rfl) (by decide) ?_
          refine lv_iload_n hx hb dX6_dueIn_89 rfl (lv_at hl 1 rfl) ?_
          refine lv_iload hx hb dX6_dueIn_90 (lv_at hl 0 rfl) ?_
          refine lv_iconst (v := 2) hx hb dX6_dueIn_92 (by decide) ?_
          refine lv_idiv hx hb dX6_dueIn_93 (by decide) ?_
          refine lv_iadd hx hb dX6_dueIn_94 ?_
          exact x_iret F hw hr hk hf dX6_dueIn_95
        · have hf := it_f hf c13
          by_cases c14 : (M2.1 2 (Int32.toNatClampNeg (M2.1 1 (Int32.toNatClampNeg (7 + a1))))) = 4
          · have hf := it_t hf c14
            refine lv_tableIn (tgt := 96) hx hb dX6_dueIn_47 (by rw [c14]; decide) (by rw [c14]; decide) (by rw [c14]; rfl) (by decide) ?_
            refine lv_iload_n hx hb dX6_dueIn_96 rfl (lv_at hl 1 rfl) ?_
            refine lv_iload hx hb dX6_dueIn_97 (lv_at hl 0 rfl) ?_
            refine lv_icmp_le (tgt := 109) hx hb dX6_dueIn_99 (by decide) (fun c15 => ?_) (fun c15 => ?_)
            · have hf := it_t hf c15
              refine lv_iconst (v := 1) hx hb dX6_dueIn_109 (by decide) ?_
              exact x_iret F hw hr hk hf dX6_dueIn_110
            · have hf := it_f hf c15
              refine lv_iload_n hx hb dX6_dueIn_102 rfl (lv_at hl 1 rfl) ?_
              refine lv_iload hx hb dX6_dueIn_103 (lv_at hl 0 rfl) ?_
              refine lv_isub hx hb dX6_dueIn_105 ?_
              refine lv_goto (tgt := 110) hx hb dX6_dueIn_106 (by decide) ?_
              exact x_iret F hw hr hk hf dX6_dueIn_110
          · have hf := it_f hf c14
            by_cases c16 : (M2.1 2 (Int32.toNatClampNeg (M2.1 1 (Int32.toNatClampNeg (7 + a1))))) = 5
            · have hf := it_t hf c16
              refine lv_tableIn (tgt := 111) hx hb dX6_dueIn_47 (by rw [c16]; decide) (by rw [c16]; decide) (by rw [c16]; rfl) (by decide) ?_
              refine lv_iload_n hx hb dX6_dueIn_111 rfl (lv_at hl 1 rfl) ?_
              refine lv_iconst (v := 3) hx hb dX6_dueIn_112 (by decide) ?_
              refine lv_iload hx hb dX6_dueIn_113 (lv_at hl 0 rfl) ?_
              refine lv_imul hx hb dX6_dueIn_115 ?_
              refine lv_iadd hx hb dX6_dueIn_116 ?_
              exact x_iret F hw hr hk hf dX6_dueIn_117
            · have hf := it_f hf c16
              have nc11 := x_ne (k := 1) (1) rfl c11
              have nc12 := x_ne (k := 2) (2) rfl c12
              have nc13 := x_ne (k := 3) (3) rfl c13
              have nc14 := x_ne (k := 4) (4) rfl c14
              have nc16 := x_ne (k := 5) (5) rfl c16
              refine lv_tableOut (tgt := 118) hx hb dX6_dueIn_47 (by omega) (by decide) ?_
              refine lv_iload_n hx hb dX6_dueIn_118 rfl (lv_at hl 1 rfl) ?_
              refine lv_iload hx hb dX6_dueIn_119 (lv_at hl 0 rfl) ?_
              refine lv_iadd hx hb dX6_dueIn_121 ?_
              exact x_iret F hw hr hk hf dX6_dueIn_122
  · have hf := it_t hf c4
    refine lv_iconst (v := 0) hx hb dX6_dueIn_8 (by decide) ?_
    exact x_iret F hw hr hk hf dX6_dueIn_9
theorem dX6_pawned_0 : decode cX6_pawned 0 = .ok (.iconst 0, 1) := by decide +kernel
theorem dX6_pawned_1 : decode cX6_pawned 1 = .ok (.istore_n 1, 1) := by decide +kernel
theorem dX6_pawned_2 : decode cX6_pawned 2 = .ok (.iconst 0, 1) := by decide +kernel
theorem dX6_pawned_3 : decode cX6_pawned 3 = .ok (.istore_n 2, 1) := by decide +kernel
theorem dX6_pawned_4 : decode cX6_pawned 4 = .ok (.iload_n 2, 1) := by decide +kernel
theorem dX6_pawned_5 : decode cX6_pawned 5 = .ok (.aload_n 0, 1) := by decide +kernel
theorem dX6_pawned_6 : decode cX6_pawned 6 = .ok (.getfield 140, 3) := by decide +kernel
theorem dX6_pawned_9 : decode cX6_pawned 9 = .ok (.if_icmp .ge 27, 3) := by decide +kernel
theorem dX6_pawned_12 : decode cX6_pawned 12 = .ok (.iload_n 1, 1) := by decide +kernel
theorem dX6_pawned_13 : decode cX6_pawned 13 = .ok (.aload_n 0, 1) := by decide +kernel
theorem dX6_pawned_14 : decode cX6_pawned 14 = .ok (.iload_n 2, 1) := by decide +kernel
theorem dX6_pawned_15 : decode cX6_pawned 15 = .ok (.invokevirtual 143, 3) := by decide +kernel
theorem dX6_pawned_18 : decode cX6_pawned 18 = .ok (.ifCond .eq 9, 3) := by decide +kernel
theorem dX6_pawned_21 : decode cX6_pawned 21 = .ok (.iconst 1, 1) := by decide +kernel
theorem dX6_pawned_22 : decode cX6_pawned 22 = .ok (.iload_n 2, 1) := by decide +kernel
theorem dX6_pawned_23 : decode cX6_pawned 23 = .ok (.ishl, 1) := by decide +kernel
theorem dX6_pawned_24 : decode cX6_pawned 24 = .ok (.goto 4, 3) := by decide +kernel
theorem dX6_pawned_27 : decode cX6_pawned 27 = .ok (.iconst 0, 1) := by decide +kernel
theorem dX6_pawned_28 : decode cX6_pawned 28 = .ok (.ior, 1) := by decide +kernel
theorem dX6_pawned_29 : decode cX6_pawned 29 = .ok (.istore_n 1, 1) := by decide +kernel
theorem dX6_pawned_30 : decode cX6_pawned 30 = .ok (.iinc 2 1, 3) := by decide +kernel
theorem dX6_pawned_33 : decode cX6_pawned 33 = .ok (.goto (-29), 3) := by decide +kernel
theorem dX6_pawned_36 : decode cX6_pawned 36 = .ok (.iload_n 1, 1) := by decide +kernel
theorem dX6_pawned_37 : decode cX6_pawned 37 = .ok (.ireturn, 1) := by decide +kernel
def p6_pawned_28 (k4 : Int32 → Int32 → SX → Option (Int32 × SX)) (v2 : Int32) (t0 : Int32) (t1 : Int32) (M : SX) : Option (Int32 × SX) :=
  lt_ (t0 ||| t1) (fun x1 => lt_ (v2 + 1) (fun x2 => k4 x1 x2 M))
set_option maxHeartbeats 4000000 in
set_option maxRecDepth 100000 in
theorem w6_pawned_28 {G : XG} {p : Program} {l : Launch} {e : Env} {s : State} {m : MethodId} {args : Array Value} {below : List Frame} {meth : Method} {c : Code} (F : Fx G ZY p m c cX6_pawned 3 s args RX6) (hr : meth.sig.returnType = some .int) (hk : meth.locks = false) {r : Int32} {M' : SX} (k4 : Int32 → Int32 → SX → Option (Int32 × SX)) (hk4 : ∀ (v1 : Int32) (v2 : Int32) (M : SX) (H : Heap) (locs : List Loc) (ls : Array Slot), Wld G ZY M s.heap H locs → lv_has ls 3 [(0, .ref (G.2.1 0)), (1, .int v1), (2, .int v2)] → k4 v1 v2 M = some (r, M') → WXi G ZY p l e 1 s m args below meth c r M' H locs (F0 m 4 ls [])) : ∀ (v2 : Int32) (t0 : Int32) (t1 : Int32) (M : SX) (H : Heap) (locs : List Loc) (ls : Array Slot), Wld G ZY M s.heap H locs → lv_has ls 3 [(0, .ref (G.2.1 0)), (2, .int v2)] → p6_pawned_28 k4 v2 t0 t1 M = some (r, M') → WXi G ZY p l e 1 s m args below meth c r M' H locs (F0 m 28 ls [.int t1, .int t0]) := by
  intro v2 t0 t1 M H locs ls hw hl hf
  have hx := F.1.1
  have hb := F.1.2.1
  unfold p6_pawned_28 at hf
  refine lv_ior hx hb dX6_pawned_28 ?_
  obtain ⟨x1, ex1, hf⟩ := lt_elim hf
  refine x_let ex1 ?_
  refine lv_istore_n (lv' := [(1, .int x1), (0, .ref (G.2.1 0)), (2, .int v2)]) hx hb dX6_pawned_29 rfl hl (by decide) rfl (fun ls hl => ?_)
  obtain ⟨x2, ex2, hf⟩ := lt_elim hf
  refine lv_iinc (v := x2) (lv' := [(2, .int x2), (1, .int x1), (0, .ref (G.2.1 0))]) hx hb dX6_pawned_30 hl (k := 2) rfl (by rw [ex2]; rfl) (by decide) rfl (fun ls hl => ?_)
  refine lv_goto (tgt := 4) hx hb dX6_pawned_33 (by decide) ?_
  exact hk4 x1 x2 M _ _ ls hw (lv_sub hl [2, 1, 0] rfl) hf
def p6_pawned_4 (k4 : Int32 → Int32 → SX → Option (Int32 × SX)) (v1 : Int32) (v2 : Int32) (M : SX) : Option (Int32 × SX) :=
  if (M.1 0 1) ≤ v2 then (some (v1, M))
  else (bd (p6_isPawned v2 M) (fun r4 M3 => if r4 = 0 then (p6_pawned_28 k4 v2 v1 0 M3)
  else (p6_pawned_28 k4 v2 v1 ((1 : Int32) <<< (v2 &&& 31)) M3)))
set_option maxHeartbeats 4000000 in
set_option maxRecDepth 100000 in
theorem w6_pawned_4 {G : XG} {p : Program} {l : Launch} {e : Env} {s : State} {m : MethodId} {args : Array Value} {below : List Frame} {meth : Method} {c : Code} (F : Fx G ZY p m c cX6_pawned 3 s args RX6) (hr : meth.sig.returnType = some .int) (hk : meth.locks = false) {r : Int32} {M' : SX} (k4 : Int32 → Int32 → SX → Option (Int32 × SX)) (hk4 : ∀ (v1 : Int32) (v2 : Int32) (M : SX) (H : Heap) (locs : List Loc) (ls : Array Slot), Wld G ZY M s.heap H locs → lv_has ls 3 [(0, .ref (G.2.1 0)), (1, .int v1), (2, .int v2)] → k4 v1 v2 M = some (r, M') → WXi G ZY p l e 1 s m args below meth c r M' H locs (F0 m 4 ls [])) : ∀ (v1 : Int32) (v2 : Int32) (M : SX) (H : Heap) (locs : List Loc) (ls : Array Slot), Wld G ZY M s.heap H locs → lv_has ls 3 [(0, .ref (G.2.1 0)), (1, .int v1), (2, .int v2)] → p6_pawned_4 k4 v1 v2 M = some (r, M') → WXi G ZY p l e 1 s m args below meth c r M' H locs (F0 m 4 ls []) := by
  intro v1 v2 M H locs ls hw hl hf
  have hx := F.1.1
  have hb := F.1.2.1
  unfold p6_pawned_4 at hf
  refine lv_iload_n hx hb dX6_pawned_4 rfl (lv_at hl 2 rfl) ?_
  refine lv_aload_n hx hb dX6_pawned_5 rfl (lv_at hl 0 rfl) ?_
  refine g6_1 F hw tw_611 dX6_pawned_6 ?_
  refine lv_icmp_ge (tgt := 36) hx hb dX6_pawned_9 (by decide) (fun c1 => ?_) (fun c1 => ?_)
  · have hf := it_t hf c1
    refine lv_iload_n hx hb dX6_pawned_36 rfl (lv_at hl 1 rfl) ?_
    exact x_iret F hw hr hk hf dX6_pawned_37
  · have hf := it_f hf c1
    refine lv_iload_n hx hb dX6_pawned_12 rfl (lv_at hl 1 rfl) ?_
    refine lv_aload_n hx hb dX6_pawned_13 rfl (lv_at hl 0 rfl) ?_
    refine lv_iload_n hx hb dX6_pawned_14 rfl (lv_at hl 2 rfl) ?_
    obtain ⟨r4, M3, hc2, hf⟩ := bd_some hf
    refine x_aftI hw (x_runV (rest := [.int v1]) F hw hl.1 vw_RX6_143 (sM) rfl (c6_isPawned v2 hc2) rfl rfl (Nat.le_of_ble_eq_true rfl) ⟨Nat.le_of_ble_eq_true rfl, Nat.le_of_ble_eq_true rfl⟩ dX6_pawned_15) (fun H locs hw => ?_)
    refine lv_if_eq (tgt := 27) hx hb dX6_pawned_18 (by decide) (fun c5 => ?_) (fun c5 => ?_)
    · have hf := it_t hf c5
      refine lv_iconst (v := 0) hx hb dX6_pawned_27 (by decide) ?_
      exact w6_pawned_28 F hr hk k4 hk4 v2 v1 0 M3 _ _ ls hw (lv_sub hl [0, 2] rfl) hf
    · have hf := it_f hf c5
      refine lv_iconst (v := 1) hx hb dX6_pawned_21 (by decide) ?_
      refine lv_iload_n hx hb dX6_pawned_22 rfl (lv_at hl 2 rfl) ?_
      refine lv_ishl hx hb dX6_pawned_23 ?_
      refine lv_goto (tgt := 28) hx hb dX6_pawned_24 (by decide) ?_
      exact w6_pawned_28 F hr hk k4 hk4 v2 v1 ((1 : Int32) <<< (v2 &&& 31)) M3 _ _ ls hw (lv_sub hl [0, 2] rfl) hf
theorem z6_pawned_4 {G : XG} {p : Program} {l : Launch} {e : Env} {s : State} {m : MethodId} {args : Array Value} {below : List Frame} {meth : Method} {c : Code} (F : Fx G ZY p m c cX6_pawned 3 s args RX6) (hr : meth.sig.returnType = some .int) (hk : meth.locks = false) {r : Int32} {M' : SX} : ∀ n : Nat, ∀ (v1 : Int32) (v2 : Int32) (M : SX) (H : Heap) (locs : List Loc) (ls : Array Slot), Wld G ZY M s.heap H locs → lv_has ls 3 [(0, .ref (G.2.1 0)), (1, .int v1), (2, .int v2)] → xlp2 p6_pawned_4 n v1 v2 M = some (r, M') → WXi G ZY p l e 1 s m args below meth c r M' H locs (F0 m 4 ls []) := by
  intro n
  induction n with
  | zero => intro _ _ _ _ _ _ _ _ hf; cases hf
  | succ n ih => exact w6_pawned_4 F hr hk (xlp2 p6_pawned_4 n) ih
def p6_pawned (M : SX) : Option (Int32 × SX) :=
  xlp2 p6_pawned_4 FU 0 0 M
set_option maxHeartbeats 4000000 in
set_option maxRecDepth 100000 in
theorem c6_pawned {l : Launch} {G : XG} {r : Int32} {M' : SX} {M : SX} (hf : p6_pawned M = some (r, M')) : Met l yX6_pawned (.code yX6_pawned cX6_pawned 3 (some .int) :: TBL) (rmX 1) (xPc G ZY M [.ref (G.2.1 0)]) (xQi G ZY r M') 0 0 (inA G ZY) := by
  refine x_met (cc := cX6_pawned) (by decide) (Nat.le_of_ble_eq_true rfl) ?_
  intro p e s m below meth c ls F hr hk hl hw
  have F : Fx G ZY p m c cX6_pawned 3 s [.ref (G.2.1 0)].toArray RX6 := F
  have hl : lv_has ls 3 [(0, .ref (G.2.1 0))] := hl
  have hx := F.1.1
  have hb := F.1.2.1
  unfold p6_pawned at hf
  refine lv_iconst (v := 0) hx hb dX6_pawned_0 (by decide) ?_
  refine lv_istore_n (lv' := [(1, .int 0), (0, .ref (G.2.1 0))]) hx hb dX6_pawned_1 rfl hl (by decide) rfl (fun ls hl => ?_)
  refine lv_iconst (v := 0) hx hb dX6_pawned_2 (by decide) ?_
  refine lv_istore_n (lv' := [(2, .int 0), (1, .int 0), (0, .ref (G.2.1 0))]) hx hb dX6_pawned_3 rfl hl (by decide) rfl (fun ls hl => ?_)
  exact z6_pawned_4 F hr hk FU 0 0 M _ _ ls hw (lv_sub hl [2, 1, 0] rfl) hf
theorem dX6_doPawn_0 : decode cX6_doPawn 0 = .ok (.aload_n 0, 1) := by decide +kernel
theorem dX6_doPawn_1 : decode cX6_doPawn 1 = .ok (.invokevirtual 178, 3) := by decide +kernel
theorem dX6_doPawn_4 : decode cX6_doPawn 4 = .ok (.aload_n 0, 1) := by decide +kernel
theorem dX6_doPawn_5 : decode cX6_doPawn 5 = .ok (.getfield 7, 3) := by decide +kernel
theorem dX6_doPawn_8 : decode cX6_doPawn 8 = .ok (.iconst 1, 1) := by decide +kernel
theorem dX6_doPawn_9 : decode cX6_doPawn 9 = .ok (.iload_n 2, 1) := by decide +kernel
theorem dX6_doPawn_10 : decode cX6_doPawn 10 = .ok (.iadd, 1) := by decide +kernel
theorem dX6_doPawn_11 : decode cX6_doPawn 11 = .ok (.dup2, 1) := by decide +kernel
theorem dX6_doPawn_12 : decode cX6_doPawn 12 = .ok (.iaload, 1) := by decide +kernel
theorem dX6_doPawn_13 : decode cX6_doPawn 13 = .ok (.iload_n 3, 1) := by decide +kernel
theorem dX6_doPawn_14 : decode cX6_doPawn 14 = .ok (.isub, 1) := by decide +kernel
theorem dX6_doPawn_15 : decode cX6_doPawn 15 = .ok (.iastore, 1) := by decide +kernel
theorem dX6_doPawn_16 : decode cX6_doPawn 16 = .ok (.aload_n 0, 1) := by decide +kernel
theorem dX6_doPawn_17 : decode cX6_doPawn 17 = .ok (.getfield 7, 3) := by decide +kernel
theorem dX6_doPawn_20 : decode cX6_doPawn 20 = .ok (.iconst 1, 1) := by decide +kernel
theorem dX6_doPawn_21 : decode cX6_doPawn 21 = .ok (.iload_n 1, 1) := by decide +kernel
theorem dX6_doPawn_22 : decode cX6_doPawn 22 = .ok (.iadd, 1) := by decide +kernel
theorem dX6_doPawn_23 : decode cX6_doPawn 23 = .ok (.dup2, 1) := by decide +kernel
theorem dX6_doPawn_24 : decode cX6_doPawn 24 = .ok (.iaload, 1) := by decide +kernel
theorem dX6_doPawn_25 : decode cX6_doPawn 25 = .ok (.iload_n 3, 1) := by decide +kernel
theorem dX6_doPawn_26 : decode cX6_doPawn 26 = .ok (.iadd, 1) := by decide +kernel
theorem dX6_doPawn_27 : decode cX6_doPawn 27 = .ok (.iastore, 1) := by decide +kernel
theorem dX6_doPawn_28 : decode cX6_doPawn 28 = .ok (.aload_n 0, 1) := by decide +kernel
theorem dX6_doPawn_29 : decode cX6_doPawn 29 = .ok (.getfield 7, 3) := by decide +kernel
theorem dX6_doPawn_32 : decode cX6_doPawn 32 = .ok (.bipush 7, 2) := by decide +kernel
theorem dX6_doPawn_34 : decode cX6_doPawn 34 = .ok (.iload_n 1, 1) := by decide +kernel
theorem dX6_doPawn_35 : decode cX6_doPawn 35 = .ok (.iadd, 1) := by decide +kernel
theorem dX6_doPawn_36 : decode cX6_doPawn 36 = .ok (.iload_n 2, 1) := by decide +kernel
theorem dX6_doPawn_37 : decode cX6_doPawn 37 = .ok (.iastore, 1) := by decide +kernel
theorem dX6_doPawn_38 : decode cX6_doPawn 38 = .ok (.aload_n 0, 1) := by decide +kernel
theorem dX6_doPawn_39 : decode cX6_doPawn 39 = .ok (.getfield 7, 3) := by decide +kernel
theorem dX6_doPawn_42 : decode cX6_doPawn 42 = .ok (.bipush 13, 2) := by decide +kernel
theorem dX6_doPawn_44 : decode cX6_doPawn 44 = .ok (.iload_n 1, 1) := by decide +kernel
theorem dX6_doPawn_45 : decode cX6_doPawn 45 = .ok (.iadd, 1) := by decide +kernel
theorem dX6_doPawn_46 : decode cX6_doPawn 46 = .ok (.iload_n 3, 1) := by decide +kernel
theorem dX6_doPawn_47 : decode cX6_doPawn 47 = .ok (.iastore, 1) := by decide +kernel
theorem dX6_doPawn_48 : decode cX6_doPawn 48 = .ok (.aload_n 0, 1) := by decide +kernel
theorem dX6_doPawn_49 : decode cX6_doPawn 49 = .ok (.getfield 7, 3) := by decide +kernel
theorem dX6_doPawn_52 : decode cX6_doPawn 52 = .ok (.bipush 19, 2) := by decide +kernel
theorem dX6_doPawn_54 : decode cX6_doPawn 54 = .ok (.iload_n 1, 1) := by decide +kernel
theorem dX6_doPawn_55 : decode cX6_doPawn 55 = .ok (.iadd, 1) := by decide +kernel
theorem dX6_doPawn_56 : decode cX6_doPawn 56 = .ok (.iconst 0, 1) := by decide +kernel
theorem dX6_doPawn_57 : decode cX6_doPawn 57 = .ok (.iastore, 1) := by decide +kernel
theorem dX6_doPawn_58 : decode cX6_doPawn 58 = .ok (.return_, 1) := by decide +kernel
def p6_doPawn (a1 : Int32) (a2 : Int32) (a3 : Int32) (M : SX) : Option SX :=
  bv (p6_keepPast M) (fun M2 => gd (bIn (1 + a2) 3964) ( lt_ (wI M2 1 (Int32.toNatClampNeg (1 + a2)) ((M2.1 1 (Int32.toNatClampNeg (1 + a2))) - a3)) (fun M4 => gd (bIn (1 + a1) 3964) ( lt_ (wI M4 1 (Int32.toNatClampNeg (1 + a1)) ((M4.1 1 (Int32.toNatClampNeg (1 + a1))) + a3)) (fun M6 => gd (bIn (7 + a1) 3964) ( lt_ (wI M6 1 (Int32.toNatClampNeg (7 + a1)) a2) (fun M8 => gd (bIn (13 + a1) 3964) ( lt_ (wI M8 1 (Int32.toNatClampNeg (13 + a1)) a3) (fun M10 => gd (bIn (19 + a1) 3964) ( lt_ (wI M10 1 (Int32.toNatClampNeg (19 + a1)) 0) (fun M12 => some M12)))))))))))
set_option maxHeartbeats 4000000 in
set_option maxRecDepth 100000 in
theorem c6_doPawn {l : Launch} {G : XG} {M' : SX} {M : SX} (a1 : Int32) (a2 : Int32) (a3 : Int32) (hf : p6_doPawn a1 a2 a3 M = some M') : Met l yX6_doPawn (.code yX6_doPawn cX6_doPawn 4 none :: TBL) (rmX 1) (xPc G ZY M [.ref (G.2.1 0), .int a1, .int a2, .int a3]) (xQv G ZY M') 0 0 (inA G ZY) := by
  refine x_met (cc := cX6_doPawn) (by decide) (Nat.le_of_ble_eq_true rfl) ?_
  intro p e s m below meth c ls F hr hk hl hw
  have F : Fx G ZY p m c cX6_doPawn 4 s [.ref (G.2.1 0), .int a1, .int a2, .int a3].toArray RX6 := F
  have hl : lv_has ls 4 [(0, .ref (G.2.1 0)), (1, .int a1), (2, .int a2), (3, .int a3)] := hl
  have hx := F.1.1
  have hb := F.1.2.1
  unfold p6_doPawn at hf
  refine lv_aload_n hx hb dX6_doPawn_0 rfl (lv_at hl 0 rfl) ?_
  obtain ⟨M2, hc1, hf⟩ := bv_some hf
  refine x_aftV hw (x_runV (rest := []) F hw hl.1 vw_RX6_178 (sM) rfl (c6_keepPast hc1) rfl rfl (Nat.le_of_ble_eq_true rfl) ⟨Nat.le_of_ble_eq_true rfl, Nat.le_of_ble_eq_true rfl⟩ dX6_doPawn_1) (fun H locs hw => ?_)
  refine lv_aload_n hx hb dX6_doPawn_4 rfl (lv_at hl 0 rfl) ?_
  refine g6_0 F hw tw_610 dX6_doPawn_5 ?_
  refine lv_iconst (v := 1) hx hb dX6_doPawn_8 (by decide) ?_
  refine lv_iload_n hx hb dX6_doPawn_9 rfl (lv_at hl 2 rfl) ?_
  refine lv_iadd hx hb dX6_doPawn_10 ?_
  refine lv_dup2_11 hx hb dX6_doPawn_11 rfl rfl ?_
  obtain ⟨g3, hf⟩ := gd_some hf
  refine x_iald F hw sM1 g3 dX6_doPawn_12 ?_
  refine lv_iload_n hx hb dX6_doPawn_13 rfl (lv_at hl 3 rfl) ?_
  refine lv_isub hx hb dX6_doPawn_14 ?_
  refine x_iast F hw sM1 g3 dX6_doPawn_15 (fun H locs hw => ?_)
  obtain ⟨M4, eM4, hf⟩ := lt_elim hf
  rw [← eM4] at hw
  refine lv_aload_n hx hb dX6_doPawn_16 rfl (lv_at hl 0 rfl) ?_
  refine g6_0 F hw tw_610 dX6_doPawn_17 ?_
  refine lv_iconst (v := 1) hx hb dX6_doPawn_20 (by decide) ?_
  refine lv_iload_n hx hb dX6_doPawn_21 rfl (lv_at hl 1 rfl) ?_
  refine lv_iadd hx hb dX6_doPawn_22 ?_
  refine lv_dup2_11 hx hb dX6_doPawn_23 rfl rfl ?_
  obtain ⟨g5, hf⟩ := gd_some hf
  refine x_iald F hw sM1 g5 dX6_doPawn_24 ?_
  refine lv_iload_n hx hb dX6_doPawn_25 rfl (lv_at hl 3 rfl) ?_
  refine lv_iadd hx hb dX6_doPawn_26 ?_
  refine x_iast F hw sM1 g5 dX6_doPawn_27 (fun H locs hw => ?_)
  obtain ⟨M6, eM6, hf⟩ := lt_elim hf
  rw [← eM6] at hw
  refine lv_aload_n hx hb dX6_doPawn_28 rfl (lv_at hl 0 rfl) ?_
  refine g6_0 F hw tw_610 dX6_doPawn_29 ?_
  refine lv_bipush (v := 7) hx hb dX6_doPawn_32 (by decide) ?_
  refine lv_iload_n hx hb dX6_doPawn_34 rfl (lv_at hl 1 rfl) ?_
  refine lv_iadd hx hb dX6_doPawn_35 ?_
  refine lv_iload_n hx hb dX6_doPawn_36 rfl (lv_at hl 2 rfl) ?_
  obtain ⟨g7, hf⟩ := gd_some hf
  refine x_iast F hw sM1 g7 dX6_doPawn_37 (fun H locs hw => ?_)
  obtain ⟨M8, eM8, hf⟩ := lt_elim hf
  rw [← eM8] at hw
  refine lv_aload_n hx hb dX6_doPawn_38 rfl (lv_at hl 0 rfl) ?_
  refine g6_0 F hw tw_610 dX6_doPawn_39 ?_
  refine lv_bipush (v := 13) hx hb dX6_doPawn_42 (by decide) ?_
  refine lv_iload_n hx hb dX6_doPawn_44 rfl (lv_at hl 1 rfl) ?_
  refine lv_iadd hx hb dX6_doPawn_45 ?_
  refine lv_iload_n hx hb dX6_doPawn_46 rfl (lv_at hl 3 rfl) ?_
  obtain ⟨g9, hf⟩ := gd_some hf
  refine x_iast F hw sM1 g9 dX6_doPawn_47 (fun H locs hw => ?_)
  obtain ⟨M10, eM10, hf⟩ := lt_elim hf
  rw [← eM10] at hw
  refine lv_aload_n hx hb dX6_doPawn_48 rfl (lv_at hl 0 rfl) ?_
  refine g6_0 F hw tw_610 dX6_doPawn_49 ?_
  refine lv_bipush (v := 19) hx hb dX6_doPawn_52 (by decide) ?_
  refine lv_iload_n hx hb dX6_doPawn_54 rfl (lv_at hl 1 rfl) ?_
  refine lv_iadd hx hb dX6_doPawn_55 ?_
  refine lv_iconst (v := 0) hx hb dX6_doPawn_56 (by decide) ?_
  obtain ⟨g11, hf⟩ := gd_some hf
  refine x_iast F hw sM1 g11 dX6_doPawn_57 (fun H locs hw => ?_)
  obtain ⟨M12, eM12, hf⟩ := lt_elim hf
  rw [← eM12] at hw
  exact x_vret F hw hr hk hf dX6_doPawn_58
theorem dX6_doWeek_0 : decode cX6_doWeek 0 = .ok (.aload_n 0, 1) := by decide +kernel
theorem dX6_doWeek_1 : decode cX6_doWeek 1 = .ok (.invokevirtual 178, 3) := by decide +kernel
theorem dX6_doWeek_4 : decode cX6_doWeek 4 = .ok (.iconst 0, 1) := by decide +kernel
theorem dX6_doWeek_5 : decode cX6_doWeek 5 = .ok (.istore_n 1, 1) := by decide +kernel
theorem dX6_doWeek_6 : decode cX6_doWeek 6 = .ok (.iload_n 1, 1) := by decide +kernel
theorem dX6_doWeek_7 : decode cX6_doWeek 7 = .ok (.aload_n 0, 1) := by decide +kernel
theorem dX6_doWeek_8 : decode cX6_doWeek 8 = .ok (.getfield 140, 3) := by decide +kernel
theorem dX6_doWeek_11 : decode cX6_doWeek 11 = .ok (.if_icmp .ge 48, 3) := by decide +kernel
theorem dX6_doWeek_14 : decode cX6_doWeek 14 = .ok (.aload_n 0, 1) := by decide +kernel
theorem dX6_doWeek_15 : decode cX6_doWeek 15 = .ok (.getfield 7, 3) := by decide +kernel
theorem dX6_doWeek_18 : decode cX6_doWeek 18 = .ok (.bipush 19, 2) := by decide +kernel
theorem dX6_doWeek_20 : decode cX6_doWeek 20 = .ok (.iload_n 1, 1) := by decide +kernel
theorem dX6_doWeek_21 : decode cX6_doWeek 21 = .ok (.iadd, 1) := by decide +kernel
theorem dX6_doWeek_22 : decode cX6_doWeek 22 = .ok (.dup2, 1) := by decide +kernel
theorem dX6_doWeek_23 : decode cX6_doWeek 23 = .ok (.iaload, 1) := by decide +kernel
theorem dX6_doWeek_24 : decode cX6_doWeek 24 = .ok (.aload_n 0, 1) := by decide +kernel
theorem dX6_doWeek_25 : decode cX6_doWeek 25 = .ok (.iload_n 1, 1) := by decide +kernel
theorem dX6_doWeek_26 : decode cX6_doWeek 26 = .ok (.invokevirtual 143, 3) := by decide +kernel
theorem dX6_doWeek_29 : decode cX6_doWeek 29 = .ok (.ifCond .eq 21, 3) := by decide +kernel
theorem dX6_doWeek_32 : decode cX6_doWeek 32 = .ok (.aload_n 0, 1) := by decide +kernel
theorem dX6_doWeek_33 : decode cX6_doWeek 33 = .ok (.getfield 7, 3) := by decide +kernel
theorem dX6_doWeek_36 : decode cX6_doWeek 36 = .ok (.bipush 19, 2) := by decide +kernel
theorem dX6_doWeek_38 : decode cX6_doWeek 38 = .ok (.iload_n 1, 1) := by decide +kernel
theorem dX6_doWeek_39 : decode cX6_doWeek 39 = .ok (.iadd, 1) := by decide +kernel
theorem dX6_doWeek_40 : decode cX6_doWeek 40 = .ok (.iaload, 1) := by decide +kernel
theorem dX6_doWeek_41 : decode cX6_doWeek 41 = .ok (.bipush 99, 2) := by decide +kernel
theorem dX6_doWeek_43 : decode cX6_doWeek 43 = .ok (.if_icmp .ge 7, 3) := by decide +kernel
theorem dX6_doWeek_46 : decode cX6_doWeek 46 = .ok (.iconst 1, 1) := by decide +kernel
theorem dX6_doWeek_47 : decode cX6_doWeek 47 = .ok (.goto 4, 3) := by decide +kernel
theorem dX6_doWeek_50 : decode cX6_doWeek 50 = .ok (.iconst 0, 1) := by decide +kernel
theorem dX6_doWeek_51 : decode cX6_doWeek 51 = .ok (.iadd, 1) := by decide +kernel
theorem dX6_doWeek_52 : decode cX6_doWeek 52 = .ok (.iastore, 1) := by decide +kernel
theorem dX6_doWeek_53 : decode cX6_doWeek 53 = .ok (.iinc 1 1, 3) := by decide +kernel
theorem dX6_doWeek_56 : decode cX6_doWeek 56 = .ok (.goto (-50), 3) := by decide +kernel
theorem dX6_doWeek_59 : decode cX6_doWeek 59 = .ok (.return_, 1) := by decide +kernel
def p6_doWeek_51 (k6 : Int32 → SX → Option SX) (v1 : Int32) (t1 : Int32) (t2 : Int32) (t3 : Int32) (M : SX) : Option SX :=
  gd (bIn t1 3964) ( lt_ (wI M 1 (Int32.toNatClampNeg t1) (t2 + t3)) (fun M2 => lt_ (v1 + 1) (fun x3 => k6 x3 M2)))
set_option maxHeartbeats 4000000 in
set_option maxRecDepth 100000 in
theorem w6_doWeek_51 {G : XG} {p : Program} {l : Launch} {e : Env} {s : State} {m : MethodId} {args : Array Value} {below : List Frame} {meth : Method} {c : Code} (F : Fx G ZY p m c cX6_doWeek 2 s args RX6) (hr : meth.sig.returnType = none) (hk : meth.locks = false) {M' : SX} (k6 : Int32 → SX → Option SX) (hk6 : ∀ (v1 : Int32) (M : SX) (H : Heap) (locs : List Loc) (ls : Array Slot), Wld G ZY M s.heap H locs → lv_has ls 2 [(0, .ref (G.2.1 0)), (1, .int v1)] → k6 v1 M = some M' → WXv G ZY p l e 1 s m args below meth c M' H locs (F0 m 6 ls [])) : ∀ (v1 : Int32) (t1 : Int32) (t2 : Int32) (t3 : Int32) (M : SX) (H : Heap) (locs : List Loc) (ls : Array Slot), Wld G ZY M s.heap H locs → lv_has ls 2 [(0, .ref (G.2.1 0)), (1, .int v1)] → p6_doWeek_51 k6 v1 t1 t2 t3 M = some M' → WXv G ZY p l e 1 s m args below meth c M' H locs (F0 m 51 ls [.int t3, .int t2, .int t1, .ref (G.2.1 1)]) := by
  intro v1 t1 t2 t3 M H locs ls hw hl hf
  have hx := F.1.1
  have hb := F.1.2.1
  unfold p6_doWeek_51 at hf
  refine lv_iadd hx hb dX6_doWeek_51 ?_
  obtain ⟨g1, hf⟩ := gd_some hf
  refine x_iast F hw sM1 g1 dX6_doWeek_52 (fun H locs hw => ?_)
  obtain ⟨M2, eM2, hf⟩ := lt_elim hf
  rw [← eM2] at hw
  obtain ⟨x3, ex3, hf⟩ := lt_elim hf
  refine lv_iinc (v := x3) (lv' := [(1, .int x3), (0, .ref (G.2.1 0))]) hx hb dX6_doWeek_53 hl (k := 1) rfl (by rw [ex3]; rfl) (by decide) rfl (fun ls hl => ?_)
  refine lv_goto (tgt := 6) hx hb dX6_doWeek_56 (by decide) ?_
  exact hk6 x3 M2 _ _ ls hw (lv_sub hl [1, 0] rfl) hf
def p6_doWeek_50 (k6 : Int32 → SX → Option SX) (v1 : Int32) (t1 : Int32) (t2 : Int32) (M : SX) : Option SX :=
  p6_doWeek_51 k6 v1 t1 t2 0 M
set_option maxHeartbeats 4000000 in
set_option maxRecDepth 100000 in
theorem w6_doWeek_50 {G : XG} {p : Program} {l : Launch} {e : Env} {s : State} {m : MethodId} {args : Array Value} {below : List Frame} {meth : Method} {c : Code} (F : Fx G ZY p m c cX6_doWeek 2 s args RX6) (hr : meth.sig.returnType = none) (hk : meth.locks = false) {M' : SX} (k6 : Int32 → SX → Option SX) (hk6 : ∀ (v1 : Int32) (M : SX) (H : Heap) (locs : List Loc) (ls : Array Slot), Wld G ZY M s.heap H locs → lv_has ls 2 [(0, .ref (G.2.1 0)), (1, .int v1)] → k6 v1 M = some M' → WXv G ZY p l e 1 s m args below meth c M' H locs (F0 m 6 ls [])) : ∀ (v1 : Int32) (t1 : Int32) (t2 : Int32) (M : SX) (H : Heap) (locs : List Loc) (ls : Array Slot), Wld G ZY M s.heap H locs → lv_has ls 2 [(0, .ref (G.2.1 0)), (1, .int v1)] → p6_doWeek_50 k6 v1 t1 t2 M = some M' → WXv G ZY p l e 1 s m args below meth c M' H locs (F0 m 50 ls [.int t2, .int t1, .ref (G.2.1 1)]) := by
  intro v1 t1 t2 M H locs ls hw hl hf
  have hx := F.1.1
  have hb := F.1.2.1
  unfold p6_doWeek_50 at hf
  refine lv_iconst (v := 0) hx hb dX6_doWeek_50 (by decide) ?_
  exact w6_doWeek_51 F hr hk k6 hk6 v1 t1 t2 0 M _ _ ls hw (lv_sub hl [0, 1] rfl) hf
def p6_doWeek_6 (k6 : Int32 → SX → Option SX) (v1 : Int32) (M : SX) : Option SX :=
  if (M.1 0 1) ≤ v1 then (some M)
  else (gd (bIn (19 + v1) 3964) ( bd (p6_isPawned v1 M) (fun r5 M4 => if r5 = 0 then (p6_doWeek_50 k6 v1 (19 + v1) (M.1 1 (Int32.toNatClampNeg (19 + v1))) M4)
  else (if (99 : Int32) ≤ (M4.1 1 (Int32.toNatClampNeg (19 + v1))) then (p6_doWeek_50 k6 v1 (19 + v1) (M.1 1 (Int32.toNatClampNeg (19 + v1))) M4)
  else (p6_doWeek_51 k6 v1 (19 + v1) (M.1 1 (Int32.toNatClampNeg (19 + v1))) 1 M4)))))
set_option maxHeartbeats 4000000 in
set_option maxRecDepth 100000 in
theorem w6_doWeek_6 {G : XG} {p : Program} {l : Launch} {e : Env} {s : State} {m : MethodId} {args : Array Value} {below : List Frame} {meth : Method} {c : Code} (F : Fx G ZY p m c cX6_doWeek 2 s args RX6) (hr : meth.sig.returnType = none) (hk : meth.locks = false) {M' : SX} (k6 : Int32 → SX → Option SX) (hk6 : ∀ (v1 : Int32) (M : SX) (H : Heap) (locs : List Loc) (ls : Array Slot), Wld G ZY M s.heap H locs → lv_has ls 2 [(0, .ref (G.2.1 0)), (1, .int v1)] → k6 v1 M = some M' → WXv G ZY p l e 1 s m args below meth c M' H locs (F0 m 6 ls [])) : ∀ (v1 : Int32) (M : SX) (H : Heap) (locs : List Loc) (ls : Array Slot), Wld G ZY M s.heap H locs → lv_has ls 2 [(0, .ref (G.2.1 0)), (1, .int v1)] → p6_doWeek_6 k6 v1 M = some M' → WXv G ZY p l e 1 s m args below meth c M' H locs (F0 m 6 ls []) := by
  intro v1 M H locs ls hw hl hf
  have hx := F.1.1
  have hb := F.1.2.1
  unfold p6_doWeek_6 at hf
  refine lv_iload_n hx hb dX6_doWeek_6 rfl (lv_at hl 1 rfl) ?_
  refine lv_aload_n hx hb dX6_doWeek_7 rfl (lv_at hl 0 rfl) ?_
  refine g6_1 F hw tw_611 dX6_doWeek_8 ?_
  refine lv_icmp_ge (tgt := 59) hx hb dX6_doWeek_11 (by decide) (fun c1 => ?_) (fun c1 => ?_)
  · have hf := it_t hf c1
    exact x_vret F hw hr hk hf dX6_doWeek_59
  · have hf := it_f hf c1
    refine lv_aload_n hx hb dX6_doWeek_14 rfl (lv_at hl 0 rfl) ?_
    refine g6_0 F hw tw_610 dX6_doWeek_15 ?_
    refine lv_bipush (v := 19) hx hb dX6_doWeek_18 (by decide) ?_
    refine lv_iload_n hx hb dX6_doWeek_20 rfl (lv_at hl 1 rfl) ?_
    refine lv_iadd hx hb dX6_doWeek_21 ?_
    refine lv_dup2_11 hx hb dX6_doWeek_22 rfl rfl ?_
    obtain ⟨g2, hf⟩ := gd_some hf
    refine x_iald F hw sM1 g2 dX6_doWeek_23 ?_
    refine lv_aload_n hx hb dX6_doWeek_24 rfl (lv_at hl 0 rfl) ?_
    refine lv_iload_n hx hb dX6_doWeek_25 rfl (lv_at hl 1 rfl) ?_
    obtain ⟨r5, M4, hc3, hf⟩ := bd_some hf
    refine x_aftI hw (x_runV (rest := [.int (M.1 1 (Int32.toNatClampNeg (19 + v1))), .int (19 + v1), .ref (G.2.1 1)]) F hw hl.1 vw_RX6_143 (sM) rfl (c6_isPawned v1 hc3) rfl rfl (Nat.le_of_ble_eq_true rfl) ⟨Nat.le_of_ble_eq_true rfl, Nat.le_of_ble_eq_true rfl⟩ dX6_doWeek_26) (fun H locs hw => ?_)
    refine lv_if_eq (tgt := 50) hx hb dX6_doWeek_29 (by decide) (fun c6 => ?_) (fun c6 => ?_)
    · have hf := it_t hf c6
      exact w6_doWeek_50 F hr hk k6 hk6 v1 (19 + v1) (M.1 1 (Int32.toNatClampNeg (19 + v1))) M4 _ _ ls hw (lv_sub hl [0, 1] rfl) hf
    · have hf := it_f hf c6
      refine lv_aload_n hx hb dX6_doWeek_32 rfl (lv_at hl 0 rfl) ?_
      refine g6_0 F hw tw_610 dX6_doWeek_33 ?_
      refine lv_bipush (v := 19) hx hb dX6_doWeek_36 (by decide) ?_
      refine lv_iload_n hx hb dX6_doWeek_38 rfl (lv_at hl 1 rfl) ?_
      refine lv_iadd hx hb dX6_doWeek_39 ?_
      refine x_iald F hw sM1 g2 dX6_doWeek_40 ?_
      refine lv_bipush (v := 99) hx hb dX6_doWeek_41 (by decide) ?_
      refine lv_icmp_ge (tgt := 50) hx hb dX6_doWeek_43 (by decide) (fun c7 => ?_) (fun c7 => ?_)
      · have hf := it_t hf c7
        exact w6_doWeek_50 F hr hk k6 hk6 v1 (19 + v1) (M.1 1 (Int32.toNatClampNeg (19 + v1))) M4 _ _ ls hw (lv_sub hl [0, 1] rfl) hf
      · have hf := it_f hf c7
        refine lv_iconst (v := 1) hx hb dX6_doWeek_46 (by decide) ?_
        refine lv_goto (tgt := 51) hx hb dX6_doWeek_47 (by decide) ?_
        exact w6_doWeek_51 F hr hk k6 hk6 v1 (19 + v1) (M.1 1 (Int32.toNatClampNeg (19 + v1))) 1 M4 _ _ ls hw (lv_sub hl [0, 1] rfl) hf
theorem z6_doWeek_6 {G : XG} {p : Program} {l : Launch} {e : Env} {s : State} {m : MethodId} {args : Array Value} {below : List Frame} {meth : Method} {c : Code} (F : Fx G ZY p m c cX6_doWeek 2 s args RX6) (hr : meth.sig.returnType = none) (hk : meth.locks = false) {M' : SX} : ∀ n : Nat, ∀ (v1 : Int32) (M : SX) (H : Heap) (locs : List Loc) (ls : Array Slot), Wld G ZY M s.heap H locs → lv_has ls 2 [(0, .ref (G.2.1 0)), (1, .int v1)] → xlp1 p6_doWeek_6 n v1 M = some M' → WXv G ZY p l e 1 s m args below meth c M' H locs (F0 m 6 ls []) := by
  intro n
  induction n with
  | zero => intro _ _ _ _ _ _ _ hf; cases hf
  | succ n ih => exact w6_doWeek_6 F hr hk (xlp1 p6_doWeek_6 n) ih
def p6_doWeek (M : SX) : Option SX :=
  bv (p6_keepPast M) (fun M2 => xlp1 p6_doWeek_6 FU 0 M2)
set_option maxHeartbeats 4000000 in
set_option maxRecDepth 100000 in
theorem c6_doWeek {l : Launch} {G : XG} {M' : SX} {M : SX} (hf : p6_doWeek M = some M') : Met l yX6_doWeek (.code yX6_doWeek cX6_doWeek 2 none :: TBL) (rmX 1) (xPc G ZY M [.ref (G.2.1 0)]) (xQv G ZY M') 0 0 (inA G ZY) := by
  refine x_met (cc := cX6_doWeek) (by decide) (Nat.le_of_ble_eq_true rfl) ?_
  intro p e s m below meth c ls F hr hk hl hw
  have F : Fx G ZY p m c cX6_doWeek 2 s [.ref (G.2.1 0)].toArray RX6 := F
  have hl : lv_has ls 2 [(0, .ref (G.2.1 0))] := hl
  have hx := F.1.1
  have hb := F.1.2.1
  unfold p6_doWeek at hf
  refine lv_aload_n hx hb dX6_doWeek_0 rfl (lv_at hl 0 rfl) ?_
  obtain ⟨M2, hc1, hf⟩ := bv_some hf
  refine x_aftV hw (x_runV (rest := []) F hw hl.1 vw_RX6_178 (sM) rfl (c6_keepPast hc1) rfl rfl (Nat.le_of_ble_eq_true rfl) ⟨Nat.le_of_ble_eq_true rfl, Nat.le_of_ble_eq_true rfl⟩ dX6_doWeek_1) (fun H locs hw => ?_)
  refine lv_iconst (v := 0) hx hb dX6_doWeek_4 (by decide) ?_
  refine lv_istore_n (lv' := [(1, .int 0), (0, .ref (G.2.1 0))]) hx hb dX6_doWeek_5 rfl hl (by decide) rfl (fun ls hl => ?_)
  exact z6_doWeek_6 F hr hk FU 0 M2 _ _ ls hw (lv_sub hl [1, 0] rfl) hf
theorem dX6_doGive_0 : decode cX6_doGive 0 = .ok (.aload_n 0, 1) := by decide +kernel
theorem dX6_doGive_1 : decode cX6_doGive 1 = .ok (.invokevirtual 178, 3) := by decide +kernel
theorem dX6_doGive_4 : decode cX6_doGive 4 = .ok (.aload_n 0, 1) := by decide +kernel
theorem dX6_doGive_5 : decode cX6_doGive 5 = .ok (.getfield 7, 3) := by decide +kernel
theorem dX6_doGive_8 : decode cX6_doGive 8 = .ok (.iconst 1, 1) := by decide +kernel
theorem dX6_doGive_9 : decode cX6_doGive 9 = .ok (.iload_n 1, 1) := by decide +kernel
theorem dX6_doGive_10 : decode cX6_doGive 10 = .ok (.iadd, 1) := by decide +kernel
theorem dX6_doGive_11 : decode cX6_doGive 11 = .ok (.dup2, 1) := by decide +kernel
theorem dX6_doGive_12 : decode cX6_doGive 12 = .ok (.iaload, 1) := by decide +kernel
theorem dX6_doGive_13 : decode cX6_doGive 13 = .ok (.iload_n 2, 1) := by decide +kernel
theorem dX6_doGive_14 : decode cX6_doGive 14 = .ok (.iadd, 1) := by decide +kernel
theorem dX6_doGive_15 : decode cX6_doGive 15 = .ok (.iastore, 1) := by decide +kernel
theorem dX6_doGive_16 : decode cX6_doGive 16 = .ok (.aload_n 0, 1) := by decide +kernel
theorem dX6_doGive_17 : decode cX6_doGive 17 = .ok (.getfield 7, 3) := by decide +kernel
theorem dX6_doGive_20 : decode cX6_doGive 20 = .ok (.iconst 1, 1) := by decide +kernel
theorem dX6_doGive_21 : decode cX6_doGive 21 = .ok (.iload_n 1, 1) := by decide +kernel
theorem dX6_doGive_22 : decode cX6_doGive 22 = .ok (.iadd, 1) := by decide +kernel
theorem dX6_doGive_23 : decode cX6_doGive 23 = .ok (.iaload, 1) := by decide +kernel
theorem dX6_doGive_24 : decode cX6_doGive 24 = .ok (.ireturn, 1) := by decide +kernel
def p6_doGive (a1 : Int32) (a2 : Int32) (M : SX) : Option (Int32 × SX) :=
  bv (p6_keepPast M) (fun M2 => gd (bIn (1 + a1) 3964) ( lt_ (wI M2 1 (Int32.toNatClampNeg (1 + a1)) ((M2.1 1 (Int32.toNatClampNeg (1 + a1))) + a2)) (fun M4 => some (M4.1 1 (Int32.toNatClampNeg (1 + a1)), M4))))
set_option maxHeartbeats 4000000 in
set_option maxRecDepth 100000 in
theorem c6_doGive {l : Launch} {G : XG} {r : Int32} {M' : SX} {M : SX} (a1 : Int32) (a2 : Int32) (hf : p6_doGive a1 a2 M = some (r, M')) : Met l yX6_doGive (.code yX6_doGive cX6_doGive 3 (some .int) :: TBL) (rmX 1) (xPc G ZY M [.ref (G.2.1 0), .int a1, .int a2]) (xQi G ZY r M') 0 0 (inA G ZY) := by
  refine x_met (cc := cX6_doGive) (by decide) (Nat.le_of_ble_eq_true rfl) ?_
  intro p e s m below meth c ls F hr hk hl hw
  have F : Fx G ZY p m c cX6_doGive 3 s [.ref (G.2.1 0), .int a1, .int a2].toArray RX6 := F
  have hl : lv_has ls 3 [(0, .ref (G.2.1 0)), (1, .int a1), (2, .int a2)] := hl
  have hx := F.1.1
  have hb := F.1.2.1
  unfold p6_doGive at hf
  refine lv_aload_n hx hb dX6_doGive_0 rfl (lv_at hl 0 rfl) ?_
  obtain ⟨M2, hc1, hf⟩ := bv_some hf
  refine x_aftV hw (x_runV (rest := []) F hw hl.1 vw_RX6_178 (sM) rfl (c6_keepPast hc1) rfl rfl (Nat.le_of_ble_eq_true rfl) ⟨Nat.le_of_ble_eq_true rfl, Nat.le_of_ble_eq_true rfl⟩ dX6_doGive_1) (fun H locs hw => ?_)
  refine lv_aload_n hx hb dX6_doGive_4 rfl (lv_at hl 0 rfl) ?_
  refine g6_0 F hw tw_610 dX6_doGive_5 ?_
  refine lv_iconst (v := 1) hx hb dX6_doGive_8 (by decide) ?_
  refine lv_iload_n hx hb dX6_doGive_9 rfl (lv_at hl 1 rfl) ?_
  refine lv_iadd hx hb dX6_doGive_10 ?_
  refine lv_dup2_11 hx hb dX6_doGive_11 rfl rfl ?_
  obtain ⟨g3, hf⟩ := gd_some hf
  refine x_iald F hw sM1 g3 dX6_doGive_12 ?_
  refine lv_iload_n hx hb dX6_doGive_13 rfl (lv_at hl 2 rfl) ?_
  refine lv_iadd hx hb dX6_doGive_14 ?_
  refine x_iast F hw sM1 g3 dX6_doGive_15 (fun H locs hw => ?_)
  obtain ⟨M4, eM4, hf⟩ := lt_elim hf
  rw [← eM4] at hw
  refine lv_aload_n hx hb dX6_doGive_16 rfl (lv_at hl 0 rfl) ?_
  refine g6_0 F hw tw_610 dX6_doGive_17 ?_
  refine lv_iconst (v := 1) hx hb dX6_doGive_20 (by decide) ?_
  refine lv_iload_n hx hb dX6_doGive_21 rfl (lv_at hl 1 rfl) ?_
  refine lv_iadd hx hb dX6_doGive_22 ?_
  refine x_iald F hw sM1 g3 dX6_doGive_23 ?_
  exact x_iret F hw hr hk hf dX6_doGive_24
