theorem dX1_clear_0 : decode cX1_clear 0 = .ok (.aload_n 0, 1) := by decide +kernel
theorem dX1_clear_1 : decode cX1_clear 1 = .ok (.iconst 0, 1) := by decide +kernel
theorem dX1_clear_2 : decode cX1_clear 2 = .ok (.putfield 9, 3) := by decide +kernel
theorem dX1_clear_5 : decode cX1_clear 5 = .ok (.aload_n 0, 1) := by decide +kernel
theorem dX1_clear_6 : decode cX1_clear 6 = .ok (.getfield 37, 3) := by decide +kernel
theorem dX1_clear_9 : decode cX1_clear 9 = .ok (.iconst 0, 1) := by decide +kernel
theorem dX1_clear_10 : decode cX1_clear 10 = .ok (.putfield 41, 3) := by decide +kernel
theorem dX1_clear_13 : decode cX1_clear 13 = .ok (.return_, 1) := by decide +kernel
def p1_clear (b : Nat) (M : SX) : Option SX :=
  lt_ (wI M b 0 0) (fun M1 => lt_ (wI M1 (b + 7) 1 0) (fun M2 => some M2))
set_option maxHeartbeats 4000000 in
set_option maxRecDepth 100000 in
theorem c1_clear {l : Launch} {G : XG} {M' : SX} {M : SX} (b : Nat) (qb : isL b) (hf : p1_clear b M = some M') : Met l yX1_clear (.code yX1_clear cX1_clear 1 none :: TBL) (rmX 0) (xPc G ZX M [.ref (G.2.1 b)]) (xQv G ZX M') 0 0 (inA G ZX) := by
  refine x_met (cc := cX1_clear) (by decide) (Nat.le_of_ble_eq_true rfl) ?_
  intro p e s m below meth c ls F hr hk hl hw
  have F : Fx G ZX p m c cX1_clear 1 s [.ref (G.2.1 b)].toArray RX1 := F
  have hl : lv_has ls 1 [(0, .ref (G.2.1 b))] := hl
  have hx := F.1.1
  have hb := F.1.2.1
  unfold p1_clear at hf
  refine lv_aload_n hx hb dX1_clear_0 rfl (lv_at hl 0 rfl) ?_
  refine lv_iconst (v := 0) hx hb dX1_clear_1 (by decide) ?_
  refine s1_0 qb F hw tw_41 dX1_clear_2 (fun H locs hw => ?_)
  obtain ⟨M1, eM1, hf⟩ := lt_elim hf
  rw [← eM1] at hw
  refine lv_aload_n hx hb dX1_clear_5 rfl (lv_at hl 0 rfl) ?_
  refine g1_7 qb F hw tw_42 dX1_clear_6 ?_
  refine lv_iconst (v := 0) hx hb dX1_clear_9 (by decide) ?_
  refine s0_1 (isD_of qb) F hw tw_43 dX1_clear_10 (fun H locs hw => ?_)
  obtain ⟨M2, eM2, hf⟩ := lt_elim hf
  rw [← eM2] at hw
  exact x_vret F hw hr hk hf dX1_clear_13
theorem dX1_setTicket_0 : decode cX1_setTicket 0 = .ok (.aload_n 0, 1) := by decide +kernel
theorem dX1_setTicket_1 : decode cX1_setTicket 1 = .ok (.getfield 25, 3) := by decide +kernel
theorem dX1_setTicket_4 : decode cX1_setTicket 4 = .ok (.iload_n 1, 1) := by decide +kernel
theorem dX1_setTicket_5 : decode cX1_setTicket 5 = .ok (.iload_n 2, 1) := by decide +kernel
theorem dX1_setTicket_6 : decode cX1_setTicket 6 = .ok (.iastore, 1) := by decide +kernel
theorem dX1_setTicket_7 : decode cX1_setTicket 7 = .ok (.aload_n 0, 1) := by decide +kernel
theorem dX1_setTicket_8 : decode cX1_setTicket 8 = .ok (.getfield 28, 3) := by decide +kernel
theorem dX1_setTicket_11 : decode cX1_setTicket 11 = .ok (.iload_n 1, 1) := by decide +kernel
theorem dX1_setTicket_12 : decode cX1_setTicket 12 = .ok (.iload_n 3, 1) := by decide +kernel
theorem dX1_setTicket_13 : decode cX1_setTicket 13 = .ok (.iastore, 1) := by decide +kernel
theorem dX1_setTicket_14 : decode cX1_setTicket 14 = .ok (.aload_n 0, 1) := by decide +kernel
theorem dX1_setTicket_15 : decode cX1_setTicket 15 = .ok (.getfield 31, 3) := by decide +kernel
theorem dX1_setTicket_18 : decode cX1_setTicket 18 = .ok (.iload_n 1, 1) := by decide +kernel
theorem dX1_setTicket_19 : decode cX1_setTicket 19 = .ok (.iload 4, 2) := by decide +kernel
theorem dX1_setTicket_21 : decode cX1_setTicket 21 = .ok (.iastore, 1) := by decide +kernel
theorem dX1_setTicket_22 : decode cX1_setTicket 22 = .ok (.return_, 1) := by decide +kernel
def p1_setTicket (b : Nat) (a1 : Int32) (a2 : Int32) (a3 : Int32) (a4 : Int32) (M : SX) : Option SX :=
  gd (bIn a1 6) ( lt_ (wI M (b + 4) (Int32.toNatClampNeg a1) a2) (fun M2 => lt_ (wI M2 (b + 5) (Int32.toNatClampNeg a1) a3) (fun M3 => lt_ (wI M3 (b + 6) (Int32.toNatClampNeg a1) a4) (fun M4 => some M4))))
set_option maxHeartbeats 4000000 in
set_option maxRecDepth 100000 in
theorem c1_setTicket {l : Launch} {G : XG} {M' : SX} {M : SX} (b : Nat) (qb : isL b) (a1 : Int32) (a2 : Int32) (a3 : Int32) (a4 : Int32) (hf : p1_setTicket b a1 a2 a3 a4 M = some M') : Met l yX1_setTicket (.code yX1_setTicket cX1_setTicket 5 none :: TBL) (rmX 0) (xPc G ZX M [.ref (G.2.1 b), .int a1, .int a2, .int a3, .int a4]) (xQv G ZX M') 0 0 (inA G ZX) := by
  refine x_met (cc := cX1_setTicket) (by decide) (Nat.le_of_ble_eq_true rfl) ?_
  intro p e s m below meth c ls F hr hk hl hw
  have F : Fx G ZX p m c cX1_setTicket 5 s [.ref (G.2.1 b), .int a1, .int a2, .int a3, .int a4].toArray RX1 := F
  have hl : lv_has ls 5 [(0, .ref (G.2.1 b)), (1, .int a1), (2, .int a2), (3, .int a3), (4, .int a4)] := hl
  have hx := F.1.1
  have hb := F.1.2.1
  unfold p1_setTicket at hf
  refine lv_aload_n hx hb dX1_setTicket_0 rfl (lv_at hl 0 rfl) ?_
  refine g1_4 qb F hw tw_44 dX1_setTicket_1 ?_
  refine lv_iload_n hx hb dX1_setTicket_4 rfl (lv_at hl 1 rfl) ?_
  refine lv_iload_n hx hb dX1_setTicket_5 rfl (lv_at hl 2 rfl) ?_
  obtain ⟨g1, hf⟩ := gd_some hf
  refine x_iast F hw (sL4 qb) g1 dX1_setTicket_6 (fun H locs hw => ?_)
  obtain ⟨M2, eM2, hf⟩ := lt_elim hf
  rw [← eM2] at hw
  refine lv_aload_n hx hb dX1_setTicket_7 rfl (lv_at hl 0 rfl) ?_
  refine g1_5 qb F hw tw_45 dX1_setTicket_8 ?_
  refine lv_iload_n hx hb dX1_setTicket_11 rfl (lv_at hl 1 rfl) ?_
  refine lv_iload_n hx hb dX1_setTicket_12 rfl (lv_at hl 3 rfl) ?_
  refine x_iast F hw (sL5 qb) g1 dX1_setTicket_13 (fun H locs hw => ?_)
  obtain ⟨M3, eM3, hf⟩ := lt_elim hf
  rw [← eM3] at hw
  refine lv_aload_n hx hb dX1_setTicket_14 rfl (lv_at hl 0 rfl) ?_
  refine g1_6 qb F hw tw_46 dX1_setTicket_15 ?_
  refine lv_iload_n hx hb dX1_setTicket_18 rfl (lv_at hl 1 rfl) ?_
  refine lv_iload hx hb dX1_setTicket_19 (lv_at hl 4 rfl) ?_
  refine x_iast F hw (sL6 qb) g1 dX1_setTicket_21 (fun H locs hw => ?_)
  obtain ⟨M4, eM4, hf⟩ := lt_elim hf
  rw [← eM4] at hw
  exact x_vret F hw hr hk hf dX1_setTicket_22
theorem dX1_isShop_0 : decode cX1_isShop 0 = .ok (.iload_n 1, 1) := by decide +kernel
theorem dX1_isShop_1 : decode cX1_isShop 1 = .ok (.ifCond .lt 15, 3) := by decide +kernel
theorem dX1_isShop_4 : decode cX1_isShop 4 = .ok (.iload_n 1, 1) := by decide +kernel
theorem dX1_isShop_5 : decode cX1_isShop 5 = .ok (.aload_n 0, 1) := by decide +kernel
theorem dX1_isShop_6 : decode cX1_isShop 6 = .ok (.getfield 9, 3) := by decide +kernel
theorem dX1_isShop_9 : decode cX1_isShop 9 = .ok (.if_icmp .ge 7, 3) := by decide +kernel
theorem dX1_isShop_12 : decode cX1_isShop 12 = .ok (.iconst 1, 1) := by decide +kernel
theorem dX1_isShop_13 : decode cX1_isShop 13 = .ok (.goto 4, 3) := by decide +kernel
theorem dX1_isShop_16 : decode cX1_isShop 16 = .ok (.iconst 0, 1) := by decide +kernel
theorem dX1_isShop_17 : decode cX1_isShop 17 = .ok (.ireturn, 1) := by decide +kernel
def p1_isShop (b : Nat) (a1 : Int32) (M : SX) : Option (Int32 × SX) :=
  if a1 < 0 then (some (0, M))
  else (if (M.1 b 0) ≤ a1 then (some (0, M))
  else (some (1, M)))
set_option maxHeartbeats 4000000 in
set_option maxRecDepth 100000 in
theorem c1_isShop {l : Launch} {G : XG} {r : Int32} {M' : SX} {M : SX} (b : Nat) (qb : isL b) (a1 : Int32) (hf : p1_isShop b a1 M = some (r, M')) : Met l yX1_isShop (.code yX1_isShop cX1_isShop 2 (some .boolean) :: TBL) (rmX 0) (xPc G ZX M [.ref (G.2.1 b), .int a1]) (xQi G ZX r M') 0 0 (inA G ZX) := by
  refine x_met (cc := cX1_isShop) (by decide) (Nat.le_of_ble_eq_true rfl) ?_
  intro p e s m below meth c ls F hr hk hl hw
  have F : Fx G ZX p m c cX1_isShop 2 s [.ref (G.2.1 b), .int a1].toArray RX1 := F
  have hl : lv_has ls 2 [(0, .ref (G.2.1 b)), (1, .int a1)] := hl
  have hx := F.1.1
  have hb := F.1.2.1
  unfold p1_isShop at hf
  refine lv_iload_n hx hb dX1_isShop_0 rfl (lv_at hl 1 rfl) ?_
  refine lv_if_lt (tgt := 16) hx hb dX1_isShop_1 (by decide) (fun c1 => ?_) (fun c1 => ?_)
  · have hf := it_t hf c1
    refine lv_iconst (v := 0) hx hb dX1_isShop_16 (by decide) ?_
    exact x_zret F hw hr hk (by decide) hf dX1_isShop_17
  · have hf := it_f hf c1
    refine lv_iload_n hx hb dX1_isShop_4 rfl (lv_at hl 1 rfl) ?_
    refine lv_aload_n hx hb dX1_isShop_5 rfl (lv_at hl 0 rfl) ?_
    refine g1_0 qb F hw tw_41 dX1_isShop_6 ?_
    refine lv_icmp_ge (tgt := 16) hx hb dX1_isShop_9 (by decide) (fun c2 => ?_) (fun c2 => ?_)
    · have hf := it_t hf c2
      refine lv_iconst (v := 0) hx hb dX1_isShop_16 (by decide) ?_
      exact x_zret F hw hr hk (by decide) hf dX1_isShop_17
    · have hf := it_f hf c2
      refine lv_iconst (v := 1) hx hb dX1_isShop_12 (by decide) ?_
      refine lv_goto (tgt := 17) hx hb dX1_isShop_13 (by decide) ?_
      exact x_zret F hw hr hk (by decide) hf dX1_isShop_17
theorem dX1_isPawned_0 : decode cX1_isPawned 0 = .ok (.aload_n 0, 1) := by decide +kernel
theorem dX1_isPawned_1 : decode cX1_isPawned 1 = .ok (.getfield 25, 3) := by decide +kernel
theorem dX1_isPawned_4 : decode cX1_isPawned 4 = .ok (.iload_n 1, 1) := by decide +kernel
theorem dX1_isPawned_5 : decode cX1_isPawned 5 = .ok (.iaload, 1) := by decide +kernel
theorem dX1_isPawned_6 : decode cX1_isPawned 6 = .ok (.bipush (-9), 2) := by decide +kernel
theorem dX1_isPawned_8 : decode cX1_isPawned 8 = .ok (.if_icmp .eq 7, 3) := by decide +kernel
theorem dX1_isPawned_11 : decode cX1_isPawned 11 = .ok (.iconst 1, 1) := by decide +kernel
theorem dX1_isPawned_12 : decode cX1_isPawned 12 = .ok (.goto 4, 3) := by decide +kernel
theorem dX1_isPawned_15 : decode cX1_isPawned 15 = .ok (.iconst 0, 1) := by decide +kernel
theorem dX1_isPawned_16 : decode cX1_isPawned 16 = .ok (.ireturn, 1) := by decide +kernel
def p1_isPawned (b : Nat) (a1 : Int32) (M : SX) : Option (Int32 × SX) :=
  gd (bIn a1 6) ( if (M.1 (b + 4) (Int32.toNatClampNeg a1)) = (-9 : Int32) then (some (0, M))
  else (some (1, M)))
set_option maxHeartbeats 4000000 in
set_option maxRecDepth 100000 in
theorem c1_isPawned {l : Launch} {G : XG} {r : Int32} {M' : SX} {M : SX} (b : Nat) (qb : isL b) (a1 : Int32) (hf : p1_isPawned b a1 M = some (r, M')) : Met l yX1_isPawned (.code yX1_isPawned cX1_isPawned 2 (some .boolean) :: TBL) (rmX 0) (xPc G ZX M [.ref (G.2.1 b), .int a1]) (xQi G ZX r M') 0 0 (inA G ZX) := by
  refine x_met (cc := cX1_isPawned) (by decide) (Nat.le_of_ble_eq_true rfl) ?_
  intro p e s m below meth c ls F hr hk hl hw
  have F : Fx G ZX p m c cX1_isPawned 2 s [.ref (G.2.1 b), .int a1].toArray RX1 := F
  have hl : lv_has ls 2 [(0, .ref (G.2.1 b)), (1, .int a1)] := hl
  have hx := F.1.1
  have hb := F.1.2.1
  unfold p1_isPawned at hf
  refine lv_aload_n hx hb dX1_isPawned_0 rfl (lv_at hl 0 rfl) ?_
  refine g1_4 qb F hw tw_44 dX1_isPawned_1 ?_
  refine lv_iload_n hx hb dX1_isPawned_4 rfl (lv_at hl 1 rfl) ?_
  obtain ⟨g1, hf⟩ := gd_some hf
  refine x_iald F hw (sL4 qb) g1 dX1_isPawned_5 ?_
  refine lv_bipush (v := (-9)) hx hb dX1_isPawned_6 (by decide) ?_
  refine lv_icmp_eq (tgt := 15) hx hb dX1_isPawned_8 (by decide) (fun c2 => ?_) (fun c2 => ?_)
  · have hf := it_t hf c2
    refine lv_iconst (v := 0) hx hb dX1_isPawned_15 (by decide) ?_
    exact x_zret F hw hr hk (by decide) hf dX1_isPawned_16
  · have hf := it_f hf c2
    refine lv_iconst (v := 1) hx hb dX1_isPawned_11 (by decide) ?_
    refine lv_goto (tgt := 16) hx hb dX1_isPawned_12 (by decide) ?_
    exact x_zret F hw hr hk (by decide) hf dX1_isPawned_16
theorem dX1_heldBy_0 : decode cX1_heldBy 0 = .ok (.iconst 0, 1) := by decide +kernel
theorem dX1_heldBy_1 : decode cX1_heldBy 1 = .ok (.istore_n 2, 1) := by decide +kernel
theorem dX1_heldBy_2 : decode cX1_heldBy 2 = .ok (.iconst 0, 1) := by decide +kernel
theorem dX1_heldBy_3 : decode cX1_heldBy 3 = .ok (.istore_n 3, 1) := by decide +kernel
theorem dX1_heldBy_4 : decode cX1_heldBy 4 = .ok (.iload_n 3, 1) := by decide +kernel
theorem dX1_heldBy_5 : decode cX1_heldBy 5 = .ok (.aload_n 0, 1) := by decide +kernel
theorem dX1_heldBy_6 : decode cX1_heldBy 6 = .ok (.getfield 9, 3) := by decide +kernel
theorem dX1_heldBy_9 : decode cX1_heldBy 9 = .ok (.if_icmp .ge 25, 3) := by decide +kernel
theorem dX1_heldBy_12 : decode cX1_heldBy 12 = .ok (.aload_n 0, 1) := by decide +kernel
theorem dX1_heldBy_13 : decode cX1_heldBy 13 = .ok (.getfield 25, 3) := by decide +kernel
theorem dX1_heldBy_16 : decode cX1_heldBy 16 = .ok (.iload_n 3, 1) := by decide +kernel
theorem dX1_heldBy_17 : decode cX1_heldBy 17 = .ok (.iaload, 1) := by decide +kernel
theorem dX1_heldBy_18 : decode cX1_heldBy 18 = .ok (.iload_n 1, 1) := by decide +kernel
theorem dX1_heldBy_19 : decode cX1_heldBy 19 = .ok (.if_icmp .ne 9, 3) := by decide +kernel
theorem dX1_heldBy_22 : decode cX1_heldBy 22 = .ok (.iload_n 2, 1) := by decide +kernel
theorem dX1_heldBy_23 : decode cX1_heldBy 23 = .ok (.iconst 1, 1) := by decide +kernel
theorem dX1_heldBy_24 : decode cX1_heldBy 24 = .ok (.iload_n 3, 1) := by decide +kernel
theorem dX1_heldBy_25 : decode cX1_heldBy 25 = .ok (.ishl, 1) := by decide +kernel
theorem dX1_heldBy_26 : decode cX1_heldBy 26 = .ok (.ior, 1) := by decide +kernel
theorem dX1_heldBy_27 : decode cX1_heldBy 27 = .ok (.istore_n 2, 1) := by decide +kernel
theorem dX1_heldBy_28 : decode cX1_heldBy 28 = .ok (.iinc 3 1, 3) := by decide +kernel
theorem dX1_heldBy_31 : decode cX1_heldBy 31 = .ok (.goto (-27), 3) := by decide +kernel
theorem dX1_heldBy_34 : decode cX1_heldBy 34 = .ok (.iload_n 2, 1) := by decide +kernel
theorem dX1_heldBy_35 : decode cX1_heldBy 35 = .ok (.ireturn, 1) := by decide +kernel
def p1_heldBy_28 (b : Nat) (k4 : Int32 → Int32 → Int32 → SX → Option (Int32 × SX)) (v1 : Int32) (v2 : Int32) (v3 : Int32) (M : SX) : Option (Int32 × SX) :=
  lt_ (v3 + 1) (fun x1 => k4 v1 v2 x1 M)
set_option maxHeartbeats 4000000 in
set_option maxRecDepth 100000 in
theorem w1_heldBy_28 {G : XG} {p : Program} {l : Launch} {e : Env} {s : State} {m : MethodId} {args : Array Value} {below : List Frame} {meth : Method} {c : Code} (F : Fx G ZX p m c cX1_heldBy 4 s args RX1) (hr : meth.sig.returnType = some .int) (hk : meth.locks = false) {r : Int32} {M' : SX} (b : Nat) (qb : isL b) (k4 : Int32 → Int32 → Int32 → SX → Option (Int32 × SX)) (hk4 : ∀ (v1 : Int32) (v2 : Int32) (v3 : Int32) (M : SX) (H : Heap) (locs : List Loc) (ls : Array Slot), Wld G ZX M s.heap H locs → lv_has ls 4 [(0, .ref (G.2.1 b)), (1, .int v1), (2, .int v2), (3, .int v3)] → k4 v1 v2 v3 M = some (r, M') → WXi G ZX p l e 0 s m args below meth c r M' H locs (F0 m 4 ls [])) : ∀ (v1 : Int32) (v2 : Int32) (v3 : Int32) (M : SX) (H : Heap) (locs : List Loc) (ls : Array Slot), Wld G ZX M s.heap H locs → lv_has ls 4 [(0, .ref (G.2.1 b)), (1, .int v1), (2, .int v2), (3, .int v3)] → p1_heldBy_28 b k4 v1 v2 v3 M = some (r, M') → WXi G ZX p l e 0 s m args below meth c r M' H locs (F0 m 28 ls []) := by
  intro v1 v2 v3 M H locs ls hw hl hf
  have hx := F.1.1
  have hb := F.1.2.1
  unfold p1_heldBy_28 at hf
  obtain ⟨x1, ex1, hf⟩ := lt_elim hf
  refine lv_iinc (v := x1) (lv' := [(3, .int x1), (0, .ref (G.2.1 b)), (1, .int v1), (2, .int v2)]) hx hb dX1_heldBy_28 hl (k := 3) rfl (by rw [ex1]; rfl) (by decide) rfl (fun ls hl => ?_)
  refine lv_goto (tgt := 4) hx hb dX1_heldBy_31 (by decide) ?_
  exact hk4 v1 v2 x1 M _ _ ls hw (lv_sub hl [1, 2, 3, 0] rfl) hf
def p1_heldBy_4 (b : Nat) (k4 : Int32 → Int32 → Int32 → SX → Option (Int32 × SX)) (v1 : Int32) (v2 : Int32) (v3 : Int32) (M : SX) : Option (Int32 × SX) :=
  if (M.1 b 0) ≤ v3 then (some (v2, M))
  else (gd (bIn v3 6) ( if (M.1 (b + 4) (Int32.toNatClampNeg v3)) = v1 then (lt_ (v2 ||| ((1 : Int32) <<< (v3 &&& 31))) (fun x4 => p1_heldBy_28 b k4 v1 x4 v3 M))
  else (p1_heldBy_28 b k4 v1 v2 v3 M)))
set_option maxHeartbeats 4000000 in
set_option maxRecDepth 100000 in
theorem w1_heldBy_4 {G : XG} {p : Program} {l : Launch} {e : Env} {s : State} {m : MethodId} {args : Array Value} {below : List Frame} {meth : Method} {c : Code} (F : Fx G ZX p m c cX1_heldBy 4 s args RX1) (hr : meth.sig.returnType = some .int) (hk : meth.locks = false) {r : Int32} {M' : SX} (b : Nat) (qb : isL b) (k4 : Int32 → Int32 → Int32 → SX → Option (Int32 × SX)) (hk4 : ∀ (v1 : Int32) (v2 : Int32) (v3 : Int32) (M : SX) (H : Heap) (locs : List Loc) (ls : Array Slot), Wld G ZX M s.heap H locs → lv_has ls 4 [(0, .ref (G.2.1 b)), (1, .int v1), (2, .int v2), (3, .int v3)] → k4 v1 v2 v3 M = some (r, M') → WXi G ZX p l e 0 s m args below meth c r M' H locs (F0 m 4 ls [])) : ∀ (v1 : Int32) (v2 : Int32) (v3 : Int32) (M : SX) (H : Heap) (locs : List Loc) (ls : Array Slot), Wld G ZX M s.heap H locs → lv_has ls 4 [(0, .ref (G.2.1 b)), (1, .int v1), (2, .int v2), (3, .int v3)] → p1_heldBy_4 b k4 v1 v2 v3 M = some (r, M') → WXi G ZX p l e 0 s m args below meth c r M' H locs (F0 m 4 ls []) := by
  intro v1 v2 v3 M H locs ls hw hl hf
  have hx := F.1.1
  have hb := F.1.2.1
  unfold p1_heldBy_4 at hf
  refine lv_iload_n hx hb dX1_heldBy_4 rfl (lv_at hl 3 rfl) ?_
  refine lv_aload_n hx hb dX1_heldBy_5 rfl (lv_at hl 0 rfl) ?_
  refine g1_0 qb F hw tw_41 dX1_heldBy_6 ?_
  refine lv_icmp_ge (tgt := 34) hx hb dX1_heldBy_9 (by decide) (fun c1 => ?_) (fun c1 => ?_)
  · have hf := it_t hf c1
    refine lv_iload_n hx hb dX1_heldBy_34 rfl (lv_at hl 2 rfl) ?_
    exact x_iret F hw hr hk hf dX1_heldBy_35
  · have hf := it_f hf c1
    refine lv_aload_n hx hb dX1_heldBy_12 rfl (lv_at hl 0 rfl) ?_
    refine g1_4 qb F hw tw_44 dX1_heldBy_13 ?_
    refine lv_iload_n hx hb dX1_heldBy_16 rfl (lv_at hl 3 rfl) ?_
    obtain ⟨g2, hf⟩ := gd_some hf
    refine x_iald F hw (sL4 qb) g2 dX1_heldBy_17 ?_
    refine lv_iload_n hx hb dX1_heldBy_18 rfl (lv_at hl 1 rfl) ?_
    refine lv_icmp_ne (tgt := 28) hx hb dX1_heldBy_19 (by decide) (fun c3 => ?_) (fun c3 => ?_)
    · have hf := it_f hf c3
      exact w1_heldBy_28 F hr hk b qb k4 hk4 v1 v2 v3 M _ _ ls hw (lv_sub hl [0, 1, 2, 3] rfl) hf
    · have hf := it_t hf c3
      refine lv_iload_n hx hb dX1_heldBy_22 rfl (lv_at hl 2 rfl) ?_
      refine lv_iconst (v := 1) hx hb dX1_heldBy_23 (by decide) ?_
      refine lv_iload_n hx hb dX1_heldBy_24 rfl (lv_at hl 3 rfl) ?_
      refine lv_ishl hx hb dX1_heldBy_25 ?_
      refine lv_ior hx hb dX1_heldBy_26 ?_
      obtain ⟨x4, ex4, hf⟩ := lt_elim hf
      refine x_let ex4 ?_
      refine lv_istore_n (lv' := [(2, .int x4), (0, .ref (G.2.1 b)), (1, .int v1), (3, .int v3)]) hx hb dX1_heldBy_27 rfl hl (by decide) rfl (fun ls hl => ?_)
      exact w1_heldBy_28 F hr hk b qb k4 hk4 v1 x4 v3 M _ _ ls hw (lv_sub hl [1, 2, 0, 3] rfl) hf
theorem z1_heldBy_4 {G : XG} {p : Program} {l : Launch} {e : Env} {s : State} {m : MethodId} {args : Array Value} {below : List Frame} {meth : Method} {c : Code} (F : Fx G ZX p m c cX1_heldBy 4 s args RX1) (hr : meth.sig.returnType = some .int) (hk : meth.locks = false) {r : Int32} {M' : SX} (b : Nat) (qb : isL b) : ∀ n : Nat, ∀ (v1 : Int32) (v2 : Int32) (v3 : Int32) (M : SX) (H : Heap) (locs : List Loc) (ls : Array Slot), Wld G ZX M s.heap H locs → lv_has ls 4 [(0, .ref (G.2.1 b)), (1, .int v1), (2, .int v2), (3, .int v3)] → xlp3 (p1_heldBy_4 b) n v1 v2 v3 M = some (r, M') → WXi G ZX p l e 0 s m args below meth c r M' H locs (F0 m 4 ls []) := by
  intro n
  induction n with
  | zero => intro _ _ _ _ _ _ _ _ _ hf; cases hf
  | succ n ih => exact w1_heldBy_4 F hr hk b qb (xlp3 (p1_heldBy_4 b) n) ih
def p1_heldBy (b : Nat) (a1 : Int32) (M : SX) : Option (Int32 × SX) :=
  xlp3 (p1_heldBy_4 b) FU a1 0 0 M
set_option maxHeartbeats 4000000 in
set_option maxRecDepth 100000 in
theorem c1_heldBy {l : Launch} {G : XG} {r : Int32} {M' : SX} {M : SX} (b : Nat) (qb : isL b) (a1 : Int32) (hf : p1_heldBy b a1 M = some (r, M')) : Met l yX1_heldBy (.code yX1_heldBy cX1_heldBy 4 (some .int) :: TBL) (rmX 0) (xPc G ZX M [.ref (G.2.1 b), .int a1]) (xQi G ZX r M') 0 0 (inA G ZX) := by
  refine x_met (cc := cX1_heldBy) (by decide) (Nat.le_of_ble_eq_true rfl) ?_
  intro p e s m below meth c ls F hr hk hl hw
  have F : Fx G ZX p m c cX1_heldBy 4 s [.ref (G.2.1 b), .int a1].toArray RX1 := F
  have hl : lv_has ls 4 [(0, .ref (G.2.1 b)), (1, .int a1)] := hl
  have hx := F.1.1
  have hb := F.1.2.1
  unfold p1_heldBy at hf
  refine lv_iconst (v := 0) hx hb dX1_heldBy_0 (by decide) ?_
  refine lv_istore_n (lv' := [(2, .int 0), (0, .ref (G.2.1 b)), (1, .int a1)]) hx hb dX1_heldBy_1 rfl hl (by decide) rfl (fun ls hl => ?_)
  refine lv_iconst (v := 0) hx hb dX1_heldBy_2 (by decide) ?_
  refine lv_istore_n (lv' := [(3, .int 0), (2, .int 0), (0, .ref (G.2.1 b)), (1, .int a1)]) hx hb dX1_heldBy_3 rfl hl (by decide) rfl (fun ls hl => ?_)
  exact z1_heldBy_4 F hr hk b qb FU a1 0 0 M _ _ ls hw (lv_sub hl [2, 3, 1, 0] rfl) hf
theorem dX1_loansTo_0 : decode cX1_loansTo 0 = .ok (.iconst 0, 1) := by decide +kernel
theorem dX1_loansTo_1 : decode cX1_loansTo 1 = .ok (.istore_n 2, 1) := by decide +kernel
theorem dX1_loansTo_2 : decode cX1_loansTo 2 = .ok (.iconst 0, 1) := by decide +kernel
theorem dX1_loansTo_3 : decode cX1_loansTo 3 = .ok (.istore_n 3, 1) := by decide +kernel
theorem dX1_loansTo_4 : decode cX1_loansTo 4 = .ok (.iload_n 3, 1) := by decide +kernel
theorem dX1_loansTo_5 : decode cX1_loansTo 5 = .ok (.aload_n 0, 1) := by decide +kernel
theorem dX1_loansTo_6 : decode cX1_loansTo 6 = .ok (.getfield 9, 3) := by decide +kernel
theorem dX1_loansTo_9 : decode cX1_loansTo 9 = .ok (.if_icmp .ge 28, 3) := by decide +kernel
theorem dX1_loansTo_12 : decode cX1_loansTo 12 = .ok (.aload_n 0, 1) := by decide +kernel
theorem dX1_loansTo_13 : decode cX1_loansTo 13 = .ok (.getfield 25, 3) := by decide +kernel
theorem dX1_loansTo_16 : decode cX1_loansTo 16 = .ok (.iload_n 3, 1) := by decide +kernel
theorem dX1_loansTo_17 : decode cX1_loansTo 17 = .ok (.iaload, 1) := by decide +kernel
theorem dX1_loansTo_18 : decode cX1_loansTo 18 = .ok (.iload_n 1, 1) := by decide +kernel
theorem dX1_loansTo_19 : decode cX1_loansTo 19 = .ok (.if_icmp .ne 12, 3) := by decide +kernel
theorem dX1_loansTo_22 : decode cX1_loansTo 22 = .ok (.iload_n 2, 1) := by decide +kernel
theorem dX1_loansTo_23 : decode cX1_loansTo 23 = .ok (.aload_n 0, 1) := by decide +kernel
theorem dX1_loansTo_24 : decode cX1_loansTo 24 = .ok (.getfield 28, 3) := by decide +kernel
theorem dX1_loansTo_27 : decode cX1_loansTo 27 = .ok (.iload_n 3, 1) := by decide +kernel
theorem dX1_loansTo_28 : decode cX1_loansTo 28 = .ok (.iaload, 1) := by decide +kernel
theorem dX1_loansTo_29 : decode cX1_loansTo 29 = .ok (.iadd, 1) := by decide +kernel
theorem dX1_loansTo_30 : decode cX1_loansTo 30 = .ok (.istore_n 2, 1) := by decide +kernel
theorem dX1_loansTo_31 : decode cX1_loansTo 31 = .ok (.iinc 3 1, 3) := by decide +kernel
theorem dX1_loansTo_34 : decode cX1_loansTo 34 = .ok (.goto (-30), 3) := by decide +kernel
theorem dX1_loansTo_37 : decode cX1_loansTo 37 = .ok (.iload_n 2, 1) := by decide +kernel
theorem dX1_loansTo_38 : decode cX1_loansTo 38 = .ok (.ireturn, 1) := by decide +kernel
def p1_loansTo_31 (b : Nat) (k4 : Int32 → Int32 → Int32 → SX → Option (Int32 × SX)) (v1 : Int32) (v2 : Int32) (v3 : Int32) (M : SX) : Option (Int32 × SX) :=
  lt_ (v3 + 1) (fun x1 => k4 v1 v2 x1 M)
set_option maxHeartbeats 4000000 in
set_option maxRecDepth 100000 in
theorem w1_loansTo_31 {G : XG} {p : Program} {l : Launch} {e : Env} {s : State} {m : MethodId} {args : Array Value} {below : List Frame} {meth : Method} {c : Code} (F : Fx G ZX p m c cX1_loansTo 4 s args RX1) (hr : meth.sig.returnType = some .int) (hk : meth.locks = false) {r : Int32} {M' : SX} (b : Nat) (qb : isL b) (k4 : Int32 → Int32 → Int32 → SX → Option (Int32 × SX)) (hk4 : ∀ (v1 : Int32) (v2 : Int32) (v3 : Int32) (M : SX) (H : Heap) (locs : List Loc) (ls : Array Slot), Wld G ZX M s.heap H locs → lv_has ls 4 [(0, .ref (G.2.1 b)), (1, .int v1), (2, .int v2), (3, .int v3)] → k4 v1 v2 v3 M = some (r, M') → WXi G ZX p l e 0 s m args below meth c r M' H locs (F0 m 4 ls [])) : ∀ (v1 : Int32) (v2 : Int32) (v3 : Int32) (M : SX) (H : Heap) (locs : List Loc) (ls : Array Slot), Wld G ZX M s.heap H locs → lv_has ls 4 [(0, .ref (G.2.1 b)), (1, .int v1), (2, .int v2), (3, .int v3)] → p1_loansTo_31 b k4 v1 v2 v3 M = some (r, M') → WXi G ZX p l e 0 s m args below meth c r M' H locs (F0 m 31 ls []) := by
  intro v1 v2 v3 M H locs ls hw hl hf
  have hx := F.1.1
  have hb := F.1.2.1
  unfold p1_loansTo_31 at hf
  obtain ⟨x1, ex1, hf⟩ := lt_elim hf
  refine lv_iinc (v := x1) (lv' := [(3, .int x1), (0, .ref (G.2.1 b)), (1, .int v1), (2, .int v2)]) hx hb dX1_loansTo_31 hl (k := 3) rfl (by rw [ex1]; rfl) (by decide) rfl (fun ls hl => ?_)
  refine lv_goto (tgt := 4) hx hb dX1_loansTo_34 (by decide) ?_
  exact hk4 v1 v2 x1 M _ _ ls hw (lv_sub hl [1, 2, 3, 0] rfl) hf
def p1_loansTo_4 (b : Nat) (k4 : Int32 → Int32 → Int32 → SX → Option (Int32 × SX)) (v1 : Int32) (v2 : Int32) (v3 : Int32) (M : SX) : Option (Int32 × SX) :=
  if (M.1 b 0) ≤ v3 then (some (v2, M))
  else (gd (bIn v3 6) ( if (M.1 (b + 4) (Int32.toNatClampNeg v3)) = v1 then (lt_ (v2 + (M.1 (b + 5) (Int32.toNatClampNeg v3))) (fun x4 => p1_loansTo_31 b k4 v1 x4 v3 M))
  else (p1_loansTo_31 b k4 v1 v2 v3 M)))
set_option maxHeartbeats 4000000 in
set_option maxRecDepth 100000 in
theorem w1_loansTo_4 {G : XG} {p : Program} {l : Launch} {e : Env} {s : State} {m : MethodId} {args : Array Value} {below : List Frame} {meth : Method} {c : Code} (F : Fx G ZX p m c cX1_loansTo 4 s args RX1) (hr : meth.sig.returnType = some .int) (hk : meth.locks = false) {r : Int32} {M' : SX} (b : Nat) (qb : isL b) (k4 : Int32 → Int32 → Int32 → SX → Option (Int32 × SX)) (hk4 : ∀ (v1 : Int32) (v2 : Int32) (v3 : Int32) (M : SX) (H : Heap) (locs : List Loc) (ls : Array Slot), Wld G ZX M s.heap H locs → lv_has ls 4 [(0, .ref (G.2.1 b)), (1, .int v1), (2, .int v2), (3, .int v3)] → k4 v1 v2 v3 M = some (r, M') → WXi G ZX p l e 0 s m args below meth c r M' H locs (F0 m 4 ls [])) : ∀ (v1 : Int32) (v2 : Int32) (v3 : Int32) (M : SX) (H : Heap) (locs : List Loc) (ls : Array Slot), Wld G ZX M s.heap H locs → lv_has ls 4 [(0, .ref (G.2.1 b)), (1, .int v1), (2, .int v2), (3, .int v3)] → p1_loansTo_4 b k4 v1 v2 v3 M = some (r, M') → WXi G ZX p l e 0 s m args below meth c r M' H locs (F0 m 4 ls []) := by
  intro v1 v2 v3 M H locs ls hw hl hf
  have hx := F.1.1
  have hb := F.1.2.1
  unfold p1_loansTo_4 at hf
  refine lv_iload_n hx hb dX1_loansTo_4 rfl (lv_at hl 3 rfl) ?_
  refine lv_aload_n hx hb dX1_loansTo_5 rfl (lv_at hl 0 rfl) ?_
  refine g1_0 qb F hw tw_41 dX1_loansTo_6 ?_
  refine lv_icmp_ge (tgt := 37) hx hb dX1_loansTo_9 (by decide) (fun c1 => ?_) (fun c1 => ?_)
  · have hf := it_t hf c1
    refine lv_iload_n hx hb dX1_loansTo_37 rfl (lv_at hl 2 rfl) ?_
    exact x_iret F hw hr hk hf dX1_loansTo_38
  · have hf := it_f hf c1
    refine lv_aload_n hx hb dX1_loansTo_12 rfl (lv_at hl 0 rfl) ?_
    refine g1_4 qb F hw tw_44 dX1_loansTo_13 ?_
    refine lv_iload_n hx hb dX1_loansTo_16 rfl (lv_at hl 3 rfl) ?_
    obtain ⟨g2, hf⟩ := gd_some hf
    refine x_iald F hw (sL4 qb) g2 dX1_loansTo_17 ?_
    refine lv_iload_n hx hb dX1_loansTo_18 rfl (lv_at hl 1 rfl) ?_
    refine lv_icmp_ne (tgt := 31) hx hb dX1_loansTo_19 (by decide) (fun c3 => ?_) (fun c3 => ?_)
    · have hf := it_f hf c3
      exact w1_loansTo_31 F hr hk b qb k4 hk4 v1 v2 v3 M _ _ ls hw (lv_sub hl [0, 1, 2, 3] rfl) hf
    · have hf := it_t hf c3
      refine lv_iload_n hx hb dX1_loansTo_22 rfl (lv_at hl 2 rfl) ?_
      refine lv_aload_n hx hb dX1_loansTo_23 rfl (lv_at hl 0 rfl) ?_
      refine g1_5 qb F hw tw_45 dX1_loansTo_24 ?_
      refine lv_iload_n hx hb dX1_loansTo_27 rfl (lv_at hl 3 rfl) ?_
      refine x_iald F hw (sL5 qb) g2 dX1_loansTo_28 ?_
      refine lv_iadd hx hb dX1_loansTo_29 ?_
      obtain ⟨x4, ex4, hf⟩ := lt_elim hf
      refine x_let ex4 ?_
      refine lv_istore_n (lv' := [(2, .int x4), (0, .ref (G.2.1 b)), (1, .int v1), (3, .int v3)]) hx hb dX1_loansTo_30 rfl hl (by decide) rfl (fun ls hl => ?_)
      exact w1_loansTo_31 F hr hk b qb k4 hk4 v1 x4 v3 M _ _ ls hw (lv_sub hl [1, 2, 0, 3] rfl) hf
theorem z1_loansTo_4 {G : XG} {p : Program} {l : Launch} {e : Env} {s : State} {m : MethodId} {args : Array Value} {below : List Frame} {meth : Method} {c : Code} (F : Fx G ZX p m c cX1_loansTo 4 s args RX1) (hr : meth.sig.returnType = some .int) (hk : meth.locks = false) {r : Int32} {M' : SX} (b : Nat) (qb : isL b) : ∀ n : Nat, ∀ (v1 : Int32) (v2 : Int32) (v3 : Int32) (M : SX) (H : Heap) (locs : List Loc) (ls : Array Slot), Wld G ZX M s.heap H locs → lv_has ls 4 [(0, .ref (G.2.1 b)), (1, .int v1), (2, .int v2), (3, .int v3)] → xlp3 (p1_loansTo_4 b) n v1 v2 v3 M = some (r, M') → WXi G ZX p l e 0 s m args below meth c r M' H locs (F0 m 4 ls []) := by
  intro n
  induction n with
  | zero => intro _ _ _ _ _ _ _ _ _ hf; cases hf
  | succ n ih => exact w1_loansTo_4 F hr hk b qb (xlp3 (p1_loansTo_4 b) n) ih
def p1_loansTo (b : Nat) (a1 : Int32) (M : SX) : Option (Int32 × SX) :=
  xlp3 (p1_loansTo_4 b) FU a1 0 0 M
set_option maxHeartbeats 4000000 in
set_option maxRecDepth 100000 in
theorem c1_loansTo {l : Launch} {G : XG} {r : Int32} {M' : SX} {M : SX} (b : Nat) (qb : isL b) (a1 : Int32) (hf : p1_loansTo b a1 M = some (r, M')) : Met l yX1_loansTo (.code yX1_loansTo cX1_loansTo 4 (some .int) :: TBL) (rmX 0) (xPc G ZX M [.ref (G.2.1 b), .int a1]) (xQi G ZX r M') 0 0 (inA G ZX) := by
  refine x_met (cc := cX1_loansTo) (by decide) (Nat.le_of_ble_eq_true rfl) ?_
  intro p e s m below meth c ls F hr hk hl hw
  have F : Fx G ZX p m c cX1_loansTo 4 s [.ref (G.2.1 b), .int a1].toArray RX1 := F
  have hl : lv_has ls 4 [(0, .ref (G.2.1 b)), (1, .int a1)] := hl
  have hx := F.1.1
  have hb := F.1.2.1
  unfold p1_loansTo at hf
  refine lv_iconst (v := 0) hx hb dX1_loansTo_0 (by decide) ?_
  refine lv_istore_n (lv' := [(2, .int 0), (0, .ref (G.2.1 b)), (1, .int a1)]) hx hb dX1_loansTo_1 rfl hl (by decide) rfl (fun ls hl => ?_)
  refine lv_iconst (v := 0) hx hb dX1_loansTo_2 (by decide) ?_
  refine lv_istore_n (lv' := [(3, .int 0), (2, .int 0), (0, .ref (G.2.1 b)), (1, .int a1)]) hx hb dX1_loansTo_3 rfl hl (by decide) rfl (fun ls hl => ?_)
  exact z1_loansTo_4 F hr hk b qb FU a1 0 0 M _ _ ls hw (lv_sub hl [2, 3, 1, 0] rfl) hf
theorem dX1_cashInAll_0 : decode cX1_cashInAll 0 = .ok (.iconst 0, 1) := by decide +kernel
theorem dX1_cashInAll_1 : decode cX1_cashInAll 1 = .ok (.istore_n 1, 1) := by decide +kernel
theorem dX1_cashInAll_2 : decode cX1_cashInAll 2 = .ok (.iconst 0, 1) := by decide +kernel
theorem dX1_cashInAll_3 : decode cX1_cashInAll 3 = .ok (.istore_n 2, 1) := by decide +kernel
theorem dX1_cashInAll_4 : decode cX1_cashInAll 4 = .ok (.iload_n 2, 1) := by decide +kernel
theorem dX1_cashInAll_5 : decode cX1_cashInAll 5 = .ok (.aload_n 0, 1) := by decide +kernel
theorem dX1_cashInAll_6 : decode cX1_cashInAll 6 = .ok (.getfield 9, 3) := by decide +kernel
theorem dX1_cashInAll_9 : decode cX1_cashInAll 9 = .ok (.if_icmp .ge 18, 3) := by decide +kernel
theorem dX1_cashInAll_12 : decode cX1_cashInAll 12 = .ok (.iload_n 1, 1) := by decide +kernel
theorem dX1_cashInAll_13 : decode cX1_cashInAll 13 = .ok (.aload_n 0, 1) := by decide +kernel
theorem dX1_cashInAll_14 : decode cX1_cashInAll 14 = .ok (.getfield 19, 3) := by decide +kernel
theorem dX1_cashInAll_17 : decode cX1_cashInAll 17 = .ok (.iload_n 2, 1) := by decide +kernel
theorem dX1_cashInAll_18 : decode cX1_cashInAll 18 = .ok (.iaload, 1) := by decide +kernel
theorem dX1_cashInAll_19 : decode cX1_cashInAll 19 = .ok (.iadd, 1) := by decide +kernel
theorem dX1_cashInAll_20 : decode cX1_cashInAll 20 = .ok (.istore_n 1, 1) := by decide +kernel
theorem dX1_cashInAll_21 : decode cX1_cashInAll 21 = .ok (.iinc 2 1, 3) := by decide +kernel
theorem dX1_cashInAll_24 : decode cX1_cashInAll 24 = .ok (.goto (-20), 3) := by decide +kernel
theorem dX1_cashInAll_27 : decode cX1_cashInAll 27 = .ok (.iload_n 1, 1) := by decide +kernel
theorem dX1_cashInAll_28 : decode cX1_cashInAll 28 = .ok (.ireturn, 1) := by decide +kernel
def p1_cashInAll_4 (b : Nat) (k4 : Int32 → Int32 → SX → Option (Int32 × SX)) (v1 : Int32) (v2 : Int32) (M : SX) : Option (Int32 × SX) :=
  if (M.1 b 0) ≤ v2 then (some (v1, M))
  else (gd (bIn v2 6) ( lt_ (v1 + (M.1 (b + 2) (Int32.toNatClampNeg v2))) (fun x3 => lt_ (v2 + 1) (fun x4 => k4 x3 x4 M))))
set_option maxHeartbeats 4000000 in
set_option maxRecDepth 100000 in
theorem w1_cashInAll_4 {G : XG} {p : Program} {l : Launch} {e : Env} {s : State} {m : MethodId} {args : Array Value} {below : List Frame} {meth : Method} {c : Code} (F : Fx G ZX p m c cX1_cashInAll 3 s args RX1) (hr : meth.sig.returnType = some .int) (hk : meth.locks = false) {r : Int32} {M' : SX} (b : Nat) (qb : isL b) (k4 : Int32 → Int32 → SX → Option (Int32 × SX)) (hk4 : ∀ (v1 : Int32) (v2 : Int32) (M : SX) (H : Heap) (locs : List Loc) (ls : Array Slot), Wld G ZX M s.heap H locs → lv_has ls 3 [(0, .ref (G.2.1 b)), (1, .int v1), (2, .int v2)] → k4 v1 v2 M = some (r, M') → WXi G ZX p l e 0 s m args below meth c r M' H locs (F0 m 4 ls [])) : ∀ (v1 : Int32) (v2 : Int32) (M : SX) (H : Heap) (locs : List Loc) (ls : Array Slot), Wld G ZX M s.heap H locs → lv_has ls 3 [(0, .ref (G.2.1 b)), (1, .int v1), (2, .int v2)] → p1_cashInAll_4 b k4 v1 v2 M = some (r, M') → WXi G ZX p l e 0 s m args below meth c r M' H locs (F0 m 4 ls []) := by
  intro v1 v2 M H locs ls hw hl hf
  have hx := F.1.1
  have hb := F.1.2.1
  unfold p1_cashInAll_4 at hf
  refine lv_iload_n hx hb dX1_cashInAll_4 rfl (lv_at hl 2 rfl) ?_
  refine lv_aload_n hx hb dX1_cashInAll_5 rfl (lv_at hl 0 rfl) ?_
  refine g1_0 qb F hw tw_41 dX1_cashInAll_6 ?_
  refine lv_icmp_ge (tgt := 27) hx hb dX1_cashInAll_9 (by decide) (fun c1 => ?_) (fun c1 => ?_)
  · have hf := it_t hf c1
    refine lv_iload_n hx hb dX1_cashInAll_27 rfl (lv_at hl 1 rfl) ?_
    exact x_iret F hw hr hk hf dX1_cashInAll_28
  · have hf := it_f hf c1
    refine lv_iload_n hx hb dX1_cashInAll_12 rfl (lv_at hl 1 rfl) ?_
    refine lv_aload_n hx hb dX1_cashInAll_13 rfl (lv_at hl 0 rfl) ?_
    refine g1_2 qb F hw tw_47 dX1_cashInAll_14 ?_
    refine lv_iload_n hx hb dX1_cashInAll_17 rfl (lv_at hl 2 rfl) ?_
    obtain ⟨g2, hf⟩ := gd_some hf
    refine x_iald F hw (sL2 qb) g2 dX1_cashInAll_18 ?_
    refine lv_iadd hx hb dX1_cashInAll_19 ?_
    obtain ⟨x3, ex3, hf⟩ := lt_elim hf
    refine x_let ex3 ?_
    refine lv_istore_n (lv' := [(1, .int x3), (0, .ref (G.2.1 b)), (2, .int v2)]) hx hb dX1_cashInAll_20 rfl hl (by decide) rfl (fun ls hl => ?_)
    obtain ⟨x4, ex4, hf⟩ := lt_elim hf
    refine lv_iinc (v := x4) (lv' := [(2, .int x4), (1, .int x3), (0, .ref (G.2.1 b))]) hx hb dX1_cashInAll_21 hl (k := 2) rfl (by rw [ex4]; rfl) (by decide) rfl (fun ls hl => ?_)
    refine lv_goto (tgt := 4) hx hb dX1_cashInAll_24 (by decide) ?_
    exact hk4 x3 x4 M _ _ ls hw (lv_sub hl [2, 1, 0] rfl) hf
theorem z1_cashInAll_4 {G : XG} {p : Program} {l : Launch} {e : Env} {s : State} {m : MethodId} {args : Array Value} {below : List Frame} {meth : Method} {c : Code} (F : Fx G ZX p m c cX1_cashInAll 3 s args RX1) (hr : meth.sig.returnType = some .int) (hk : meth.locks = false) {r : Int32} {M' : SX} (b : Nat) (qb : isL b) : ∀ n : Nat, ∀ (v1 : Int32) (v2 : Int32) (M : SX) (H : Heap) (locs : List Loc) (ls : Array Slot), Wld G ZX M s.heap H locs → lv_has ls 3 [(0, .ref (G.2.1 b)), (1, .int v1), (2, .int v2)] → xlp2 (p1_cashInAll_4 b) n v1 v2 M = some (r, M') → WXi G ZX p l e 0 s m args below meth c r M' H locs (F0 m 4 ls []) := by
  intro n
  induction n with
  | zero => intro _ _ _ _ _ _ _ _ hf; cases hf
  | succ n ih => exact w1_cashInAll_4 F hr hk b qb (xlp2 (p1_cashInAll_4 b) n) ih
def p1_cashInAll (b : Nat) (M : SX) : Option (Int32 × SX) :=
  xlp2 (p1_cashInAll_4 b) FU 0 0 M
set_option maxHeartbeats 4000000 in
set_option maxRecDepth 100000 in
theorem c1_cashInAll {l : Launch} {G : XG} {r : Int32} {M' : SX} {M : SX} (b : Nat) (qb : isL b) (hf : p1_cashInAll b M = some (r, M')) : Met l yX1_cashInAll (.code yX1_cashInAll cX1_cashInAll 3 (some .int) :: TBL) (rmX 0) (xPc G ZX M [.ref (G.2.1 b)]) (xQi G ZX r M') 0 0 (inA G ZX) := by
  refine x_met (cc := cX1_cashInAll) (by decide) (Nat.le_of_ble_eq_true rfl) ?_
  intro p e s m below meth c ls F hr hk hl hw
  have F : Fx G ZX p m c cX1_cashInAll 3 s [.ref (G.2.1 b)].toArray RX1 := F
  have hl : lv_has ls 3 [(0, .ref (G.2.1 b))] := hl
  have hx := F.1.1
  have hb := F.1.2.1
  unfold p1_cashInAll at hf
  refine lv_iconst (v := 0) hx hb dX1_cashInAll_0 (by decide) ?_
  refine lv_istore_n (lv' := [(1, .int 0), (0, .ref (G.2.1 b))]) hx hb dX1_cashInAll_1 rfl hl (by decide) rfl (fun ls hl => ?_)
  refine lv_iconst (v := 0) hx hb dX1_cashInAll_2 (by decide) ?_
  refine lv_istore_n (lv' := [(2, .int 0), (1, .int 0), (0, .ref (G.2.1 b))]) hx hb dX1_cashInAll_3 rfl hl (by decide) rfl (fun ls hl => ?_)
  exact z1_cashInAll_4 F hr hk b qb FU 0 0 M _ _ ls hw (lv_sub hl [2, 1, 0] rfl) hf
theorem dX1_pay_0 : decode cX1_pay 0 = .ok (.aload_n 0, 1) := by decide +kernel
theorem dX1_pay_1 : decode cX1_pay 1 = .ok (.getfield 19, 3) := by decide +kernel
theorem dX1_pay_4 : decode cX1_pay 4 = .ok (.iload_n 1, 1) := by decide +kernel
theorem dX1_pay_5 : decode cX1_pay 5 = .ok (.dup2, 1) := by decide +kernel
theorem dX1_pay_6 : decode cX1_pay 6 = .ok (.iaload, 1) := by decide +kernel
theorem dX1_pay_7 : decode cX1_pay 7 = .ok (.iload_n 3, 1) := by decide +kernel
theorem dX1_pay_8 : decode cX1_pay 8 = .ok (.isub, 1) := by decide +kernel
theorem dX1_pay_9 : decode cX1_pay 9 = .ok (.iastore, 1) := by decide +kernel
theorem dX1_pay_10 : decode cX1_pay 10 = .ok (.aload_n 0, 1) := by decide +kernel
theorem dX1_pay_11 : decode cX1_pay 11 = .ok (.getfield 19, 3) := by decide +kernel
theorem dX1_pay_14 : decode cX1_pay 14 = .ok (.iload_n 2, 1) := by decide +kernel
theorem dX1_pay_15 : decode cX1_pay 15 = .ok (.dup2, 1) := by decide +kernel
theorem dX1_pay_16 : decode cX1_pay 16 = .ok (.iaload, 1) := by decide +kernel
theorem dX1_pay_17 : decode cX1_pay 17 = .ok (.iload_n 3, 1) := by decide +kernel
theorem dX1_pay_18 : decode cX1_pay 18 = .ok (.iadd, 1) := by decide +kernel
theorem dX1_pay_19 : decode cX1_pay 19 = .ok (.iastore, 1) := by decide +kernel
theorem dX1_pay_20 : decode cX1_pay 20 = .ok (.return_, 1) := by decide +kernel
def p1_pay (b : Nat) (a1 : Int32) (a2 : Int32) (a3 : Int32) (M : SX) : Option SX :=
  gd (bIn a1 6) ( lt_ (wI M (b + 2) (Int32.toNatClampNeg a1) ((M.1 (b + 2) (Int32.toNatClampNeg a1)) - a3)) (fun M2 => gd (bIn a2 6) ( lt_ (wI M2 (b + 2) (Int32.toNatClampNeg a2) ((M2.1 (b + 2) (Int32.toNatClampNeg a2)) + a3)) (fun M4 => some M4))))
set_option maxHeartbeats 4000000 in
set_option maxRecDepth 100000 in
theorem c1_pay {l : Launch} {G : XG} {M' : SX} {M : SX} (b : Nat) (qb : isL b) (a1 : Int32) (a2 : Int32) (a3 : Int32) (hf : p1_pay b a1 a2 a3 M = some M') : Met l yX1_pay (.code yX1_pay cX1_pay 4 none :: TBL) (rmX 0) (xPc G ZX M [.ref (G.2.1 b), .int a1, .int a2, .int a3]) (xQv G ZX M') 0 0 (inA G ZX) := by
  refine x_met (cc := cX1_pay) (by decide) (Nat.le_of_ble_eq_true rfl) ?_
  intro p e s m below meth c ls F hr hk hl hw
  have F : Fx G ZX p m c cX1_pay 4 s [.ref (G.2.1 b), .int a1, .int a2, .int a3].toArray RX1 := F
  have hl : lv_has ls 4 [(0, .ref (G.2.1 b)), (1, .int a1), (2, .int a2), (3, .int a3)] := hl
  have hx := F.1.1
  have hb := F.1.2.1
  unfold p1_pay at hf
  refine lv_aload_n hx hb dX1_pay_0 rfl (lv_at hl 0 rfl) ?_
  refine g1_2 qb F hw tw_47 dX1_pay_1 ?_
  refine lv_iload_n hx hb dX1_pay_4 rfl (lv_at hl 1 rfl) ?_
  refine lv_dup2_11 hx hb dX1_pay_5 rfl rfl ?_
  obtain ⟨g1, hf⟩ := gd_some hf
  refine x_iald F hw (sL2 qb) g1 dX1_pay_6 ?_
  refine lv_iload_n hx hb dX1_pay_7 rfl (lv_at hl 3 rfl) ?_
  refine lv_isub hx hb dX1_pay_8 ?_
  refine x_iast F hw (sL2 qb) g1 dX1_pay_9 (fun H locs hw => ?_)
  obtain ⟨M2, eM2, hf⟩ := lt_elim hf
  rw [← eM2] at hw
  refine lv_aload_n hx hb dX1_pay_10 rfl (lv_at hl 0 rfl) ?_
  refine g1_2 qb F hw tw_47 dX1_pay_11 ?_
  refine lv_iload_n hx hb dX1_pay_14 rfl (lv_at hl 2 rfl) ?_
  refine lv_dup2_11 hx hb dX1_pay_15 rfl rfl ?_
  obtain ⟨g3, hf⟩ := gd_some hf
  refine x_iald F hw (sL2 qb) g3 dX1_pay_16 ?_
  refine lv_iload_n hx hb dX1_pay_17 rfl (lv_at hl 3 rfl) ?_
  refine lv_iadd hx hb dX1_pay_18 ?_
  refine x_iast F hw (sL2 qb) g3 dX1_pay_19 (fun H locs hw => ?_)
  obtain ⟨M4, eM4, hf⟩ := lt_elim hf
  rw [← eM4] at hw
  exact x_vret F hw hr hk hf dX1_pay_20
theorem dX1_removeTicket_0 : decode cX1_removeTicket 0 = .ok (.aload_n 0, 1) := by decide +kernel
theorem dX1_removeTicket_1 : decode cX1_removeTicket 1 = .ok (.iload_n 1, 1) := by decide +kernel
theorem dX1_removeTicket_2 : decode cX1_removeTicket 2 = .ok (.bipush (-9), 2) := by decide +kernel
theorem dX1_removeTicket_4 : decode cX1_removeTicket 4 = .ok (.iconst 0, 1) := by decide +kernel
theorem dX1_removeTicket_5 : decode cX1_removeTicket 5 = .ok (.iconst 0, 1) := by decide +kernel
theorem dX1_removeTicket_6 : decode cX1_removeTicket 6 = .ok (.invokevirtual 58, 3) := by decide +kernel
theorem dX1_removeTicket_9 : decode cX1_removeTicket 9 = .ok (.return_, 1) := by decide +kernel
def p1_removeTicket (b : Nat) (a1 : Int32) (M : SX) : Option SX :=
  bv (p1_setTicket b a1 (-9) 0 0 M) (fun M2 => some M2)
set_option maxHeartbeats 4000000 in
set_option maxRecDepth 100000 in
theorem c1_removeTicket {l : Launch} {G : XG} {M' : SX} {M : SX} (b : Nat) (qb : isL b) (a1 : Int32) (hf : p1_removeTicket b a1 M = some M') : Met l yX1_removeTicket (.code yX1_removeTicket cX1_removeTicket 2 none :: TBL) (rmX 1) (xPc G ZX M [.ref (G.2.1 b), .int a1]) (xQv G ZX M') 0 0 (inA G ZX) := by
  refine x_met (cc := cX1_removeTicket) (by decide) (Nat.le_of_ble_eq_true rfl) ?_
  intro p e s m below meth c ls F hr hk hl hw
  have F : Fx G ZX p m c cX1_removeTicket 2 s [.ref (G.2.1 b), .int a1].toArray RX1 := F
  have hl : lv_has ls 2 [(0, .ref (G.2.1 b)), (1, .int a1)] := hl
  have hx := F.1.1
  have hb := F.1.2.1
  unfold p1_removeTicket at hf
  refine lv_aload_n hx hb dX1_removeTicket_0 rfl (lv_at hl 0 rfl) ?_
  refine lv_iload_n hx hb dX1_removeTicket_1 rfl (lv_at hl 1 rfl) ?_
  refine lv_bipush (v := (-9)) hx hb dX1_removeTicket_2 (by decide) ?_
  refine lv_iconst (v := 0) hx hb dX1_removeTicket_4 (by decide) ?_
  refine lv_iconst (v := 0) hx hb dX1_removeTicket_5 (by decide) ?_
  obtain ⟨M2, hc1, hf⟩ := bv_some hf
  refine x_aftV hw (x_runV (rest := []) F hw hl.1 vw_RX1_58 (sL qb) rfl (c1_setTicket b qb a1 (-9) 0 0 hc1) rfl rfl (Nat.le_of_ble_eq_true rfl) ⟨Nat.le_of_ble_eq_true rfl, Nat.le_of_ble_eq_true rfl⟩ dX1_removeTicket_6) (fun H locs hw => ?_)
  exact x_vret F hw hr hk hf dX1_removeTicket_9
theorem dX1_isHeldIn_0 : decode cX1_isHeldIn 0 = .ok (.aload_n 0, 1) := by decide +kernel
theorem dX1_isHeldIn_1 : decode cX1_isHeldIn 1 = .ok (.iload_n 1, 1) := by decide +kernel
theorem dX1_isHeldIn_2 : decode cX1_isHeldIn 2 = .ok (.invokevirtual 62, 3) := by decide +kernel
theorem dX1_isHeldIn_5 : decode cX1_isHeldIn 5 = .ok (.ifCond .eq 20, 3) := by decide +kernel
theorem dX1_isHeldIn_8 : decode cX1_isHeldIn 8 = .ok (.iload_n 2, 1) := by decide +kernel
theorem dX1_isHeldIn_9 : decode cX1_isHeldIn 9 = .ok (.aload_n 0, 1) := by decide +kernel
theorem dX1_isHeldIn_10 : decode cX1_isHeldIn 10 = .ok (.getfield 25, 3) := by decide +kernel
theorem dX1_isHeldIn_13 : decode cX1_isHeldIn 13 = .ok (.iload_n 1, 1) := by decide +kernel
theorem dX1_isHeldIn_14 : decode cX1_isHeldIn 14 = .ok (.iaload, 1) := by decide +kernel
theorem dX1_isHeldIn_15 : decode cX1_isHeldIn 15 = .ok (.invokestatic 66, 3) := by decide +kernel
theorem dX1_isHeldIn_18 : decode cX1_isHeldIn 18 = .ok (.ifCond .eq 7, 3) := by decide +kernel
theorem dX1_isHeldIn_21 : decode cX1_isHeldIn 21 = .ok (.iconst 1, 1) := by decide +kernel
theorem dX1_isHeldIn_22 : decode cX1_isHeldIn 22 = .ok (.goto 4, 3) := by decide +kernel
theorem dX1_isHeldIn_25 : decode cX1_isHeldIn 25 = .ok (.iconst 0, 1) := by decide +kernel
theorem dX1_isHeldIn_26 : decode cX1_isHeldIn 26 = .ok (.ireturn, 1) := by decide +kernel
def p1_isHeldIn (b : Nat) (a1 : Int32) (a2 : Int32) (M : SX) : Option (Int32 × SX) :=
  bd (p1_isPawned b a1 M) (fun r3 M2 => if r3 = 0 then (some (0, M2))
  else (gd (bIn a1 6) ( bd (p5_isIn a2 (M2.1 (b + 4) (Int32.toNatClampNeg a1)) M2) (fun r8 M7 => if r8 = 0 then (some (0, M7))
  else (some (1, M7))))))
set_option maxHeartbeats 4000000 in
set_option maxRecDepth 100000 in
theorem c1_isHeldIn {l : Launch} {G : XG} {r : Int32} {M' : SX} {M : SX} (b : Nat) (qb : isL b) (a1 : Int32) (a2 : Int32) (hf : p1_isHeldIn b a1 a2 M = some (r, M')) : Met l yX1_isHeldIn (.code yX1_isHeldIn cX1_isHeldIn 3 (some .boolean) :: TBL) (rmX 1) (xPc G ZX M [.ref (G.2.1 b), .int a1, .int a2]) (xQi G ZX r M') 0 0 (inA G ZX) := by
  refine x_met (cc := cX1_isHeldIn) (by decide) (Nat.le_of_ble_eq_true rfl) ?_
  intro p e s m below meth c ls F hr hk hl hw
  have F : Fx G ZX p m c cX1_isHeldIn 3 s [.ref (G.2.1 b), .int a1, .int a2].toArray RX1 := F
  have hl : lv_has ls 3 [(0, .ref (G.2.1 b)), (1, .int a1), (2, .int a2)] := hl
  have hx := F.1.1
  have hb := F.1.2.1
  unfold p1_isHeldIn at hf
  refine lv_aload_n hx hb dX1_isHeldIn_0 rfl (lv_at hl 0 rfl) ?_
  refine lv_iload_n hx hb dX1_isHeldIn_1 rfl (lv_at hl 1 rfl) ?_
  obtain ⟨r3, M2, hc1, hf⟩ := bd_some hf
  refine x_aftI hw (x_runV (rest := []) F hw hl.1 vw_RX1_62 (sL qb) rfl (c1_isPawned b qb a1 hc1) rfl rfl (Nat.le_of_ble_eq_true rfl) ⟨Nat.le_of_ble_eq_true rfl, Nat.le_of_ble_eq_true rfl⟩ dX1_isHeldIn_2) (fun H locs hw => ?_)
  refine lv_if_eq (tgt := 25) hx hb dX1_isHeldIn_5 (by decide) (fun c4 => ?_) (fun c4 => ?_)
  · have hf := it_t hf c4
    refine lv_iconst (v := 0) hx hb dX1_isHeldIn_25 (by decide) ?_
    exact x_zret F hw hr hk (by decide) hf dX1_isHeldIn_26
  · have hf := it_f hf c4
    refine lv_iload_n hx hb dX1_isHeldIn_8 rfl (lv_at hl 2 rfl) ?_
    refine lv_aload_n hx hb dX1_isHeldIn_9 rfl (lv_at hl 0 rfl) ?_
    refine g1_4 qb F hw tw_44 dX1_isHeldIn_10 ?_
    refine lv_iload_n hx hb dX1_isHeldIn_13 rfl (lv_at hl 1 rfl) ?_
    obtain ⟨g5, hf⟩ := gd_some hf
    refine x_iald F hw (sL4 qb) g5 dX1_isHeldIn_14 ?_
    obtain ⟨r8, M7, hc6, hf⟩ := bd_some hf
    refine x_aftI hw (x_runN (rest := []) F hw hl.1 nn_RX1_66 (c5_isIn a2 (M2.1 (b + 4) (Int32.toNatClampNeg a1)) hc6) rfl rfl (Nat.le_of_ble_eq_true rfl) ⟨Nat.le_of_ble_eq_true rfl, Nat.le_of_ble_eq_true rfl⟩ dX1_isHeldIn_15) (fun H locs hw => ?_)
    refine lv_if_eq (tgt := 25) hx hb dX1_isHeldIn_18 (by decide) (fun c9 => ?_) (fun c9 => ?_)
    · have hf := it_t hf c9
      refine lv_iconst (v := 0) hx hb dX1_isHeldIn_25 (by decide) ?_
      exact x_zret F hw hr hk (by decide) hf dX1_isHeldIn_26
    · have hf := it_f hf c9
      refine lv_iconst (v := 1) hx hb dX1_isHeldIn_21 (by decide) ?_
      refine lv_goto (tgt := 26) hx hb dX1_isHeldIn_22 (by decide) ?_
      exact x_zret F hw hr hk (by decide) hf dX1_isHeldIn_26
theorem dX1_pawnedSet_0 : decode cX1_pawnedSet 0 = .ok (.iconst 0, 1) := by decide +kernel
theorem dX1_pawnedSet_1 : decode cX1_pawnedSet 1 = .ok (.istore_n 1, 1) := by decide +kernel
theorem dX1_pawnedSet_2 : decode cX1_pawnedSet 2 = .ok (.iconst 0, 1) := by decide +kernel
theorem dX1_pawnedSet_3 : decode cX1_pawnedSet 3 = .ok (.istore_n 2, 1) := by decide +kernel
theorem dX1_pawnedSet_4 : decode cX1_pawnedSet 4 = .ok (.iload_n 2, 1) := by decide +kernel
theorem dX1_pawnedSet_5 : decode cX1_pawnedSet 5 = .ok (.aload_n 0, 1) := by decide +kernel
theorem dX1_pawnedSet_6 : decode cX1_pawnedSet 6 = .ok (.getfield 9, 3) := by decide +kernel
theorem dX1_pawnedSet_9 : decode cX1_pawnedSet 9 = .ok (.if_icmp .ge 23, 3) := by decide +kernel
theorem dX1_pawnedSet_12 : decode cX1_pawnedSet 12 = .ok (.aload_n 0, 1) := by decide +kernel
theorem dX1_pawnedSet_13 : decode cX1_pawnedSet 13 = .ok (.iload_n 2, 1) := by decide +kernel
theorem dX1_pawnedSet_14 : decode cX1_pawnedSet 14 = .ok (.invokevirtual 62, 3) := by decide +kernel
theorem dX1_pawnedSet_17 : decode cX1_pawnedSet 17 = .ok (.ifCond .eq 9, 3) := by decide +kernel
theorem dX1_pawnedSet_20 : decode cX1_pawnedSet 20 = .ok (.iload_n 1, 1) := by decide +kernel
theorem dX1_pawnedSet_21 : decode cX1_pawnedSet 21 = .ok (.iconst 1, 1) := by decide +kernel
theorem dX1_pawnedSet_22 : decode cX1_pawnedSet 22 = .ok (.iload_n 2, 1) := by decide +kernel
theorem dX1_pawnedSet_23 : decode cX1_pawnedSet 23 = .ok (.ishl, 1) := by decide +kernel
theorem dX1_pawnedSet_24 : decode cX1_pawnedSet 24 = .ok (.ior, 1) := by decide +kernel
theorem dX1_pawnedSet_25 : decode cX1_pawnedSet 25 = .ok (.istore_n 1, 1) := by decide +kernel
theorem dX1_pawnedSet_26 : decode cX1_pawnedSet 26 = .ok (.iinc 2 1, 3) := by decide +kernel
theorem dX1_pawnedSet_29 : decode cX1_pawnedSet 29 = .ok (.goto (-25), 3) := by decide +kernel
theorem dX1_pawnedSet_32 : decode cX1_pawnedSet 32 = .ok (.iload_n 1, 1) := by decide +kernel
theorem dX1_pawnedSet_33 : decode cX1_pawnedSet 33 = .ok (.ireturn, 1) := by decide +kernel
def p1_pawnedSet_26 (b : Nat) (k4 : Int32 → Int32 → SX → Option (Int32 × SX)) (v1 : Int32) (v2 : Int32) (M : SX) : Option (Int32 × SX) :=
  lt_ (v2 + 1) (fun x1 => k4 v1 x1 M)
set_option maxHeartbeats 4000000 in
set_option maxRecDepth 100000 in
theorem w1_pawnedSet_26 {G : XG} {p : Program} {l : Launch} {e : Env} {s : State} {m : MethodId} {args : Array Value} {below : List Frame} {meth : Method} {c : Code} (F : Fx G ZX p m c cX1_pawnedSet 3 s args RX1) (hr : meth.sig.returnType = some .int) (hk : meth.locks = false) {r : Int32} {M' : SX} (b : Nat) (qb : isL b) (k4 : Int32 → Int32 → SX → Option (Int32 × SX)) (hk4 : ∀ (v1 : Int32) (v2 : Int32) (M : SX) (H : Heap) (locs : List Loc) (ls : Array Slot), Wld G ZX M s.heap H locs → lv_has ls 3 [(0, .ref (G.2.1 b)), (1, .int v1), (2, .int v2)] → k4 v1 v2 M = some (r, M') → WXi G ZX p l e 1 s m args below meth c r M' H locs (F0 m 4 ls [])) : ∀ (v1 : Int32) (v2 : Int32) (M : SX) (H : Heap) (locs : List Loc) (ls : Array Slot), Wld G ZX M s.heap H locs → lv_has ls 3 [(0, .ref (G.2.1 b)), (1, .int v1), (2, .int v2)] → p1_pawnedSet_26 b k4 v1 v2 M = some (r, M') → WXi G ZX p l e 1 s m args below meth c r M' H locs (F0 m 26 ls []) := by
  intro v1 v2 M H locs ls hw hl hf
  have hx := F.1.1
  have hb := F.1.2.1
  unfold p1_pawnedSet_26 at hf
  obtain ⟨x1, ex1, hf⟩ := lt_elim hf
  refine lv_iinc (v := x1) (lv' := [(2, .int x1), (0, .ref (G.2.1 b)), (1, .int v1)]) hx hb dX1_pawnedSet_26 hl (k := 2) rfl (by rw [ex1]; rfl) (by decide) rfl (fun ls hl => ?_)
  refine lv_goto (tgt := 4) hx hb dX1_pawnedSet_29 (by decide) ?_
  exact hk4 v1 x1 M _ _ ls hw (lv_sub hl [1, 2, 0] rfl) hf
def p1_pawnedSet_4 (b : Nat) (k4 : Int32 → Int32 → SX → Option (Int32 × SX)) (v1 : Int32) (v2 : Int32) (M : SX) : Option (Int32 × SX) :=
  if (M.1 b 0) ≤ v2 then (some (v1, M))
  else (bd (p1_isPawned b v2 M) (fun r4 M3 => if r4 = 0 then (p1_pawnedSet_26 b k4 v1 v2 M3)
  else (lt_ (v1 ||| ((1 : Int32) <<< (v2 &&& 31))) (fun x6 => p1_pawnedSet_26 b k4 x6 v2 M3))))
set_option maxHeartbeats 4000000 in
set_option maxRecDepth 100000 in
theorem w1_pawnedSet_4 {G : XG} {p : Program} {l : Launch} {e : Env} {s : State} {m : MethodId} {args : Array Value} {below : List Frame} {meth : Method} {c : Code} (F : Fx G ZX p m c cX1_pawnedSet 3 s args RX1) (hr : meth.sig.returnType = some .int) (hk : meth.locks = false) {r : Int32} {M' : SX} (b : Nat) (qb : isL b) (k4 : Int32 → Int32 → SX → Option (Int32 × SX)) (hk4 : ∀ (v1 : Int32) (v2 : Int32) (M : SX) (H : Heap) (locs : List Loc) (ls : Array Slot), Wld G ZX M s.heap H locs → lv_has ls 3 [(0, .ref (G.2.1 b)), (1, .int v1), (2, .int v2)] → k4 v1 v2 M = some (r, M') → WXi G ZX p l e 1 s m args below meth c r M' H locs (F0 m 4 ls [])) : ∀ (v1 : Int32) (v2 : Int32) (M : SX) (H : Heap) (locs : List Loc) (ls : Array Slot), Wld G ZX M s.heap H locs → lv_has ls 3 [(0, .ref (G.2.1 b)), (1, .int v1), (2, .int v2)] → p1_pawnedSet_4 b k4 v1 v2 M = some (r, M') → WXi G ZX p l e 1 s m args below meth c r M' H locs (F0 m 4 ls []) := by
  intro v1 v2 M H locs ls hw hl hf
  have hx := F.1.1
  have hb := F.1.2.1
  unfold p1_pawnedSet_4 at hf
  refine lv_iload_n hx hb dX1_pawnedSet_4 rfl (lv_at hl 2 rfl) ?_
  refine lv_aload_n hx hb dX1_pawnedSet_5 rfl (lv_at hl 0 rfl) ?_
  refine g1_0 qb F hw tw_41 dX1_pawnedSet_6 ?_
  refine lv_icmp_ge (tgt := 32) hx hb dX1_pawnedSet_9 (by decide) (fun c1 => ?_) (fun c1 => ?_)
  · have hf := it_t hf c1
    refine lv_iload_n hx hb dX1_pawnedSet_32 rfl (lv_at hl 1 rfl) ?_
    exact x_iret F hw hr hk hf dX1_pawnedSet_33
  · have hf := it_f hf c1
    refine lv_aload_n hx hb dX1_pawnedSet_12 rfl (lv_at hl 0 rfl) ?_
    refine lv_iload_n hx hb dX1_pawnedSet_13 rfl (lv_at hl 2 rfl) ?_
    obtain ⟨r4, M3, hc2, hf⟩ := bd_some hf
    refine x_aftI hw (x_runV (rest := []) F hw hl.1 vw_RX1_62 (sL qb) rfl (c1_isPawned b qb v2 hc2) rfl rfl (Nat.le_of_ble_eq_true rfl) ⟨Nat.le_of_ble_eq_true rfl, Nat.le_of_ble_eq_true rfl⟩ dX1_pawnedSet_14) (fun H locs hw => ?_)
    refine lv_if_eq (tgt := 26) hx hb dX1_pawnedSet_17 (by decide) (fun c5 => ?_) (fun c5 => ?_)
    · have hf := it_t hf c5
      exact w1_pawnedSet_26 F hr hk b qb k4 hk4 v1 v2 M3 _ _ ls hw (lv_sub hl [0, 1, 2] rfl) hf
    · have hf := it_f hf c5
      refine lv_iload_n hx hb dX1_pawnedSet_20 rfl (lv_at hl 1 rfl) ?_
      refine lv_iconst (v := 1) hx hb dX1_pawnedSet_21 (by decide) ?_
      refine lv_iload_n hx hb dX1_pawnedSet_22 rfl (lv_at hl 2 rfl) ?_
      refine lv_ishl hx hb dX1_pawnedSet_23 ?_
      refine lv_ior hx hb dX1_pawnedSet_24 ?_
      obtain ⟨x6, ex6, hf⟩ := lt_elim hf
      refine x_let ex6 ?_
      refine lv_istore_n (lv' := [(1, .int x6), (0, .ref (G.2.1 b)), (2, .int v2)]) hx hb dX1_pawnedSet_25 rfl hl (by decide) rfl (fun ls hl => ?_)
      exact w1_pawnedSet_26 F hr hk b qb k4 hk4 x6 v2 M3 _ _ ls hw (lv_sub hl [1, 0, 2] rfl) hf
theorem z1_pawnedSet_4 {G : XG} {p : Program} {l : Launch} {e : Env} {s : State} {m : MethodId} {args : Array Value} {below : List Frame} {meth : Method} {c : Code} (F : Fx G ZX p m c cX1_pawnedSet 3 s args RX1) (hr : meth.sig.returnType = some .int) (hk : meth.locks = false) {r : Int32} {M' : SX} (b : Nat) (qb : isL b) : ∀ n : Nat, ∀ (v1 : Int32) (v2 : Int32) (M : SX) (H : Heap) (locs : List Loc) (ls : Array Slot), Wld G ZX M s.heap H locs → lv_has ls 3 [(0, .ref (G.2.1 b)), (1, .int v1), (2, .int v2)] → xlp2 (p1_pawnedSet_4 b) n v1 v2 M = some (r, M') → WXi G ZX p l e 1 s m args below meth c r M' H locs (F0 m 4 ls []) := by
  intro n
  induction n with
  | zero => intro _ _ _ _ _ _ _ _ hf; cases hf
  | succ n ih => exact w1_pawnedSet_4 F hr hk b qb (xlp2 (p1_pawnedSet_4 b) n) ih
def p1_pawnedSet (b : Nat) (M : SX) : Option (Int32 × SX) :=
  xlp2 (p1_pawnedSet_4 b) FU 0 0 M
set_option maxHeartbeats 4000000 in
set_option maxRecDepth 100000 in
theorem c1_pawnedSet {l : Launch} {G : XG} {r : Int32} {M' : SX} {M : SX} (b : Nat) (qb : isL b) (hf : p1_pawnedSet b M = some (r, M')) : Met l yX1_pawnedSet (.code yX1_pawnedSet cX1_pawnedSet 3 (some .int) :: TBL) (rmX 1) (xPc G ZX M [.ref (G.2.1 b)]) (xQi G ZX r M') 0 0 (inA G ZX) := by
  refine x_met (cc := cX1_pawnedSet) (by decide) (Nat.le_of_ble_eq_true rfl) ?_
  intro p e s m below meth c ls F hr hk hl hw
  have F : Fx G ZX p m c cX1_pawnedSet 3 s [.ref (G.2.1 b)].toArray RX1 := F
  have hl : lv_has ls 3 [(0, .ref (G.2.1 b))] := hl
  have hx := F.1.1
  have hb := F.1.2.1
  unfold p1_pawnedSet at hf
  refine lv_iconst (v := 0) hx hb dX1_pawnedSet_0 (by decide) ?_
  refine lv_istore_n (lv' := [(1, .int 0), (0, .ref (G.2.1 b))]) hx hb dX1_pawnedSet_1 rfl hl (by decide) rfl (fun ls hl => ?_)
  refine lv_iconst (v := 0) hx hb dX1_pawnedSet_2 (by decide) ?_
  refine lv_istore_n (lv' := [(2, .int 0), (1, .int 0), (0, .ref (G.2.1 b))]) hx hb dX1_pawnedSet_3 rfl hl (by decide) rfl (fun ls hl => ?_)
  exact z1_pawnedSet_4 F hr hk b qb FU 0 0 M _ _ ls hw (lv_sub hl [2, 1, 0] rfl) hf
theorem dX1_stockOf_0 : decode cX1_stockOf 0 = .ok (.iconst 0, 1) := by decide +kernel
theorem dX1_stockOf_1 : decode cX1_stockOf 1 = .ok (.istore_n 2, 1) := by decide +kernel
theorem dX1_stockOf_2 : decode cX1_stockOf 2 = .ok (.iconst 0, 1) := by decide +kernel
theorem dX1_stockOf_3 : decode cX1_stockOf 3 = .ok (.istore_n 3, 1) := by decide +kernel
theorem dX1_stockOf_4 : decode cX1_stockOf 4 = .ok (.iload_n 3, 1) := by decide +kernel
theorem dX1_stockOf_5 : decode cX1_stockOf 5 = .ok (.aload_n 0, 1) := by decide +kernel
theorem dX1_stockOf_6 : decode cX1_stockOf 6 = .ok (.getfield 9, 3) := by decide +kernel
theorem dX1_stockOf_9 : decode cX1_stockOf 9 = .ok (.if_icmp .ge 26, 3) := by decide +kernel
theorem dX1_stockOf_12 : decode cX1_stockOf 12 = .ok (.iload_n 1, 1) := by decide +kernel
theorem dX1_stockOf_13 : decode cX1_stockOf 13 = .ok (.iload_n 3, 1) := by decide +kernel
theorem dX1_stockOf_14 : decode cX1_stockOf 14 = .ok (.invokestatic 66, 3) := by decide +kernel
theorem dX1_stockOf_17 : decode cX1_stockOf 17 = .ok (.ifCond .eq 12, 3) := by decide +kernel
theorem dX1_stockOf_20 : decode cX1_stockOf 20 = .ok (.iload_n 2, 1) := by decide +kernel
theorem dX1_stockOf_21 : decode cX1_stockOf 21 = .ok (.aload_n 0, 1) := by decide +kernel
theorem dX1_stockOf_22 : decode cX1_stockOf 22 = .ok (.getfield 22, 3) := by decide +kernel
theorem dX1_stockOf_25 : decode cX1_stockOf 25 = .ok (.iload_n 3, 1) := by decide +kernel
theorem dX1_stockOf_26 : decode cX1_stockOf 26 = .ok (.iaload, 1) := by decide +kernel
theorem dX1_stockOf_27 : decode cX1_stockOf 27 = .ok (.iadd, 1) := by decide +kernel
theorem dX1_stockOf_28 : decode cX1_stockOf 28 = .ok (.istore_n 2, 1) := by decide +kernel
theorem dX1_stockOf_29 : decode cX1_stockOf 29 = .ok (.iinc 3 1, 3) := by decide +kernel
theorem dX1_stockOf_32 : decode cX1_stockOf 32 = .ok (.goto (-28), 3) := by decide +kernel
theorem dX1_stockOf_35 : decode cX1_stockOf 35 = .ok (.iload_n 2, 1) := by decide +kernel
theorem dX1_stockOf_36 : decode cX1_stockOf 36 = .ok (.ireturn, 1) := by decide +kernel
def p1_stockOf_29 (b : Nat) (k4 : Int32 → Int32 → Int32 → SX → Option (Int32 × SX)) (v1 : Int32) (v2 : Int32) (v3 : Int32) (M : SX) : Option (Int32 × SX) :=
  lt_ (v3 + 1) (fun x1 => k4 v1 v2 x1 M)
set_option maxHeartbeats 4000000 in
set_option maxRecDepth 100000 in
theorem w1_stockOf_29 {G : XG} {p : Program} {l : Launch} {e : Env} {s : State} {m : MethodId} {args : Array Value} {below : List Frame} {meth : Method} {c : Code} (F : Fx G ZX p m c cX1_stockOf 4 s args RX1) (hr : meth.sig.returnType = some .int) (hk : meth.locks = false) {r : Int32} {M' : SX} (b : Nat) (qb : isL b) (k4 : Int32 → Int32 → Int32 → SX → Option (Int32 × SX)) (hk4 : ∀ (v1 : Int32) (v2 : Int32) (v3 : Int32) (M : SX) (H : Heap) (locs : List Loc) (ls : Array Slot), Wld G ZX M s.heap H locs → lv_has ls 4 [(0, .ref (G.2.1 b)), (1, .int v1), (2, .int v2), (3, .int v3)] → k4 v1 v2 v3 M = some (r, M') → WXi G ZX p l e 1 s m args below meth c r M' H locs (F0 m 4 ls [])) : ∀ (v1 : Int32) (v2 : Int32) (v3 : Int32) (M : SX) (H : Heap) (locs : List Loc) (ls : Array Slot), Wld G ZX M s.heap H locs → lv_has ls 4 [(0, .ref (G.2.1 b)), (1, .int v1), (2, .int v2), (3, .int v3)] → p1_stockOf_29 b k4 v1 v2 v3 M = some (r, M') → WXi G ZX p l e 1 s m args below meth c r M' H locs (F0 m 29 ls []) := by
  intro v1 v2 v3 M H locs ls hw hl hf
  have hx := F.1.1
  have hb := F.1.2.1
  unfold p1_stockOf_29 at hf
  obtain ⟨x1, ex1, hf⟩ := lt_elim hf
  refine lv_iinc (v := x1) (lv' := [(3, .int x1), (0, .ref (G.2.1 b)), (1, .int v1), (2, .int v2)]) hx hb dX1_stockOf_29 hl (k := 3) rfl (by rw [ex1]; rfl) (by decide) rfl (fun ls hl => ?_)
  refine lv_goto (tgt := 4) hx hb dX1_stockOf_32 (by decide) ?_
  exact hk4 v1 v2 x1 M _ _ ls hw (lv_sub hl [1, 2, 3, 0] rfl) hf
def p1_stockOf_4 (b : Nat) (k4 : Int32 → Int32 → Int32 → SX → Option (Int32 × SX)) (v1 : Int32) (v2 : Int32) (v3 : Int32) (M : SX) : Option (Int32 × SX) :=
  if (M.1 b 0) ≤ v3 then (some (v2, M))
  else (bd (p5_isIn v1 v3 M) (fun r4 M3 => if r4 = 0 then (p1_stockOf_29 b k4 v1 v2 v3 M3)
  else (gd (bIn v3 6) ( lt_ (v2 + (M3.1 (b + 3) (Int32.toNatClampNeg v3))) (fun x7 => p1_stockOf_29 b k4 v1 x7 v3 M3)))))
set_option maxHeartbeats 4000000 in
set_option maxRecDepth 100000 in
theorem w1_stockOf_4 {G : XG} {p : Program} {l : Launch} {e : Env} {s : State} {m : MethodId} {args : Array Value} {below : List Frame} {meth : Method} {c : Code} (F : Fx G ZX p m c cX1_stockOf 4 s args RX1) (hr : meth.sig.returnType = some .int) (hk : meth.locks = false) {r : Int32} {M' : SX} (b : Nat) (qb : isL b) (k4 : Int32 → Int32 → Int32 → SX → Option (Int32 × SX)) (hk4 : ∀ (v1 : Int32) (v2 : Int32) (v3 : Int32) (M : SX) (H : Heap) (locs : List Loc) (ls : Array Slot), Wld G ZX M s.heap H locs → lv_has ls 4 [(0, .ref (G.2.1 b)), (1, .int v1), (2, .int v2), (3, .int v3)] → k4 v1 v2 v3 M = some (r, M') → WXi G ZX p l e 1 s m args below meth c r M' H locs (F0 m 4 ls [])) : ∀ (v1 : Int32) (v2 : Int32) (v3 : Int32) (M : SX) (H : Heap) (locs : List Loc) (ls : Array Slot), Wld G ZX M s.heap H locs → lv_has ls 4 [(0, .ref (G.2.1 b)), (1, .int v1), (2, .int v2), (3, .int v3)] → p1_stockOf_4 b k4 v1 v2 v3 M = some (r, M') → WXi G ZX p l e 1 s m args below meth c r M' H locs (F0 m 4 ls []) := by
  intro v1 v2 v3 M H locs ls hw hl hf
  have hx := F.1.1
  have hb := F.1.2.1
  unfold p1_stockOf_4 at hf
  refine lv_iload_n hx hb dX1_stockOf_4 rfl (lv_at hl 3 rfl) ?_
  refine lv_aload_n hx hb dX1_stockOf_5 rfl (lv_at hl 0 rfl) ?_
  refine g1_0 qb F hw tw_41 dX1_stockOf_6 ?_
  refine lv_icmp_ge (tgt := 35) hx hb dX1_stockOf_9 (by decide) (fun c1 => ?_) (fun c1 => ?_)
  · have hf := it_t hf c1
    refine lv_iload_n hx hb dX1_stockOf_35 rfl (lv_at hl 2 rfl) ?_
    exact x_iret F hw hr hk hf dX1_stockOf_36
  · have hf := it_f hf c1
    refine lv_iload_n hx hb dX1_stockOf_12 rfl (lv_at hl 1 rfl) ?_
    refine lv_iload_n hx hb dX1_stockOf_13 rfl (lv_at hl 3 rfl) ?_
    obtain ⟨r4, M3, hc2, hf⟩ := bd_some hf
    refine x_aftI hw (x_runN (rest := []) F hw hl.1 nn_RX1_66 (c5_isIn v1 v3 hc2) rfl rfl (Nat.le_of_ble_eq_true rfl) ⟨Nat.le_of_ble_eq_true rfl, Nat.le_of_ble_eq_true rfl⟩ dX1_stockOf_14) (fun H locs hw => ?_)
    refine lv_if_eq (tgt := 29) hx hb dX1_stockOf_17 (by decide) (fun c5 => ?_) (fun c5 => ?_)
    · have hf := it_t hf c5
      exact w1_stockOf_29 F hr hk b qb k4 hk4 v1 v2 v3 M3 _ _ ls hw (lv_sub hl [0, 1, 2, 3] rfl) hf
    · have hf := it_f hf c5
      refine lv_iload_n hx hb dX1_stockOf_20 rfl (lv_at hl 2 rfl) ?_
      refine lv_aload_n hx hb dX1_stockOf_21 rfl (lv_at hl 0 rfl) ?_
      refine g1_3 qb F hw tw_63 dX1_stockOf_22 ?_
      refine lv_iload_n hx hb dX1_stockOf_25 rfl (lv_at hl 3 rfl) ?_
      obtain ⟨g6, hf⟩ := gd_some hf
      refine x_iald F hw (sL3 qb) g6 dX1_stockOf_26 ?_
      refine lv_iadd hx hb dX1_stockOf_27 ?_
      obtain ⟨x7, ex7, hf⟩ := lt_elim hf
      refine x_let ex7 ?_
      refine lv_istore_n (lv' := [(2, .int x7), (0, .ref (G.2.1 b)), (1, .int v1), (3, .int v3)]) hx hb dX1_stockOf_28 rfl hl (by decide) rfl (fun ls hl => ?_)
      exact w1_stockOf_29 F hr hk b qb k4 hk4 v1 x7 v3 M3 _ _ ls hw (lv_sub hl [1, 2, 0, 3] rfl) hf
theorem z1_stockOf_4 {G : XG} {p : Program} {l : Launch} {e : Env} {s : State} {m : MethodId} {args : Array Value} {below : List Frame} {meth : Method} {c : Code} (F : Fx G ZX p m c cX1_stockOf 4 s args RX1) (hr : meth.sig.returnType = some .int) (hk : meth.locks = false) {r : Int32} {M' : SX} (b : Nat) (qb : isL b) : ∀ n : Nat, ∀ (v1 : Int32) (v2 : Int32) (v3 : Int32) (M : SX) (H : Heap) (locs : List Loc) (ls : Array Slot), Wld G ZX M s.heap H locs → lv_has ls 4 [(0, .ref (G.2.1 b)), (1, .int v1), (2, .int v2), (3, .int v3)] → xlp3 (p1_stockOf_4 b) n v1 v2 v3 M = some (r, M') → WXi G ZX p l e 1 s m args below meth c r M' H locs (F0 m 4 ls []) := by
  intro n
  induction n with
  | zero => intro _ _ _ _ _ _ _ _ _ hf; cases hf
  | succ n ih => exact w1_stockOf_4 F hr hk b qb (xlp3 (p1_stockOf_4 b) n) ih
def p1_stockOf (b : Nat) (a1 : Int32) (M : SX) : Option (Int32 × SX) :=
  xlp3 (p1_stockOf_4 b) FU a1 0 0 M
set_option maxHeartbeats 4000000 in
set_option maxRecDepth 100000 in
theorem c1_stockOf {l : Launch} {G : XG} {r : Int32} {M' : SX} {M : SX} (b : Nat) (qb : isL b) (a1 : Int32) (hf : p1_stockOf b a1 M = some (r, M')) : Met l yX1_stockOf (.code yX1_stockOf cX1_stockOf 4 (some .int) :: TBL) (rmX 1) (xPc G ZX M [.ref (G.2.1 b), .int a1]) (xQi G ZX r M') 0 0 (inA G ZX) := by
  refine x_met (cc := cX1_stockOf) (by decide) (Nat.le_of_ble_eq_true rfl) ?_
  intro p e s m below meth c ls F hr hk hl hw
  have F : Fx G ZX p m c cX1_stockOf 4 s [.ref (G.2.1 b), .int a1].toArray RX1 := F
  have hl : lv_has ls 4 [(0, .ref (G.2.1 b)), (1, .int a1)] := hl
  have hx := F.1.1
  have hb := F.1.2.1
  unfold p1_stockOf at hf
  refine lv_iconst (v := 0) hx hb dX1_stockOf_0 (by decide) ?_
  refine lv_istore_n (lv' := [(2, .int 0), (0, .ref (G.2.1 b)), (1, .int a1)]) hx hb dX1_stockOf_1 rfl hl (by decide) rfl (fun ls hl => ?_)
  refine lv_iconst (v := 0) hx hb dX1_stockOf_2 (by decide) ?_
  refine lv_istore_n (lv' := [(3, .int 0), (2, .int 0), (0, .ref (G.2.1 b)), (1, .int a1)]) hx hb dX1_stockOf_3 rfl hl (by decide) rfl (fun ls hl => ?_)
  exact z1_stockOf_4 F hr hk b qb FU a1 0 0 M _ _ ls hw (lv_sub hl [2, 3, 1, 0] rfl) hf
theorem dX1_howManyOf_0 : decode cX1_howManyOf 0 = .ok (.iconst 0, 1) := by decide +kernel
theorem dX1_howManyOf_1 : decode cX1_howManyOf 1 = .ok (.istore_n 2, 1) := by decide +kernel
theorem dX1_howManyOf_2 : decode cX1_howManyOf 2 = .ok (.iconst 0, 1) := by decide +kernel
theorem dX1_howManyOf_3 : decode cX1_howManyOf 3 = .ok (.istore_n 3, 1) := by decide +kernel
theorem dX1_howManyOf_4 : decode cX1_howManyOf 4 = .ok (.iload_n 3, 1) := by decide +kernel
theorem dX1_howManyOf_5 : decode cX1_howManyOf 5 = .ok (.aload_n 0, 1) := by decide +kernel
theorem dX1_howManyOf_6 : decode cX1_howManyOf 6 = .ok (.getfield 9, 3) := by decide +kernel
theorem dX1_howManyOf_9 : decode cX1_howManyOf 9 = .ok (.if_icmp .ge 25, 3) := by decide +kernel
theorem dX1_howManyOf_12 : decode cX1_howManyOf 12 = .ok (.aload_n 0, 1) := by decide +kernel
theorem dX1_howManyOf_13 : decode cX1_howManyOf 13 = .ok (.getfield 15, 3) := by decide +kernel
theorem dX1_howManyOf_16 : decode cX1_howManyOf 16 = .ok (.iload_n 3, 1) := by decide +kernel
theorem dX1_howManyOf_17 : decode cX1_howManyOf 17 = .ok (.iaload, 1) := by decide +kernel
theorem dX1_howManyOf_18 : decode cX1_howManyOf 18 = .ok (.iload_n 1, 1) := by decide +kernel
theorem dX1_howManyOf_19 : decode cX1_howManyOf 19 = .ok (.invokestatic 78, 3) := by decide +kernel
theorem dX1_howManyOf_22 : decode cX1_howManyOf 22 = .ok (.ifCond .eq 6, 3) := by decide +kernel
theorem dX1_howManyOf_25 : decode cX1_howManyOf 25 = .ok (.iinc 2 1, 3) := by decide +kernel
theorem dX1_howManyOf_28 : decode cX1_howManyOf 28 = .ok (.iinc 3 1, 3) := by decide +kernel
theorem dX1_howManyOf_31 : decode cX1_howManyOf 31 = .ok (.goto (-27), 3) := by decide +kernel
theorem dX1_howManyOf_34 : decode cX1_howManyOf 34 = .ok (.iload_n 2, 1) := by decide +kernel
theorem dX1_howManyOf_35 : decode cX1_howManyOf 35 = .ok (.ireturn, 1) := by decide +kernel
def p1_howManyOf_28 (b : Nat) (k4 : Int32 → Int32 → Int32 → SX → Option (Int32 × SX)) (v1 : Int32) (v2 : Int32) (v3 : Int32) (M : SX) : Option (Int32 × SX) :=
  lt_ (v3 + 1) (fun x1 => k4 v1 v2 x1 M)
set_option maxHeartbeats 4000000 in
set_option maxRecDepth 100000 in
theorem w1_howManyOf_28 {G : XG} {p : Program} {l : Launch} {e : Env} {s : State} {m : MethodId} {args : Array Value} {below : List Frame} {meth : Method} {c : Code} (F : Fx G ZX p m c cX1_howManyOf 4 s args RX1) (hr : meth.sig.returnType = some .int) (hk : meth.locks = false) {r : Int32} {M' : SX} (b : Nat) (qb : isL b) (k4 : Int32 → Int32 → Int32 → SX → Option (Int32 × SX)) (hk4 : ∀ (v1 : Int32) (v2 : Int32) (v3 : Int32) (M : SX) (H : Heap) (locs : List Loc) (ls : Array Slot), Wld G ZX M s.heap H locs → lv_has ls 4 [(0, .ref (G.2.1 b)), (1, .int v1), (2, .int v2), (3, .int v3)] → k4 v1 v2 v3 M = some (r, M') → WXi G ZX p l e 1 s m args below meth c r M' H locs (F0 m 4 ls [])) : ∀ (v1 : Int32) (v2 : Int32) (v3 : Int32) (M : SX) (H : Heap) (locs : List Loc) (ls : Array Slot), Wld G ZX M s.heap H locs → lv_has ls 4 [(0, .ref (G.2.1 b)), (1, .int v1), (2, .int v2), (3, .int v3)] → p1_howManyOf_28 b k4 v1 v2 v3 M = some (r, M') → WXi G ZX p l e 1 s m args below meth c r M' H locs (F0 m 28 ls []) := by
  intro v1 v2 v3 M H locs ls hw hl hf
  have hx := F.1.1
  have hb := F.1.2.1
  unfold p1_howManyOf_28 at hf
  obtain ⟨x1, ex1, hf⟩ := lt_elim hf
  refine lv_iinc (v := x1) (lv' := [(3, .int x1), (0, .ref (G.2.1 b)), (1, .int v1), (2, .int v2)]) hx hb dX1_howManyOf_28 hl (k := 3) rfl (by rw [ex1]; rfl) (by decide) rfl (fun ls hl => ?_)
  refine lv_goto (tgt := 4) hx hb dX1_howManyOf_31 (by decide) ?_
  exact hk4 v1 v2 x1 M _ _ ls hw (lv_sub hl [1, 2, 3, 0] rfl) hf
def p1_howManyOf_4 (b : Nat) (k4 : Int32 → Int32 → Int32 → SX → Option (Int32 × SX)) (v1 : Int32) (v2 : Int32) (v3 : Int32) (M : SX) : Option (Int32 × SX) :=
  if (M.1 b 0) ≤ v3 then (some (v2, M))
  else (gd (bIn v3 6) ( bd (p5_isOfKind (M.1 (b + 1) (Int32.toNatClampNeg v3)) v1 M) (fun r5 M4 => if r5 = 0 then (p1_howManyOf_28 b k4 v1 v2 v3 M4)
  else (lt_ (v2 + 1) (fun x7 => p1_howManyOf_28 b k4 v1 x7 v3 M4)))))
set_option maxHeartbeats 4000000 in
set_option maxRecDepth 100000 in
theorem w1_howManyOf_4 {G : XG} {p : Program} {l : Launch} {e : Env} {s : State} {m : MethodId} {args : Array Value} {below : List Frame} {meth : Method} {c : Code} (F : Fx G ZX p m c cX1_howManyOf 4 s args RX1) (hr : meth.sig.returnType = some .int) (hk : meth.locks = false) {r : Int32} {M' : SX} (b : Nat) (qb : isL b) (k4 : Int32 → Int32 → Int32 → SX → Option (Int32 × SX)) (hk4 : ∀ (v1 : Int32) (v2 : Int32) (v3 : Int32) (M : SX) (H : Heap) (locs : List Loc) (ls : Array Slot), Wld G ZX M s.heap H locs → lv_has ls 4 [(0, .ref (G.2.1 b)), (1, .int v1), (2, .int v2), (3, .int v3)] → k4 v1 v2 v3 M = some (r, M') → WXi G ZX p l e 1 s m args below meth c r M' H locs (F0 m 4 ls [])) : ∀ (v1 : Int32) (v2 : Int32) (v3 : Int32) (M : SX) (H : Heap) (locs : List Loc) (ls : Array Slot), Wld G ZX M s.heap H locs → lv_has ls 4 [(0, .ref (G.2.1 b)), (1, .int v1), (2, .int v2), (3, .int v3)] → p1_howManyOf_4 b k4 v1 v2 v3 M = some (r, M') → WXi G ZX p l e 1 s m args below meth c r M' H locs (F0 m 4 ls []) := by
  intro v1 v2 v3 M H locs ls hw hl hf
  have hx := F.1.1
  have hb := F.1.2.1
  unfold p1_howManyOf_4 at hf
  refine lv_iload_n hx hb dX1_howManyOf_4 rfl (lv_at hl 3 rfl) ?_
  refine lv_aload_n hx hb dX1_howManyOf_5 rfl (lv_at hl 0 rfl) ?_
  refine g1_0 qb F hw tw_41 dX1_howManyOf_6 ?_
  refine lv_icmp_ge (tgt := 34) hx hb dX1_howManyOf_9 (by decide) (fun c1 => ?_) (fun c1 => ?_)
  · have hf := it_t hf c1
    refine lv_iload_n hx hb dX1_howManyOf_34 rfl (lv_at hl 2 rfl) ?_
    exact x_iret F hw hr hk hf dX1_howManyOf_35
  · have hf := it_f hf c1
    refine lv_aload_n hx hb dX1_howManyOf_12 rfl (lv_at hl 0 rfl) ?_
    refine g1_1 qb F hw tw_64 dX1_howManyOf_13 ?_
    refine lv_iload_n hx hb dX1_howManyOf_16 rfl (lv_at hl 3 rfl) ?_
    obtain ⟨g2, hf⟩ := gd_some hf
    refine x_iald F hw (sL1 qb) g2 dX1_howManyOf_17 ?_
    refine lv_iload_n hx hb dX1_howManyOf_18 rfl (lv_at hl 1 rfl) ?_
    obtain ⟨r5, M4, hc3, hf⟩ := bd_some hf
    refine x_aftI hw (x_runN (rest := []) F hw hl.1 nn_RX1_78 (c5_isOfKind (M.1 (b + 1) (Int32.toNatClampNeg v3)) v1 hc3) rfl rfl (Nat.le_of_ble_eq_true rfl) ⟨Nat.le_of_ble_eq_true rfl, Nat.le_of_ble_eq_true rfl⟩ dX1_howManyOf_19) (fun H locs hw => ?_)
    refine lv_if_eq (tgt := 28) hx hb dX1_howManyOf_22 (by decide) (fun c6 => ?_) (fun c6 => ?_)
    · have hf := it_t hf c6
      exact w1_howManyOf_28 F hr hk b qb k4 hk4 v1 v2 v3 M4 _ _ ls hw (lv_sub hl [0, 1, 2, 3] rfl) hf
    · have hf := it_f hf c6
      obtain ⟨x7, ex7, hf⟩ := lt_elim hf
      refine lv_iinc (v := x7) (lv' := [(2, .int x7), (0, .ref (G.2.1 b)), (1, .int v1), (3, .int v3)]) hx hb dX1_howManyOf_25 hl (k := 2) rfl (by rw [ex7]; rfl) (by decide) rfl (fun ls hl => ?_)
      exact w1_howManyOf_28 F hr hk b qb k4 hk4 v1 x7 v3 M4 _ _ ls hw (lv_sub hl [1, 2, 0, 3] rfl) hf
theorem z1_howManyOf_4 {G : XG} {p : Program} {l : Launch} {e : Env} {s : State} {m : MethodId} {args : Array Value} {below : List Frame} {meth : Method} {c : Code} (F : Fx G ZX p m c cX1_howManyOf 4 s args RX1) (hr : meth.sig.returnType = some .int) (hk : meth.locks = false) {r : Int32} {M' : SX} (b : Nat) (qb : isL b) : ∀ n : Nat, ∀ (v1 : Int32) (v2 : Int32) (v3 : Int32) (M : SX) (H : Heap) (locs : List Loc) (ls : Array Slot), Wld G ZX M s.heap H locs → lv_has ls 4 [(0, .ref (G.2.1 b)), (1, .int v1), (2, .int v2), (3, .int v3)] → xlp3 (p1_howManyOf_4 b) n v1 v2 v3 M = some (r, M') → WXi G ZX p l e 1 s m args below meth c r M' H locs (F0 m 4 ls []) := by
  intro n
  induction n with
  | zero => intro _ _ _ _ _ _ _ _ _ hf; cases hf
  | succ n ih => exact w1_howManyOf_4 F hr hk b qb (xlp3 (p1_howManyOf_4 b) n) ih
def p1_howManyOf (b : Nat) (a1 : Int32) (M : SX) : Option (Int32 × SX) :=
  xlp3 (p1_howManyOf_4 b) FU a1 0 0 M
set_option maxHeartbeats 4000000 in
set_option maxRecDepth 100000 in
theorem c1_howManyOf {l : Launch} {G : XG} {r : Int32} {M' : SX} {M : SX} (b : Nat) (qb : isL b) (a1 : Int32) (hf : p1_howManyOf b a1 M = some (r, M')) : Met l yX1_howManyOf (.code yX1_howManyOf cX1_howManyOf 4 (some .int) :: TBL) (rmX 1) (xPc G ZX M [.ref (G.2.1 b), .int a1]) (xQi G ZX r M') 0 0 (inA G ZX) := by
  refine x_met (cc := cX1_howManyOf) (by decide) (Nat.le_of_ble_eq_true rfl) ?_
  intro p e s m below meth c ls F hr hk hl hw
  have F : Fx G ZX p m c cX1_howManyOf 4 s [.ref (G.2.1 b), .int a1].toArray RX1 := F
  have hl : lv_has ls 4 [(0, .ref (G.2.1 b)), (1, .int a1)] := hl
  have hx := F.1.1
  have hb := F.1.2.1
  unfold p1_howManyOf at hf
  refine lv_iconst (v := 0) hx hb dX1_howManyOf_0 (by decide) ?_
  refine lv_istore_n (lv' := [(2, .int 0), (0, .ref (G.2.1 b)), (1, .int a1)]) hx hb dX1_howManyOf_1 rfl hl (by decide) rfl (fun ls hl => ?_)
  refine lv_iconst (v := 0) hx hb dX1_howManyOf_2 (by decide) ?_
  refine lv_istore_n (lv' := [(3, .int 0), (2, .int 0), (0, .ref (G.2.1 b)), (1, .int a1)]) hx hb dX1_howManyOf_3 rfl hl (by decide) rfl (fun ls hl => ?_)
  exact z1_howManyOf_4 F hr hk b qb FU a1 0 0 M _ _ ls hw (lv_sub hl [2, 3, 1, 0] rfl) hf
theorem dX1_oldestTicket_0 : decode cX1_oldestTicket 0 = .ok (.iconst 0, 1) := by decide +kernel
theorem dX1_oldestTicket_1 : decode cX1_oldestTicket 1 = .ok (.istore_n 1, 1) := by decide +kernel
theorem dX1_oldestTicket_2 : decode cX1_oldestTicket 2 = .ok (.iconst 0, 1) := by decide +kernel
theorem dX1_oldestTicket_3 : decode cX1_oldestTicket 3 = .ok (.istore_n 2, 1) := by decide +kernel
theorem dX1_oldestTicket_4 : decode cX1_oldestTicket 4 = .ok (.iload_n 2, 1) := by decide +kernel
theorem dX1_oldestTicket_5 : decode cX1_oldestTicket 5 = .ok (.aload_n 0, 1) := by decide +kernel
theorem dX1_oldestTicket_6 : decode cX1_oldestTicket 6 = .ok (.getfield 9, 3) := by decide +kernel
theorem dX1_oldestTicket_9 : decode cX1_oldestTicket 9 = .ok (.if_icmp .ge 20, 3) := by decide +kernel
theorem dX1_oldestTicket_12 : decode cX1_oldestTicket 12 = .ok (.iload_n 1, 1) := by decide +kernel
theorem dX1_oldestTicket_13 : decode cX1_oldestTicket 13 = .ok (.aload_n 0, 1) := by decide +kernel
theorem dX1_oldestTicket_14 : decode cX1_oldestTicket 14 = .ok (.getfield 31, 3) := by decide +kernel
theorem dX1_oldestTicket_17 : decode cX1_oldestTicket 17 = .ok (.iload_n 2, 1) := by decide +kernel
theorem dX1_oldestTicket_18 : decode cX1_oldestTicket 18 = .ok (.iaload, 1) := by decide +kernel
theorem dX1_oldestTicket_19 : decode cX1_oldestTicket 19 = .ok (.invokestatic 81, 3) := by decide +kernel
theorem dX1_oldestTicket_22 : decode cX1_oldestTicket 22 = .ok (.istore_n 1, 1) := by decide +kernel
theorem dX1_oldestTicket_23 : decode cX1_oldestTicket 23 = .ok (.iinc 2 1, 3) := by decide +kernel
theorem dX1_oldestTicket_26 : decode cX1_oldestTicket 26 = .ok (.goto (-22), 3) := by decide +kernel
theorem dX1_oldestTicket_29 : decode cX1_oldestTicket 29 = .ok (.iload_n 1, 1) := by decide +kernel
theorem dX1_oldestTicket_30 : decode cX1_oldestTicket 30 = .ok (.ireturn, 1) := by decide +kernel
def p1_oldestTicket_4 (b : Nat) (k4 : Int32 → Int32 → SX → Option (Int32 × SX)) (v1 : Int32) (v2 : Int32) (M : SX) : Option (Int32 × SX) :=
  if (M.1 b 0) ≤ v2 then (some (v1, M))
  else (gd (bIn v2 6) ( lt_ (jmax v1 (M.1 (b + 6) (Int32.toNatClampNeg v2))) (fun x3 => lt_ (v2 + 1) (fun x4 => k4 x3 x4 M))))
set_option maxHeartbeats 4000000 in
set_option maxRecDepth 100000 in
theorem w1_oldestTicket_4 {G : XG} {p : Program} {l : Launch} {e : Env} {s : State} {m : MethodId} {args : Array Value} {below : List Frame} {meth : Method} {c : Code} (F : Fx G ZX p m c cX1_oldestTicket 3 s args RX1) (hr : meth.sig.returnType = some .int) (hk : meth.locks = false) {r : Int32} {M' : SX} (b : Nat) (qb : isL b) (k4 : Int32 → Int32 → SX → Option (Int32 × SX)) (hk4 : ∀ (v1 : Int32) (v2 : Int32) (M : SX) (H : Heap) (locs : List Loc) (ls : Array Slot), Wld G ZX M s.heap H locs → lv_has ls 3 [(0, .ref (G.2.1 b)), (1, .int v1), (2, .int v2)] → k4 v1 v2 M = some (r, M') → WXi G ZX p l e 1 s m args below meth c r M' H locs (F0 m 4 ls [])) : ∀ (v1 : Int32) (v2 : Int32) (M : SX) (H : Heap) (locs : List Loc) (ls : Array Slot), Wld G ZX M s.heap H locs → lv_has ls 3 [(0, .ref (G.2.1 b)), (1, .int v1), (2, .int v2)] → p1_oldestTicket_4 b k4 v1 v2 M = some (r, M') → WXi G ZX p l e 1 s m args below meth c r M' H locs (F0 m 4 ls []) := by
  intro v1 v2 M H locs ls hw hl hf
  have hx := F.1.1
  have hb := F.1.2.1
  unfold p1_oldestTicket_4 at hf
  refine lv_iload_n hx hb dX1_oldestTicket_4 rfl (lv_at hl 2 rfl) ?_
  refine lv_aload_n hx hb dX1_oldestTicket_5 rfl (lv_at hl 0 rfl) ?_
  refine g1_0 qb F hw tw_41 dX1_oldestTicket_6 ?_
  refine lv_icmp_ge (tgt := 29) hx hb dX1_oldestTicket_9 (by decide) (fun c1 => ?_) (fun c1 => ?_)
  · have hf := it_t hf c1
    refine lv_iload_n hx hb dX1_oldestTicket_29 rfl (lv_at hl 1 rfl) ?_
    exact x_iret F hw hr hk hf dX1_oldestTicket_30
  · have hf := it_f hf c1
    refine lv_iload_n hx hb dX1_oldestTicket_12 rfl (lv_at hl 1 rfl) ?_
    refine lv_aload_n hx hb dX1_oldestTicket_13 rfl (lv_at hl 0 rfl) ?_
    refine g1_6 qb F hw tw_46 dX1_oldestTicket_14 ?_
    refine lv_iload_n hx hb dX1_oldestTicket_17 rfl (lv_at hl 2 rfl) ?_
    obtain ⟨g2, hf⟩ := gd_some hf
    refine x_iald F hw (sL6 qb) g2 dX1_oldestTicket_18 ?_
    refine x_max F hl.1 tw_68 tw_5 tw_6 tw_7 (Nat.le_of_ble_eq_true rfl) (Nat.le_of_ble_eq_true rfl) dX1_oldestTicket_19 ?_
    obtain ⟨x3, ex3, hf⟩ := lt_elim hf
    refine x_let ex3 ?_
    refine lv_istore_n (lv' := [(1, .int x3), (0, .ref (G.2.1 b)), (2, .int v2)]) hx hb dX1_oldestTicket_22 rfl hl (by decide) rfl (fun ls hl => ?_)
    obtain ⟨x4, ex4, hf⟩ := lt_elim hf
    refine lv_iinc (v := x4) (lv' := [(2, .int x4), (1, .int x3), (0, .ref (G.2.1 b))]) hx hb dX1_oldestTicket_23 hl (k := 2) rfl (by rw [ex4]; rfl) (by decide) rfl (fun ls hl => ?_)
    refine lv_goto (tgt := 4) hx hb dX1_oldestTicket_26 (by decide) ?_
    exact hk4 x3 x4 M _ _ ls hw (lv_sub hl [2, 1, 0] rfl) hf
theorem z1_oldestTicket_4 {G : XG} {p : Program} {l : Launch} {e : Env} {s : State} {m : MethodId} {args : Array Value} {below : List Frame} {meth : Method} {c : Code} (F : Fx G ZX p m c cX1_oldestTicket 3 s args RX1) (hr : meth.sig.returnType = some .int) (hk : meth.locks = false) {r : Int32} {M' : SX} (b : Nat) (qb : isL b) : ∀ n : Nat, ∀ (v1 : Int32) (v2 : Int32) (M : SX) (H : Heap) (locs : List Loc) (ls : Array Slot), Wld G ZX M s.heap H locs → lv_has ls 3 [(0, .ref (G.2.1 b)), (1, .int v1), (2, .int v2)] → xlp2 (p1_oldestTicket_4 b) n v1 v2 M = some (r, M') → WXi G ZX p l e 1 s m args below meth c r M' H locs (F0 m 4 ls []) := by
  intro n
  induction n with
  | zero => intro _ _ _ _ _ _ _ _ hf; cases hf
  | succ n ih => exact w1_oldestTicket_4 F hr hk b qb (xlp2 (p1_oldestTicket_4 b) n) ih
def p1_oldestTicket (b : Nat) (M : SX) : Option (Int32 × SX) :=
  xlp2 (p1_oldestTicket_4 b) FU 0 0 M
set_option maxHeartbeats 4000000 in
set_option maxRecDepth 100000 in
theorem c1_oldestTicket {l : Launch} {G : XG} {r : Int32} {M' : SX} {M : SX} (b : Nat) (qb : isL b) (hf : p1_oldestTicket b M = some (r, M')) : Met l yX1_oldestTicket (.code yX1_oldestTicket cX1_oldestTicket 3 (some .int) :: TBL) (rmX 1) (xPc G ZX M [.ref (G.2.1 b)]) (xQi G ZX r M') 0 0 (inA G ZX) := by
  refine x_met (cc := cX1_oldestTicket) (by decide) (Nat.le_of_ble_eq_true rfl) ?_
  intro p e s m below meth c ls F hr hk hl hw
  have F : Fx G ZX p m c cX1_oldestTicket 3 s [.ref (G.2.1 b)].toArray RX1 := F
  have hl : lv_has ls 3 [(0, .ref (G.2.1 b))] := hl
  have hx := F.1.1
  have hb := F.1.2.1
  unfold p1_oldestTicket at hf
  refine lv_iconst (v := 0) hx hb dX1_oldestTicket_0 (by decide) ?_
  refine lv_istore_n (lv' := [(1, .int 0), (0, .ref (G.2.1 b))]) hx hb dX1_oldestTicket_1 rfl hl (by decide) rfl (fun ls hl => ?_)
  refine lv_iconst (v := 0) hx hb dX1_oldestTicket_2 (by decide) ?_
  refine lv_istore_n (lv' := [(2, .int 0), (1, .int 0), (0, .ref (G.2.1 b))]) hx hb dX1_oldestTicket_3 rfl hl (by decide) rfl (fun ls hl => ?_)
  exact z1_oldestTicket_4 F hr hk b qb FU 0 0 M _ _ ls hw (lv_sub hl [2, 1, 0] rfl) hf
theorem dX1_ringOf_0 : decode cX1_ringOf 0 = .ok (.iconst 0, 1) := by decide +kernel
theorem dX1_ringOf_1 : decode cX1_ringOf 1 = .ok (.istore_n 2, 1) := by decide +kernel
theorem dX1_ringOf_2 : decode cX1_ringOf 2 = .ok (.iload_n 1, 1) := by decide +kernel
theorem dX1_ringOf_3 : decode cX1_ringOf 3 = .ok (.istore_n 3, 1) := by decide +kernel
theorem dX1_ringOf_4 : decode cX1_ringOf 4 = .ok (.iconst 0, 1) := by decide +kernel
theorem dX1_ringOf_5 : decode cX1_ringOf 5 = .ok (.istore 4, 2) := by decide +kernel
theorem dX1_ringOf_7 : decode cX1_ringOf 7 = .ok (.iload 4, 2) := by decide +kernel
theorem dX1_ringOf_9 : decode cX1_ringOf 9 = .ok (.aload_n 0, 1) := by decide +kernel
theorem dX1_ringOf_10 : decode cX1_ringOf 10 = .ok (.getfield 9, 3) := by decide +kernel
theorem dX1_ringOf_13 : decode cX1_ringOf 13 = .ok (.if_icmp .ge 37, 3) := by decide +kernel
theorem dX1_ringOf_16 : decode cX1_ringOf 16 = .ok (.aload_n 0, 1) := by decide +kernel
theorem dX1_ringOf_17 : decode cX1_ringOf 17 = .ok (.iload_n 3, 1) := by decide +kernel
theorem dX1_ringOf_18 : decode cX1_ringOf 18 = .ok (.invokevirtual 62, 3) := by decide +kernel
theorem dX1_ringOf_21 : decode cX1_ringOf 21 = .ok (.ifCond .eq 29, 3) := by decide +kernel
theorem dX1_ringOf_24 : decode cX1_ringOf 24 = .ok (.iload_n 2, 1) := by decide +kernel
theorem dX1_ringOf_25 : decode cX1_ringOf 25 = .ok (.iconst 1, 1) := by decide +kernel
theorem dX1_ringOf_26 : decode cX1_ringOf 26 = .ok (.iload_n 3, 1) := by decide +kernel
theorem dX1_ringOf_27 : decode cX1_ringOf 27 = .ok (.ishl, 1) := by decide +kernel
theorem dX1_ringOf_28 : decode cX1_ringOf 28 = .ok (.ior, 1) := by decide +kernel
theorem dX1_ringOf_29 : decode cX1_ringOf 29 = .ok (.istore_n 2, 1) := by decide +kernel
theorem dX1_ringOf_30 : decode cX1_ringOf 30 = .ok (.aload_n 0, 1) := by decide +kernel
theorem dX1_ringOf_31 : decode cX1_ringOf 31 = .ok (.getfield 25, 3) := by decide +kernel
theorem dX1_ringOf_34 : decode cX1_ringOf 34 = .ok (.iload_n 3, 1) := by decide +kernel
theorem dX1_ringOf_35 : decode cX1_ringOf 35 = .ok (.iaload, 1) := by decide +kernel
theorem dX1_ringOf_36 : decode cX1_ringOf 36 = .ok (.istore_n 3, 1) := by decide +kernel
theorem dX1_ringOf_37 : decode cX1_ringOf 37 = .ok (.iload_n 3, 1) := by decide +kernel
theorem dX1_ringOf_38 : decode cX1_ringOf 38 = .ok (.iload_n 1, 1) := by decide +kernel
theorem dX1_ringOf_39 : decode cX1_ringOf 39 = .ok (.if_icmp .ne 5, 3) := by decide +kernel
theorem dX1_ringOf_42 : decode cX1_ringOf 42 = .ok (.iload_n 2, 1) := by decide +kernel
theorem dX1_ringOf_43 : decode cX1_ringOf 43 = .ok (.ireturn, 1) := by decide +kernel
theorem dX1_ringOf_44 : decode cX1_ringOf 44 = .ok (.iinc 4 1, 3) := by decide +kernel
theorem dX1_ringOf_47 : decode cX1_ringOf 47 = .ok (.goto (-40), 3) := by decide +kernel
theorem dX1_ringOf_50 : decode cX1_ringOf 50 = .ok (.iconst 0, 1) := by decide +kernel
theorem dX1_ringOf_51 : decode cX1_ringOf 51 = .ok (.ireturn, 1) := by decide +kernel
def p1_ringOf_7 (b : Nat) (k7 : Int32 → Int32 → Int32 → Int32 → SX → Option (Int32 × SX)) (v1 : Int32) (v2 : Int32) (v3 : Int32) (v4 : Int32) (M : SX) : Option (Int32 × SX) :=
  if (M.1 b 0) ≤ v4 then (some (0, M))
  else (bd (p1_isPawned b v3 M) (fun r4 M3 => if r4 = 0 then (some (0, M3))
  else (lt_ (v2 ||| ((1 : Int32) <<< (v3 &&& 31))) (fun x6 => gd (bIn v3 6) ( lt_ (M3.1 (b + 4) (Int32.toNatClampNeg v3)) (fun x8 => if x8 = v1 then (some (x6, M3))
  else (lt_ (v4 + 1) (fun x10 => k7 v1 x6 x8 x10 M3))))))))
set_option maxHeartbeats 4000000 in
set_option maxRecDepth 100000 in
theorem w1_ringOf_7 {G : XG} {p : Program} {l : Launch} {e : Env} {s : State} {m : MethodId} {args : Array Value} {below : List Frame} {meth : Method} {c : Code} (F : Fx G ZX p m c cX1_ringOf 5 s args RX1) (hr : meth.sig.returnType = some .int) (hk : meth.locks = false) {r : Int32} {M' : SX} (b : Nat) (qb : isL b) (k7 : Int32 → Int32 → Int32 → Int32 → SX → Option (Int32 × SX)) (hk7 : ∀ (v1 : Int32) (v2 : Int32) (v3 : Int32) (v4 : Int32) (M : SX) (H : Heap) (locs : List Loc) (ls : Array Slot), Wld G ZX M s.heap H locs → lv_has ls 5 [(0, .ref (G.2.1 b)), (1, .int v1), (2, .int v2), (3, .int v3), (4, .int v4)] → k7 v1 v2 v3 v4 M = some (r, M') → WXi G ZX p l e 1 s m args below meth c r M' H locs (F0 m 7 ls [])) : ∀ (v1 : Int32) (v2 : Int32) (v3 : Int32) (v4 : Int32) (M : SX) (H : Heap) (locs : List Loc) (ls : Array Slot), Wld G ZX M s.heap H locs → lv_has ls 5 [(0, .ref (G.2.1 b)), (1, .int v1), (2, .int v2), (3, .int v3), (4, .int v4)] → p1_ringOf_7 b k7 v1 v2 v3 v4 M = some (r, M') → WXi G ZX p l e 1 s m args below meth c r M' H locs (F0 m 7 ls []) := by
  intro v1 v2 v3 v4 M H locs ls hw hl hf
  have hx := F.1.1
  have hb := F.1.2.1
  unfold p1_ringOf_7 at hf
  refine lv_iload hx hb dX1_ringOf_7 (lv_at hl 4 rfl) ?_
  refine lv_aload_n hx hb dX1_ringOf_9 rfl (lv_at hl 0 rfl) ?_
  refine g1_0 qb F hw tw_41 dX1_ringOf_10 ?_
  refine lv_icmp_ge (tgt := 50) hx hb dX1_ringOf_13 (by decide) (fun c1 => ?_) (fun c1 => ?_)
  · have hf := it_t hf c1
    refine lv_iconst (v := 0) hx hb dX1_ringOf_50 (by decide) ?_
    exact x_iret F hw hr hk hf dX1_ringOf_51
  · have hf := it_f hf c1
    refine lv_aload_n hx hb dX1_ringOf_16 rfl (lv_at hl 0 rfl) ?_
    refine lv_iload_n hx hb dX1_ringOf_17 rfl (lv_at hl 3 rfl) ?_
    obtain ⟨r4, M3, hc2, hf⟩ := bd_some hf
    refine x_aftI hw (x_runV (rest := []) F hw hl.1 vw_RX1_62 (sL qb) rfl (c1_isPawned b qb v3 hc2) rfl rfl (Nat.le_of_ble_eq_true rfl) ⟨Nat.le_of_ble_eq_true rfl, Nat.le_of_ble_eq_true rfl⟩ dX1_ringOf_18) (fun H locs hw => ?_)
    refine lv_if_eq (tgt := 50) hx hb dX1_ringOf_21 (by decide) (fun c5 => ?_) (fun c5 => ?_)
    · have hf := it_t hf c5
      refine lv_iconst (v := 0) hx hb dX1_ringOf_50 (by decide) ?_
      exact x_iret F hw hr hk hf dX1_ringOf_51
    · have hf := it_f hf c5
      refine lv_iload_n hx hb dX1_ringOf_24 rfl (lv_at hl 2 rfl) ?_
      refine lv_iconst (v := 1) hx hb dX1_ringOf_25 (by decide) ?_
      refine lv_iload_n hx hb dX1_ringOf_26 rfl (lv_at hl 3 rfl) ?_
      refine lv_ishl hx hb dX1_ringOf_27 ?_
      refine lv_ior hx hb dX1_ringOf_28 ?_
      obtain ⟨x6, ex6, hf⟩ := lt_elim hf
      refine x_let ex6 ?_
      refine lv_istore_n (lv' := [(2, .int x6), (0, .ref (G.2.1 b)), (1, .int v1), (3, .int v3), (4, .int v4)]) hx hb dX1_ringOf_29 rfl hl (by decide) rfl (fun ls hl => ?_)
      refine lv_aload_n hx hb dX1_ringOf_30 rfl (lv_at hl 1 rfl) ?_
      refine g1_4 qb F hw tw_44 dX1_ringOf_31 ?_
      refine lv_iload_n hx hb dX1_ringOf_34 rfl (lv_at hl 3 rfl) ?_
      obtain ⟨g7, hf⟩ := gd_some hf
      refine x_iald F hw (sL4 qb) g7 dX1_ringOf_35 ?_
      obtain ⟨x8, ex8, hf⟩ := lt_elim hf
      refine x_let ex8 ?_
      refine lv_istore_n (lv' := [(3, .int x8), (2, .int x6), (0, .ref (G.2.1 b)), (1, .int v1), (4, .int v4)]) hx hb dX1_ringOf_36 rfl hl (by decide) rfl (fun ls hl => ?_)
      refine lv_iload_n hx hb dX1_ringOf_37 rfl (lv_at hl 0 rfl) ?_
      refine lv_iload_n hx hb dX1_ringOf_38 rfl (lv_at hl 3 rfl) ?_
      refine lv_icmp_ne (tgt := 44) hx hb dX1_ringOf_39 (by decide) (fun c9 => ?_) (fun c9 => ?_)
      · have hf := it_f hf c9
        obtain ⟨x10, ex10, hf⟩ := lt_elim hf
        refine lv_iinc (v := x10) (lv' := [(4, .int x10), (3, .int x8), (2, .int x6), (0, .ref (G.2.1 b)), (1, .int v1)]) hx hb dX1_ringOf_44 hl (k := 4) rfl (by rw [ex10]; rfl) (by decide) rfl (fun ls hl => ?_)
        refine lv_goto (tgt := 7) hx hb dX1_ringOf_47 (by decide) ?_
        exact hk7 v1 x6 x8 x10 M3 _ _ ls hw (lv_sub hl [3, 4, 2, 1, 0] rfl) hf
      · have hf := it_t hf c9
        refine lv_iload_n hx hb dX1_ringOf_42 rfl (lv_at hl 1 rfl) ?_
        exact x_iret F hw hr hk hf dX1_ringOf_43
theorem z1_ringOf_7 {G : XG} {p : Program} {l : Launch} {e : Env} {s : State} {m : MethodId} {args : Array Value} {below : List Frame} {meth : Method} {c : Code} (F : Fx G ZX p m c cX1_ringOf 5 s args RX1) (hr : meth.sig.returnType = some .int) (hk : meth.locks = false) {r : Int32} {M' : SX} (b : Nat) (qb : isL b) : ∀ n : Nat, ∀ (v1 : Int32) (v2 : Int32) (v3 : Int32) (v4 : Int32) (M : SX) (H : Heap) (locs : List Loc) (ls : Array Slot), Wld G ZX M s.heap H locs → lv_has ls 5 [(0, .ref (G.2.1 b)), (1, .int v1), (2, .int v2), (3, .int v3), (4, .int v4)] → xlp4 (p1_ringOf_7 b) n v1 v2 v3 v4 M = some (r, M') → WXi G ZX p l e 1 s m args below meth c r M' H locs (F0 m 7 ls []) := by
  intro n
  induction n with
  | zero => intro _ _ _ _ _ _ _ _ _ _ hf; cases hf
  | succ n ih => exact w1_ringOf_7 F hr hk b qb (xlp4 (p1_ringOf_7 b) n) ih
def p1_ringOf (b : Nat) (a1 : Int32) (M : SX) : Option (Int32 × SX) :=
  xlp4 (p1_ringOf_7 b) FU a1 0 a1 0 M
set_option maxHeartbeats 4000000 in
set_option maxRecDepth 100000 in
theorem c1_ringOf {l : Launch} {G : XG} {r : Int32} {M' : SX} {M : SX} (b : Nat) (qb : isL b) (a1 : Int32) (hf : p1_ringOf b a1 M = some (r, M')) : Met l yX1_ringOf (.code yX1_ringOf cX1_ringOf 5 (some .int) :: TBL) (rmX 1) (xPc G ZX M [.ref (G.2.1 b), .int a1]) (xQi G ZX r M') 0 0 (inA G ZX) := by
  refine x_met (cc := cX1_ringOf) (by decide) (Nat.le_of_ble_eq_true rfl) ?_
  intro p e s m below meth c ls F hr hk hl hw
  have F : Fx G ZX p m c cX1_ringOf 5 s [.ref (G.2.1 b), .int a1].toArray RX1 := F
  have hl : lv_has ls 5 [(0, .ref (G.2.1 b)), (1, .int a1)] := hl
  have hx := F.1.1
  have hb := F.1.2.1
  unfold p1_ringOf at hf
  refine lv_iconst (v := 0) hx hb dX1_ringOf_0 (by decide) ?_
  refine lv_istore_n (lv' := [(2, .int 0), (0, .ref (G.2.1 b)), (1, .int a1)]) hx hb dX1_ringOf_1 rfl hl (by decide) rfl (fun ls hl => ?_)
  refine lv_iload_n hx hb dX1_ringOf_2 rfl (lv_at hl 2 rfl) ?_
  refine lv_istore_n (lv' := [(3, .int a1), (2, .int 0), (0, .ref (G.2.1 b)), (1, .int a1)]) hx hb dX1_ringOf_3 rfl hl (by decide) rfl (fun ls hl => ?_)
  refine lv_iconst (v := 0) hx hb dX1_ringOf_4 (by decide) ?_
  refine lv_istore (lv' := [(4, .int 0), (3, .int a1), (2, .int 0), (0, .ref (G.2.1 b)), (1, .int a1)]) hx hb dX1_ringOf_5 hl (by decide) rfl (fun ls hl => ?_)
  exact z1_ringOf_7 F hr hk b qb FU a1 0 a1 0 M _ _ ls hw (lv_sub hl [3, 4, 2, 1, 0] rfl) hf
theorem dX1_canPawn_0 : decode cX1_canPawn 0 = .ok (.iload_n 1, 1) := by decide +kernel
theorem dX1_canPawn_1 : decode cX1_canPawn 1 = .ok (.iload_n 2, 1) := by decide +kernel
theorem dX1_canPawn_2 : decode cX1_canPawn 2 = .ok (.if_icmp .eq 25, 3) := by decide +kernel
theorem dX1_canPawn_5 : decode cX1_canPawn 5 = .ok (.aload_n 0, 1) := by decide +kernel
theorem dX1_canPawn_6 : decode cX1_canPawn 6 = .ok (.iload_n 1, 1) := by decide +kernel
theorem dX1_canPawn_7 : decode cX1_canPawn 7 = .ok (.invokevirtual 62, 3) := by decide +kernel
theorem dX1_canPawn_10 : decode cX1_canPawn 10 = .ok (.ifCond .ne 17, 3) := by decide +kernel
theorem dX1_canPawn_13 : decode cX1_canPawn 13 = .ok (.aload_n 0, 1) := by decide +kernel
theorem dX1_canPawn_14 : decode cX1_canPawn 14 = .ok (.getfield 19, 3) := by decide +kernel
theorem dX1_canPawn_17 : decode cX1_canPawn 17 = .ok (.iload_n 2, 1) := by decide +kernel
theorem dX1_canPawn_18 : decode cX1_canPawn 18 = .ok (.iaload, 1) := by decide +kernel
theorem dX1_canPawn_19 : decode cX1_canPawn 19 = .ok (.iload_n 3, 1) := by decide +kernel
theorem dX1_canPawn_20 : decode cX1_canPawn 20 = .ok (.if_icmp .lt 7, 3) := by decide +kernel
theorem dX1_canPawn_23 : decode cX1_canPawn 23 = .ok (.iconst 1, 1) := by decide +kernel
theorem dX1_canPawn_24 : decode cX1_canPawn 24 = .ok (.goto 4, 3) := by decide +kernel
theorem dX1_canPawn_27 : decode cX1_canPawn 27 = .ok (.iconst 0, 1) := by decide +kernel
theorem dX1_canPawn_28 : decode cX1_canPawn 28 = .ok (.ireturn, 1) := by decide +kernel
def p1_canPawn (b : Nat) (a1 : Int32) (a2 : Int32) (a3 : Int32) (M : SX) : Option (Int32 × SX) :=
  if a1 = a2 then (some (0, M))
  else (bd (p1_isPawned b a1 M) (fun r4 M3 => if r4 = 0 then (gd (bIn a2 6) ( if (M3.1 (b + 2) (Int32.toNatClampNeg a2)) < a3 then (some (0, M3))
  else (some (1, M3))))
  else (some (0, M3))))
set_option maxHeartbeats 4000000 in
set_option maxRecDepth 100000 in
theorem c1_canPawn {l : Launch} {G : XG} {r : Int32} {M' : SX} {M : SX} (b : Nat) (qb : isL b) (a1 : Int32) (a2 : Int32) (a3 : Int32) (hf : p1_canPawn b a1 a2 a3 M = some (r, M')) : Met l yX1_canPawn (.code yX1_canPawn cX1_canPawn 4 (some .boolean) :: TBL) (rmX 1) (xPc G ZX M [.ref (G.2.1 b), .int a1, .int a2, .int a3]) (xQi G ZX r M') 0 0 (inA G ZX) := by
  refine x_met (cc := cX1_canPawn) (by decide) (Nat.le_of_ble_eq_true rfl) ?_
  intro p e s m below meth c ls F hr hk hl hw
  have F : Fx G ZX p m c cX1_canPawn 4 s [.ref (G.2.1 b), .int a1, .int a2, .int a3].toArray RX1 := F
  have hl : lv_has ls 4 [(0, .ref (G.2.1 b)), (1, .int a1), (2, .int a2), (3, .int a3)] := hl
  have hx := F.1.1
  have hb := F.1.2.1
  unfold p1_canPawn at hf
  refine lv_iload_n hx hb dX1_canPawn_0 rfl (lv_at hl 1 rfl) ?_
  refine lv_iload_n hx hb dX1_canPawn_1 rfl (lv_at hl 2 rfl) ?_
  refine lv_icmp_eq (tgt := 27) hx hb dX1_canPawn_2 (by decide) (fun c1 => ?_) (fun c1 => ?_)
  · have hf := it_t hf c1
    refine lv_iconst (v := 0) hx hb dX1_canPawn_27 (by decide) ?_
    exact x_zret F hw hr hk (by decide) hf dX1_canPawn_28
  · have hf := it_f hf c1
    refine lv_aload_n hx hb dX1_canPawn_5 rfl (lv_at hl 0 rfl) ?_
    refine lv_iload_n hx hb dX1_canPawn_6 rfl (lv_at hl 1 rfl) ?_
    obtain ⟨r4, M3, hc2, hf⟩ := bd_some hf
    refine x_aftI hw (x_runV (rest := []) F hw hl.1 vw_RX1_62 (sL qb) rfl (c1_isPawned b qb a1 hc2) rfl rfl (Nat.le_of_ble_eq_true rfl) ⟨Nat.le_of_ble_eq_true rfl, Nat.le_of_ble_eq_true rfl⟩ dX1_canPawn_7) (fun H locs hw => ?_)
    refine lv_if_ne (tgt := 27) hx hb dX1_canPawn_10 (by decide) (fun c5 => ?_) (fun c5 => ?_)
    · have hf := it_f hf c5
      refine lv_iconst (v := 0) hx hb dX1_canPawn_27 (by decide) ?_
      exact x_zret F hw hr hk (by decide) hf dX1_canPawn_28
    · have hf := it_t hf c5
      refine lv_aload_n hx hb dX1_canPawn_13 rfl (lv_at hl 0 rfl) ?_
      refine g1_2 qb F hw tw_47 dX1_canPawn_14 ?_
      refine lv_iload_n hx hb dX1_canPawn_17 rfl (lv_at hl 2 rfl) ?_
      obtain ⟨g6, hf⟩ := gd_some hf
      refine x_iald F hw (sL2 qb) g6 dX1_canPawn_18 ?_
      refine lv_iload_n hx hb dX1_canPawn_19 rfl (lv_at hl 3 rfl) ?_
      refine lv_icmp_lt (tgt := 27) hx hb dX1_canPawn_20 (by decide) (fun c7 => ?_) (fun c7 => ?_)
      · have hf := it_t hf c7
        refine lv_iconst (v := 0) hx hb dX1_canPawn_27 (by decide) ?_
        exact x_zret F hw hr hk (by decide) hf dX1_canPawn_28
      · have hf := it_f hf c7
        refine lv_iconst (v := 1) hx hb dX1_canPawn_23 (by decide) ?_
        refine lv_goto (tgt := 28) hx hb dX1_canPawn_24 (by decide) ?_
        exact x_zret F hw hr hk (by decide) hf dX1_canPawn_28
theorem dX1_ageTickets_0 : decode cX1_ageTickets 0 = .ok (.iconst 0, 1) := by decide +kernel
theorem dX1_ageTickets_1 : decode cX1_ageTickets 1 = .ok (.istore_n 2, 1) := by decide +kernel
theorem dX1_ageTickets_2 : decode cX1_ageTickets 2 = .ok (.iload_n 2, 1) := by decide +kernel
theorem dX1_ageTickets_3 : decode cX1_ageTickets 3 = .ok (.aload_n 0, 1) := by decide +kernel
theorem dX1_ageTickets_4 : decode cX1_ageTickets 4 = .ok (.getfield 9, 3) := by decide +kernel
theorem dX1_ageTickets_7 : decode cX1_ageTickets 7 = .ok (.if_icmp .ge 27, 3) := by decide +kernel
theorem dX1_ageTickets_10 : decode cX1_ageTickets 10 = .ok (.aload_n 0, 1) := by decide +kernel
theorem dX1_ageTickets_11 : decode cX1_ageTickets 11 = .ok (.iload_n 2, 1) := by decide +kernel
theorem dX1_ageTickets_12 : decode cX1_ageTickets 12 = .ok (.invokevirtual 62, 3) := by decide +kernel
theorem dX1_ageTickets_15 : decode cX1_ageTickets 15 = .ok (.ifCond .eq 13, 3) := by decide +kernel
theorem dX1_ageTickets_18 : decode cX1_ageTickets 18 = .ok (.aload_n 0, 1) := by decide +kernel
theorem dX1_ageTickets_19 : decode cX1_ageTickets 19 = .ok (.getfield 31, 3) := by decide +kernel
theorem dX1_ageTickets_22 : decode cX1_ageTickets 22 = .ok (.iload_n 2, 1) := by decide +kernel
theorem dX1_ageTickets_23 : decode cX1_ageTickets 23 = .ok (.dup2, 1) := by decide +kernel
theorem dX1_ageTickets_24 : decode cX1_ageTickets 24 = .ok (.iaload, 1) := by decide +kernel
theorem dX1_ageTickets_25 : decode cX1_ageTickets 25 = .ok (.iload_n 1, 1) := by decide +kernel
theorem dX1_ageTickets_26 : decode cX1_ageTickets 26 = .ok (.iadd, 1) := by decide +kernel
theorem dX1_ageTickets_27 : decode cX1_ageTickets 27 = .ok (.iastore, 1) := by decide +kernel
theorem dX1_ageTickets_28 : decode cX1_ageTickets 28 = .ok (.iinc 2 1, 3) := by decide +kernel
theorem dX1_ageTickets_31 : decode cX1_ageTickets 31 = .ok (.goto (-29), 3) := by decide +kernel
theorem dX1_ageTickets_34 : decode cX1_ageTickets 34 = .ok (.return_, 1) := by decide +kernel
def p1_ageTickets_28 (b : Nat) (k2 : Int32 → Int32 → SX → Option SX) (v1 : Int32) (v2 : Int32) (M : SX) : Option SX :=
  lt_ (v2 + 1) (fun x1 => k2 v1 x1 M)
set_option maxHeartbeats 4000000 in
set_option maxRecDepth 100000 in
theorem w1_ageTickets_28 {G : XG} {p : Program} {l : Launch} {e : Env} {s : State} {m : MethodId} {args : Array Value} {below : List Frame} {meth : Method} {c : Code} (F : Fx G ZX p m c cX1_ageTickets 3 s args RX1) (hr : meth.sig.returnType = none) (hk : meth.locks = false) {M' : SX} (b : Nat) (qb : isL b) (k2 : Int32 → Int32 → SX → Option SX) (hk2 : ∀ (v1 : Int32) (v2 : Int32) (M : SX) (H : Heap) (locs : List Loc) (ls : Array Slot), Wld G ZX M s.heap H locs → lv_has ls 3 [(0, .ref (G.2.1 b)), (1, .int v1), (2, .int v2)] → k2 v1 v2 M = some M' → WXv G ZX p l e 1 s m args below meth c M' H locs (F0 m 2 ls [])) : ∀ (v1 : Int32) (v2 : Int32) (M : SX) (H : Heap) (locs : List Loc) (ls : Array Slot), Wld G ZX M s.heap H locs → lv_has ls 3 [(0, .ref (G.2.1 b)), (1, .int v1), (2, .int v2)] → p1_ageTickets_28 b k2 v1 v2 M = some M' → WXv G ZX p l e 1 s m args below meth c M' H locs (F0 m 28 ls []) := by
  intro v1 v2 M H locs ls hw hl hf
  have hx := F.1.1
  have hb := F.1.2.1
  unfold p1_ageTickets_28 at hf
  obtain ⟨x1, ex1, hf⟩ := lt_elim hf
  refine lv_iinc (v := x1) (lv' := [(2, .int x1), (0, .ref (G.2.1 b)), (1, .int v1)]) hx hb dX1_ageTickets_28 hl (k := 2) rfl (by rw [ex1]; rfl) (by decide) rfl (fun ls hl => ?_)
  refine lv_goto (tgt := 2) hx hb dX1_ageTickets_31 (by decide) ?_
  exact hk2 v1 x1 M _ _ ls hw (lv_sub hl [1, 2, 0] rfl) hf
def p1_ageTickets_2 (b : Nat) (k2 : Int32 → Int32 → SX → Option SX) (v1 : Int32) (v2 : Int32) (M : SX) : Option SX :=
  if (M.1 b 0) ≤ v2 then (some M)
  else (bd (p1_isPawned b v2 M) (fun r4 M3 => if r4 = 0 then (p1_ageTickets_28 b k2 v1 v2 M3)
  else (gd (bIn v2 6) ( lt_ (wI M3 (b + 6) (Int32.toNatClampNeg v2) ((M3.1 (b + 6) (Int32.toNatClampNeg v2)) + v1)) (fun M7 => p1_ageTickets_28 b k2 v1 v2 M7)))))
set_option maxHeartbeats 4000000 in
set_option maxRecDepth 100000 in
theorem w1_ageTickets_2 {G : XG} {p : Program} {l : Launch} {e : Env} {s : State} {m : MethodId} {args : Array Value} {below : List Frame} {meth : Method} {c : Code} (F : Fx G ZX p m c cX1_ageTickets 3 s args RX1) (hr : meth.sig.returnType = none) (hk : meth.locks = false) {M' : SX} (b : Nat) (qb : isL b) (k2 : Int32 → Int32 → SX → Option SX) (hk2 : ∀ (v1 : Int32) (v2 : Int32) (M : SX) (H : Heap) (locs : List Loc) (ls : Array Slot), Wld G ZX M s.heap H locs → lv_has ls 3 [(0, .ref (G.2.1 b)), (1, .int v1), (2, .int v2)] → k2 v1 v2 M = some M' → WXv G ZX p l e 1 s m args below meth c M' H locs (F0 m 2 ls [])) : ∀ (v1 : Int32) (v2 : Int32) (M : SX) (H : Heap) (locs : List Loc) (ls : Array Slot), Wld G ZX M s.heap H locs → lv_has ls 3 [(0, .ref (G.2.1 b)), (1, .int v1), (2, .int v2)] → p1_ageTickets_2 b k2 v1 v2 M = some M' → WXv G ZX p l e 1 s m args below meth c M' H locs (F0 m 2 ls []) := by
  intro v1 v2 M H locs ls hw hl hf
  have hx := F.1.1
  have hb := F.1.2.1
  unfold p1_ageTickets_2 at hf
  refine lv_iload_n hx hb dX1_ageTickets_2 rfl (lv_at hl 2 rfl) ?_
  refine lv_aload_n hx hb dX1_ageTickets_3 rfl (lv_at hl 0 rfl) ?_
  refine g1_0 qb F hw tw_41 dX1_ageTickets_4 ?_
  refine lv_icmp_ge (tgt := 34) hx hb dX1_ageTickets_7 (by decide) (fun c1 => ?_) (fun c1 => ?_)
  · have hf := it_t hf c1
    exact x_vret F hw hr hk hf dX1_ageTickets_34
  · have hf := it_f hf c1
    refine lv_aload_n hx hb dX1_ageTickets_10 rfl (lv_at hl 0 rfl) ?_
    refine lv_iload_n hx hb dX1_ageTickets_11 rfl (lv_at hl 2 rfl) ?_
    obtain ⟨r4, M3, hc2, hf⟩ := bd_some hf
    refine x_aftI hw (x_runV (rest := []) F hw hl.1 vw_RX1_62 (sL qb) rfl (c1_isPawned b qb v2 hc2) rfl rfl (Nat.le_of_ble_eq_true rfl) ⟨Nat.le_of_ble_eq_true rfl, Nat.le_of_ble_eq_true rfl⟩ dX1_ageTickets_12) (fun H locs hw => ?_)
    refine lv_if_eq (tgt := 28) hx hb dX1_ageTickets_15 (by decide) (fun c5 => ?_) (fun c5 => ?_)
    · have hf := it_t hf c5
      exact w1_ageTickets_28 F hr hk b qb k2 hk2 v1 v2 M3 _ _ ls hw (lv_sub hl [0, 1, 2] rfl) hf
    · have hf := it_f hf c5
      refine lv_aload_n hx hb dX1_ageTickets_18 rfl (lv_at hl 0 rfl) ?_
      refine g1_6 qb F hw tw_46 dX1_ageTickets_19 ?_
      refine lv_iload_n hx hb dX1_ageTickets_22 rfl (lv_at hl 2 rfl) ?_
      refine lv_dup2_11 hx hb dX1_ageTickets_23 rfl rfl ?_
      obtain ⟨g6, hf⟩ := gd_some hf
      refine x_iald F hw (sL6 qb) g6 dX1_ageTickets_24 ?_
      refine lv_iload_n hx hb dX1_ageTickets_25 rfl (lv_at hl 1 rfl) ?_
      refine lv_iadd hx hb dX1_ageTickets_26 ?_
      refine x_iast F hw (sL6 qb) g6 dX1_ageTickets_27 (fun H locs hw => ?_)
      obtain ⟨M7, eM7, hf⟩ := lt_elim hf
      rw [← eM7] at hw
      exact w1_ageTickets_28 F hr hk b qb k2 hk2 v1 v2 M7 _ _ ls hw (lv_sub hl [0, 1, 2] rfl) hf
theorem z1_ageTickets_2 {G : XG} {p : Program} {l : Launch} {e : Env} {s : State} {m : MethodId} {args : Array Value} {below : List Frame} {meth : Method} {c : Code} (F : Fx G ZX p m c cX1_ageTickets 3 s args RX1) (hr : meth.sig.returnType = none) (hk : meth.locks = false) {M' : SX} (b : Nat) (qb : isL b) : ∀ n : Nat, ∀ (v1 : Int32) (v2 : Int32) (M : SX) (H : Heap) (locs : List Loc) (ls : Array Slot), Wld G ZX M s.heap H locs → lv_has ls 3 [(0, .ref (G.2.1 b)), (1, .int v1), (2, .int v2)] → xlp2 (p1_ageTickets_2 b) n v1 v2 M = some M' → WXv G ZX p l e 1 s m args below meth c M' H locs (F0 m 2 ls []) := by
  intro n
  induction n with
  | zero => intro _ _ _ _ _ _ _ _ hf; cases hf
  | succ n ih => exact w1_ageTickets_2 F hr hk b qb (xlp2 (p1_ageTickets_2 b) n) ih
def p1_ageTickets (b : Nat) (a1 : Int32) (M : SX) : Option SX :=
  xlp2 (p1_ageTickets_2 b) FU a1 0 M
set_option maxHeartbeats 4000000 in
set_option maxRecDepth 100000 in
theorem c1_ageTickets {l : Launch} {G : XG} {M' : SX} {M : SX} (b : Nat) (qb : isL b) (a1 : Int32) (hf : p1_ageTickets b a1 M = some M') : Met l yX1_ageTickets (.code yX1_ageTickets cX1_ageTickets 3 none :: TBL) (rmX 1) (xPc G ZX M [.ref (G.2.1 b), .int a1]) (xQv G ZX M') 0 0 (inA G ZX) := by
  refine x_met (cc := cX1_ageTickets) (by decide) (Nat.le_of_ble_eq_true rfl) ?_
  intro p e s m below meth c ls F hr hk hl hw
  have F : Fx G ZX p m c cX1_ageTickets 3 s [.ref (G.2.1 b), .int a1].toArray RX1 := F
  have hl : lv_has ls 3 [(0, .ref (G.2.1 b)), (1, .int a1)] := hl
  have hx := F.1.1
  have hb := F.1.2.1
  unfold p1_ageTickets at hf
  refine lv_iconst (v := 0) hx hb dX1_ageTickets_0 (by decide) ?_
  refine lv_istore_n (lv' := [(2, .int 0), (0, .ref (G.2.1 b)), (1, .int a1)]) hx hb dX1_ageTickets_1 rfl hl (by decide) rfl (fun ls hl => ?_)
  exact z1_ageTickets_2 F hr hk b qb FU a1 0 M _ _ ls hw (lv_sub hl [1, 2, 0] rfl) hf
theorem dX1_becomeLike_0 : decode cX1_becomeLike 0 = .ok (.aload_n 0, 1) := by decide +kernel
theorem dX1_becomeLike_1 : decode cX1_becomeLike 1 = .ok (.aload_n 1, 1) := by decide +kernel
theorem dX1_becomeLike_2 : decode cX1_becomeLike 2 = .ok (.getfield 9, 3) := by decide +kernel
theorem dX1_becomeLike_5 : decode cX1_becomeLike 5 = .ok (.putfield 9, 3) := by decide +kernel
theorem dX1_becomeLike_8 : decode cX1_becomeLike 8 = .ok (.aload_n 1, 1) := by decide +kernel
theorem dX1_becomeLike_9 : decode cX1_becomeLike 9 = .ok (.getfield 15, 3) := by decide +kernel
theorem dX1_becomeLike_12 : decode cX1_becomeLike 12 = .ok (.iconst 0, 1) := by decide +kernel
theorem dX1_becomeLike_13 : decode cX1_becomeLike 13 = .ok (.aload_n 0, 1) := by decide +kernel
theorem dX1_becomeLike_14 : decode cX1_becomeLike 14 = .ok (.getfield 15, 3) := by decide +kernel
theorem dX1_becomeLike_17 : decode cX1_becomeLike 17 = .ok (.iconst 0, 1) := by decide +kernel
theorem dX1_becomeLike_18 : decode cX1_becomeLike 18 = .ok (.bipush 6, 2) := by decide +kernel
theorem dX1_becomeLike_20 : decode cX1_becomeLike 20 = .ok (.invokestatic 44, 3) := by decide +kernel
theorem dX1_becomeLike_23 : decode cX1_becomeLike 23 = .ok (.aload_n 1, 1) := by decide +kernel
theorem dX1_becomeLike_24 : decode cX1_becomeLike 24 = .ok (.getfield 19, 3) := by decide +kernel
theorem dX1_becomeLike_27 : decode cX1_becomeLike 27 = .ok (.iconst 0, 1) := by decide +kernel
theorem dX1_becomeLike_28 : decode cX1_becomeLike 28 = .ok (.aload_n 0, 1) := by decide +kernel
theorem dX1_becomeLike_29 : decode cX1_becomeLike 29 = .ok (.getfield 19, 3) := by decide +kernel
theorem dX1_becomeLike_32 : decode cX1_becomeLike 32 = .ok (.iconst 0, 1) := by decide +kernel
theorem dX1_becomeLike_33 : decode cX1_becomeLike 33 = .ok (.bipush 6, 2) := by decide +kernel
theorem dX1_becomeLike_35 : decode cX1_becomeLike 35 = .ok (.invokestatic 44, 3) := by decide +kernel
theorem dX1_becomeLike_38 : decode cX1_becomeLike 38 = .ok (.aload_n 1, 1) := by decide +kernel
theorem dX1_becomeLike_39 : decode cX1_becomeLike 39 = .ok (.getfield 22, 3) := by decide +kernel
theorem dX1_becomeLike_42 : decode cX1_becomeLike 42 = .ok (.iconst 0, 1) := by decide +kernel
theorem dX1_becomeLike_43 : decode cX1_becomeLike 43 = .ok (.aload_n 0, 1) := by decide +kernel
theorem dX1_becomeLike_44 : decode cX1_becomeLike 44 = .ok (.getfield 22, 3) := by decide +kernel
theorem dX1_becomeLike_47 : decode cX1_becomeLike 47 = .ok (.iconst 0, 1) := by decide +kernel
theorem dX1_becomeLike_48 : decode cX1_becomeLike 48 = .ok (.bipush 6, 2) := by decide +kernel
theorem dX1_becomeLike_50 : decode cX1_becomeLike 50 = .ok (.invokestatic 44, 3) := by decide +kernel
theorem dX1_becomeLike_53 : decode cX1_becomeLike 53 = .ok (.aload_n 1, 1) := by decide +kernel
theorem dX1_becomeLike_54 : decode cX1_becomeLike 54 = .ok (.getfield 25, 3) := by decide +kernel
theorem dX1_becomeLike_57 : decode cX1_becomeLike 57 = .ok (.iconst 0, 1) := by decide +kernel
theorem dX1_becomeLike_58 : decode cX1_becomeLike 58 = .ok (.aload_n 0, 1) := by decide +kernel
theorem dX1_becomeLike_59 : decode cX1_becomeLike 59 = .ok (.getfield 25, 3) := by decide +kernel
theorem dX1_becomeLike_62 : decode cX1_becomeLike 62 = .ok (.iconst 0, 1) := by decide +kernel
theorem dX1_becomeLike_63 : decode cX1_becomeLike 63 = .ok (.bipush 6, 2) := by decide +kernel
theorem dX1_becomeLike_65 : decode cX1_becomeLike 65 = .ok (.invokestatic 44, 3) := by decide +kernel
theorem dX1_becomeLike_68 : decode cX1_becomeLike 68 = .ok (.aload_n 1, 1) := by decide +kernel
theorem dX1_becomeLike_69 : decode cX1_becomeLike 69 = .ok (.getfield 28, 3) := by decide +kernel
theorem dX1_becomeLike_72 : decode cX1_becomeLike 72 = .ok (.iconst 0, 1) := by decide +kernel
theorem dX1_becomeLike_73 : decode cX1_becomeLike 73 = .ok (.aload_n 0, 1) := by decide +kernel
theorem dX1_becomeLike_74 : decode cX1_becomeLike 74 = .ok (.getfield 28, 3) := by decide +kernel
theorem dX1_becomeLike_77 : decode cX1_becomeLike 77 = .ok (.iconst 0, 1) := by decide +kernel
theorem dX1_becomeLike_78 : decode cX1_becomeLike 78 = .ok (.bipush 6, 2) := by decide +kernel
theorem dX1_becomeLike_80 : decode cX1_becomeLike 80 = .ok (.invokestatic 44, 3) := by decide +kernel
theorem dX1_becomeLike_83 : decode cX1_becomeLike 83 = .ok (.aload_n 1, 1) := by decide +kernel
theorem dX1_becomeLike_84 : decode cX1_becomeLike 84 = .ok (.getfield 31, 3) := by decide +kernel
theorem dX1_becomeLike_87 : decode cX1_becomeLike 87 = .ok (.iconst 0, 1) := by decide +kernel
theorem dX1_becomeLike_88 : decode cX1_becomeLike 88 = .ok (.aload_n 0, 1) := by decide +kernel
theorem dX1_becomeLike_89 : decode cX1_becomeLike 89 = .ok (.getfield 31, 3) := by decide +kernel
theorem dX1_becomeLike_92 : decode cX1_becomeLike 92 = .ok (.iconst 0, 1) := by decide +kernel
theorem dX1_becomeLike_93 : decode cX1_becomeLike 93 = .ok (.bipush 6, 2) := by decide +kernel
theorem dX1_becomeLike_95 : decode cX1_becomeLike 95 = .ok (.invokestatic 44, 3) := by decide +kernel
theorem dX1_becomeLike_98 : decode cX1_becomeLike 98 = .ok (.aload_n 0, 1) := by decide +kernel
theorem dX1_becomeLike_99 : decode cX1_becomeLike 99 = .ok (.getfield 37, 3) := by decide +kernel
theorem dX1_becomeLike_102 : decode cX1_becomeLike 102 = .ok (.aload_n 1, 1) := by decide +kernel
theorem dX1_becomeLike_103 : decode cX1_becomeLike 103 = .ok (.getfield 37, 3) := by decide +kernel
theorem dX1_becomeLike_106 : decode cX1_becomeLike 106 = .ok (.invokevirtual 50, 3) := by decide +kernel
theorem dX1_becomeLike_109 : decode cX1_becomeLike 109 = .ok (.return_, 1) := by decide +kernel
def p1_becomeLike (b : Nat) (b2 : Nat) (M : SX) : Option SX :=
  lt_ (wI M b 0 (M.1 b2 0)) (fun M1 => gd (cpOk 0 0 6 6 6) ( lt_ (wR M1 (b + 1) (va_cpy (M1.1 (b2 + 1)) (M1.1 (b + 1)) (Int32.toNatClampNeg 0) (Int32.toNatClampNeg 0) (Int32.toNatClampNeg 6))) (fun M3 => lt_ (wR M3 (b + 2) (va_cpy (M3.1 (b2 + 2)) (M3.1 (b + 2)) (Int32.toNatClampNeg 0) (Int32.toNatClampNeg 0) (Int32.toNatClampNeg 6))) (fun M4 => lt_ (wR M4 (b + 3) (va_cpy (M4.1 (b2 + 3)) (M4.1 (b + 3)) (Int32.toNatClampNeg 0) (Int32.toNatClampNeg 0) (Int32.toNatClampNeg 6))) (fun M5 => lt_ (wR M5 (b + 4) (va_cpy (M5.1 (b2 + 4)) (M5.1 (b + 4)) (Int32.toNatClampNeg 0) (Int32.toNatClampNeg 0) (Int32.toNatClampNeg 6))) (fun M6 => lt_ (wR M6 (b + 5) (va_cpy (M6.1 (b2 + 5)) (M6.1 (b + 5)) (Int32.toNatClampNeg 0) (Int32.toNatClampNeg 0) (Int32.toNatClampNeg 6))) (fun M7 => lt_ (wR M7 (b + 6) (va_cpy (M7.1 (b2 + 6)) (M7.1 (b + 6)) (Int32.toNatClampNeg 0) (Int32.toNatClampNeg 0) (Int32.toNatClampNeg 6))) (fun M8 => bv (p0_becomeLike (b + 7) (b2 + 7) M8) (fun M10 => some M10)))))))))
set_option maxHeartbeats 4000000 in
set_option maxRecDepth 100000 in
theorem c1_becomeLike {l : Launch} {G : XG} {M' : SX} {M : SX} (b : Nat) (qb : isL b) (b2 : Nat) (qb2 : isL b2) (hf : p1_becomeLike b b2 M = some M') : Met l yX1_becomeLike (.code yX1_becomeLike cX1_becomeLike 2 none :: TBL) (rmX 2) (xPc G ZX M [.ref (G.2.1 b), .ref (G.2.1 b2)]) (xQv G ZX M') 0 0 (inA G ZX) := by
  refine x_met (cc := cX1_becomeLike) (by decide) (Nat.le_of_ble_eq_true rfl) ?_
  intro p e s m below meth c ls F hr hk hl hw
  have F : Fx G ZX p m c cX1_becomeLike 2 s [.ref (G.2.1 b), .ref (G.2.1 b2)].toArray RX1 := F
  have hl : lv_has ls 2 [(0, .ref (G.2.1 b)), (1, .ref (G.2.1 b2))] := hl
  have hx := F.1.1
  have hb := F.1.2.1
  unfold p1_becomeLike at hf
  refine lv_aload_n hx hb dX1_becomeLike_0 rfl (lv_at hl 0 rfl) ?_
  refine lv_aload_n hx hb dX1_becomeLike_1 rfl (lv_at hl 1 rfl) ?_
  refine g1_0 qb2 F hw tw_41 dX1_becomeLike_2 ?_
  refine s1_0 qb F hw tw_41 dX1_becomeLike_5 (fun H locs hw => ?_)
  obtain ⟨M1, eM1, hf⟩ := lt_elim hf
  rw [← eM1] at hw
  refine lv_aload_n hx hb dX1_becomeLike_8 rfl (lv_at hl 1 rfl) ?_
  refine g1_1 qb2 F hw tw_64 dX1_becomeLike_9 ?_
  refine lv_iconst (v := 0) hx hb dX1_becomeLike_12 (by decide) ?_
  refine lv_aload_n hx hb dX1_becomeLike_13 rfl (lv_at hl 0 rfl) ?_
  refine g1_1 qb F hw tw_64 dX1_becomeLike_14 ?_
  refine lv_iconst (v := 0) hx hb dX1_becomeLike_17 (by decide) ?_
  refine lv_bipush (v := 6) hx hb dX1_becomeLike_18 (by decide) ?_
  obtain ⟨g2, hf⟩ := gd_some hf
  refine x_copy F hw hl.1 (sL1 qb2) (sL1 qb) g2 tw_69 tw_17 tw_18 tw_19 (Nat.le_of_ble_eq_true rfl) (Nat.le_of_ble_eq_true rfl) dX1_becomeLike_20 (fun H locs hw => ?_)
  obtain ⟨M3, eM3, hf⟩ := lt_elim hf
  rw [← eM3] at hw
  refine lv_aload_n hx hb dX1_becomeLike_23 rfl (lv_at hl 1 rfl) ?_
  refine g1_2 qb2 F hw tw_47 dX1_becomeLike_24 ?_
  refine lv_iconst (v := 0) hx hb dX1_becomeLike_27 (by decide) ?_
  refine lv_aload_n hx hb dX1_becomeLike_28 rfl (lv_at hl 0 rfl) ?_
  refine g1_2 qb F hw tw_47 dX1_becomeLike_29 ?_
  refine lv_iconst (v := 0) hx hb dX1_becomeLike_32 (by decide) ?_
  refine lv_bipush (v := 6) hx hb dX1_becomeLike_33 (by decide) ?_
  refine x_copy F hw hl.1 (sL2 qb2) (sL2 qb) g2 tw_69 tw_17 tw_18 tw_19 (Nat.le_of_ble_eq_true rfl) (Nat.le_of_ble_eq_true rfl) dX1_becomeLike_35 (fun H locs hw => ?_)
  obtain ⟨M4, eM4, hf⟩ := lt_elim hf
  rw [← eM4] at hw
  refine lv_aload_n hx hb dX1_becomeLike_38 rfl (lv_at hl 1 rfl) ?_
  refine g1_3 qb2 F hw tw_63 dX1_becomeLike_39 ?_
  refine lv_iconst (v := 0) hx hb dX1_becomeLike_42 (by decide) ?_
  refine lv_aload_n hx hb dX1_becomeLike_43 rfl (lv_at hl 0 rfl) ?_
  refine g1_3 qb F hw tw_63 dX1_becomeLike_44 ?_
  refine lv_iconst (v := 0) hx hb dX1_becomeLike_47 (by decide) ?_
  refine lv_bipush (v := 6) hx hb dX1_becomeLike_48 (by decide) ?_
  refine x_copy F hw hl.1 (sL3 qb2) (sL3 qb) g2 tw_69 tw_17 tw_18 tw_19 (Nat.le_of_ble_eq_true rfl) (Nat.le_of_ble_eq_true rfl) dX1_becomeLike_50 (fun H locs hw => ?_)
  obtain ⟨M5, eM5, hf⟩ := lt_elim hf
  rw [← eM5] at hw
  refine lv_aload_n hx hb dX1_becomeLike_53 rfl (lv_at hl 1 rfl) ?_
  refine g1_4 qb2 F hw tw_44 dX1_becomeLike_54 ?_
  refine lv_iconst (v := 0) hx hb dX1_becomeLike_57 (by decide) ?_
  refine lv_aload_n hx hb dX1_becomeLike_58 rfl (lv_at hl 0 rfl) ?_
  refine g1_4 qb F hw tw_44 dX1_becomeLike_59 ?_
  refine lv_iconst (v := 0) hx hb dX1_becomeLike_62 (by decide) ?_
  refine lv_bipush (v := 6) hx hb dX1_becomeLike_63 (by decide) ?_
  refine x_copy F hw hl.1 (sL4 qb2) (sL4 qb) g2 tw_69 tw_17 tw_18 tw_19 (Nat.le_of_ble_eq_true rfl) (Nat.le_of_ble_eq_true rfl) dX1_becomeLike_65 (fun H locs hw => ?_)
  obtain ⟨M6, eM6, hf⟩ := lt_elim hf
  rw [← eM6] at hw
  refine lv_aload_n hx hb dX1_becomeLike_68 rfl (lv_at hl 1 rfl) ?_
  refine g1_5 qb2 F hw tw_45 dX1_becomeLike_69 ?_
  refine lv_iconst (v := 0) hx hb dX1_becomeLike_72 (by decide) ?_
  refine lv_aload_n hx hb dX1_becomeLike_73 rfl (lv_at hl 0 rfl) ?_
  refine g1_5 qb F hw tw_45 dX1_becomeLike_74 ?_
  refine lv_iconst (v := 0) hx hb dX1_becomeLike_77 (by decide) ?_
  refine lv_bipush (v := 6) hx hb dX1_becomeLike_78 (by decide) ?_
  refine x_copy F hw hl.1 (sL5 qb2) (sL5 qb) g2 tw_69 tw_17 tw_18 tw_19 (Nat.le_of_ble_eq_true rfl) (Nat.le_of_ble_eq_true rfl) dX1_becomeLike_80 (fun H locs hw => ?_)
  obtain ⟨M7, eM7, hf⟩ := lt_elim hf
  rw [← eM7] at hw
  refine lv_aload_n hx hb dX1_becomeLike_83 rfl (lv_at hl 1 rfl) ?_
  refine g1_6 qb2 F hw tw_46 dX1_becomeLike_84 ?_
  refine lv_iconst (v := 0) hx hb dX1_becomeLike_87 (by decide) ?_
  refine lv_aload_n hx hb dX1_becomeLike_88 rfl (lv_at hl 0 rfl) ?_
  refine g1_6 qb F hw tw_46 dX1_becomeLike_89 ?_
  refine lv_iconst (v := 0) hx hb dX1_becomeLike_92 (by decide) ?_
  refine lv_bipush (v := 6) hx hb dX1_becomeLike_93 (by decide) ?_
  refine x_copy F hw hl.1 (sL6 qb2) (sL6 qb) g2 tw_69 tw_17 tw_18 tw_19 (Nat.le_of_ble_eq_true rfl) (Nat.le_of_ble_eq_true rfl) dX1_becomeLike_95 (fun H locs hw => ?_)
  obtain ⟨M8, eM8, hf⟩ := lt_elim hf
  rw [← eM8] at hw
  refine lv_aload_n hx hb dX1_becomeLike_98 rfl (lv_at hl 0 rfl) ?_
  refine g1_7 qb F hw tw_42 dX1_becomeLike_99 ?_
  refine lv_aload_n hx hb dX1_becomeLike_102 rfl (lv_at hl 1 rfl) ?_
  refine g1_7 qb2 F hw tw_42 dX1_becomeLike_103 ?_
  obtain ⟨M10, hc9, hf⟩ := bv_some hf
  refine x_aftV hw (x_runV (rest := []) F hw hl.1 vw_RX1_50 (sD (isD_of qb)) rfl (c0_becomeLike (b + 7) (isD_of qb) (b2 + 7) (isD_of qb2) hc9) rfl rfl (Nat.le_of_ble_eq_true rfl) ⟨Nat.le_of_ble_eq_true rfl, Nat.le_of_ble_eq_true rfl⟩ dX1_becomeLike_106) (fun H locs hw => ?_)
  exact x_vret F hw hr hk hf dX1_becomeLike_109
