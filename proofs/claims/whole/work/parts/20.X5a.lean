theorem dX5_asked_0 : decode cX5_asked 0 = .ok (.aload_n 0, 1) := by decide +kernel
theorem dX5_asked_1 : decode cX5_asked 1 = .ok (.getfield 54, 3) := by decide +kernel
theorem dX5_asked_4 : decode cX5_asked 4 = .ok (.ireturn, 1) := by decide +kernel
def p5_asked (M : SX) : Option (Int32 × SX) :=
  some (M.1 0 8, M)
set_option maxHeartbeats 4000000 in
set_option maxRecDepth 100000 in
theorem c5_asked {l : Launch} {G : XG} {r : Int32} {M' : SX} {M : SX} (hf : p5_asked M = some (r, M')) : Met l yX5_asked (.code yX5_asked cX5_asked 1 (some .int) :: TBL) (rmX 0) (xPc G ZX M [.ref (G.2.1 0)]) (xQi G ZX r M') 0 0 (inA G ZX) := by
  refine x_met (cc := cX5_asked) (by decide) (Nat.le_of_ble_eq_true rfl) ?_
  intro p e s m below meth c ls F hr hk hl hw
  have F : Fx G ZX p m c cX5_asked 1 s [.ref (G.2.1 0)].toArray RX5 := F
  have hl : lv_has ls 1 [(0, .ref (G.2.1 0))] := hl
  have hx := F.1.1
  have hb := F.1.2.1
  unfold p5_asked at hf
  refine lv_aload_n hx hb dX5_asked_0 rfl (lv_at hl 0 rfl) ?_
  refine g5_8 F hw tw_299 dX5_asked_1 ?_
  exact x_iret F hw hr hk hf dX5_asked_4
theorem dX5_upper_0 : decode cX5_upper 0 = .ok (.aload_n 0, 1) := by decide +kernel
theorem dX5_upper_1 : decode cX5_upper 1 = .ok (.getfield 57, 3) := by decide +kernel
theorem dX5_upper_4 : decode cX5_upper 4 = .ok (.lreturn, 1) := by decide +kernel
def p5_upper (M : SX) : Option (Int64 × SX) :=
  some (M.2 0 9, M)
set_option maxHeartbeats 4000000 in
set_option maxRecDepth 100000 in
theorem c5_upper {l : Launch} {G : XG} {r : Int64} {M' : SX} {M : SX} (hf : p5_upper M = some (r, M')) : Met l yX5_upper (.code yX5_upper cX5_upper 1 (some .long) :: TBL) (rmX 0) (xPc G ZX M [.ref (G.2.1 0)]) (xQl G ZX r M') 0 0 (inA G ZX) := by
  refine x_met (cc := cX5_upper) (by decide) (Nat.le_of_ble_eq_true rfl) ?_
  intro p e s m below meth c ls F hr hk hl hw
  have F : Fx G ZX p m c cX5_upper 1 s [.ref (G.2.1 0)].toArray RX5 := F
  have hl : lv_has ls 1 [(0, .ref (G.2.1 0))] := hl
  have hx := F.1.1
  have hb := F.1.2.1
  unfold p5_upper at hf
  refine lv_aload_n hx hb dX5_upper_0 rfl (lv_at hl 0 rfl) ?_
  refine g5_9 F hw tw_300 dX5_upper_1 ?_
  exact x_lret F hw hr hk hf dX5_upper_4
theorem dX5_lower_0 : decode cX5_lower 0 = .ok (.aload_n 0, 1) := by decide +kernel
theorem dX5_lower_1 : decode cX5_lower 1 = .ok (.getfield 61, 3) := by decide +kernel
theorem dX5_lower_4 : decode cX5_lower 4 = .ok (.lreturn, 1) := by decide +kernel
def p5_lower (M : SX) : Option (Int64 × SX) :=
  some (M.2 0 10, M)
set_option maxHeartbeats 4000000 in
set_option maxRecDepth 100000 in
theorem c5_lower {l : Launch} {G : XG} {r : Int64} {M' : SX} {M : SX} (hf : p5_lower M = some (r, M')) : Met l yX5_lower (.code yX5_lower cX5_lower 1 (some .long) :: TBL) (rmX 0) (xPc G ZX M [.ref (G.2.1 0)]) (xQl G ZX r M') 0 0 (inA G ZX) := by
  refine x_met (cc := cX5_lower) (by decide) (Nat.le_of_ble_eq_true rfl) ?_
  intro p e s m below meth c ls F hr hk hl hw
  have F : Fx G ZX p m c cX5_lower 1 s [.ref (G.2.1 0)].toArray RX5 := F
  have hl : lv_has ls 1 [(0, .ref (G.2.1 0))] := hl
  have hx := F.1.1
  have hb := F.1.2.1
  unfold p5_lower at hf
  refine lv_aload_n hx hb dX5_lower_0 rfl (lv_at hl 0 rfl) ?_
  refine g5_10 F hw tw_301 dX5_lower_1 ?_
  exact x_lret F hw hr hk hf dX5_lower_4
theorem dX5_finding_0 : decode cX5_finding 0 = .ok (.aload_n 0, 1) := by decide +kernel
theorem dX5_finding_1 : decode cX5_finding 1 = .ok (.getfield 50, 3) := by decide +kernel
theorem dX5_finding_4 : decode cX5_finding 4 = .ok (.ireturn, 1) := by decide +kernel
def p5_finding (M : SX) : Option (Int32 × SX) :=
  some (M.1 0 7, M)
set_option maxHeartbeats 4000000 in
set_option maxRecDepth 100000 in
theorem c5_finding {l : Launch} {G : XG} {r : Int32} {M' : SX} {M : SX} (hf : p5_finding M = some (r, M')) : Met l yX5_finding (.code yX5_finding cX5_finding 1 (some .int) :: TBL) (rmX 0) (xPc G ZX M [.ref (G.2.1 0)]) (xQi G ZX r M') 0 0 (inA G ZX) := by
  refine x_met (cc := cX5_finding) (by decide) (Nat.le_of_ble_eq_true rfl) ?_
  intro p e s m below meth c ls F hr hk hl hw
  have F : Fx G ZX p m c cX5_finding 1 s [.ref (G.2.1 0)].toArray RX5 := F
  have hl : lv_has ls 1 [(0, .ref (G.2.1 0))] := hl
  have hx := F.1.1
  have hb := F.1.2.1
  unfold p5_finding at hf
  refine lv_aload_n hx hb dX5_finding_0 rfl (lv_at hl 0 rfl) ?_
  refine g5_7 F hw tw_302 dX5_finding_1 ?_
  exact x_iret F hw hr hk hf dX5_finding_4
theorem dX5_findings_0 : decode cX5_findings 0 = .ok (.iload_n 1, 1) := by decide +kernel
theorem dX5_findings_1 : decode cX5_findings 1 = .ok (.iconst 1, 1) := by decide +kernel
theorem dX5_findings_2 : decode cX5_findings 2 = .ok (.if_icmp .lt 17, 3) := by decide +kernel
theorem dX5_findings_5 : decode cX5_findings 5 = .ok (.iload_n 1, 1) := by decide +kernel
theorem dX5_findings_6 : decode cX5_findings 6 = .ok (.iconst 5, 1) := by decide +kernel
theorem dX5_findings_7 : decode cX5_findings 7 = .ok (.if_icmp .gt 12, 3) := by decide +kernel
theorem dX5_findings_10 : decode cX5_findings 10 = .ok (.aload_n 0, 1) := by decide +kernel
theorem dX5_findings_11 : decode cX5_findings 11 = .ok (.getfield 46, 3) := by decide +kernel
theorem dX5_findings_14 : decode cX5_findings 14 = .ok (.iload_n 1, 1) := by decide +kernel
theorem dX5_findings_15 : decode cX5_findings 15 = .ok (.iaload, 1) := by decide +kernel
theorem dX5_findings_16 : decode cX5_findings 16 = .ok (.goto 4, 3) := by decide +kernel
theorem dX5_findings_19 : decode cX5_findings 19 = .ok (.iconst (-1), 1) := by decide +kernel
theorem dX5_findings_20 : decode cX5_findings 20 = .ok (.ireturn, 1) := by decide +kernel
def p5_findings (a1 : Int32) (M : SX) : Option (Int32 × SX) :=
  if a1 < (1 : Int32) then (some ((-1), M))
  else (if (5 : Int32) < a1 then (some ((-1), M))
  else (gd (bIn a1 6) ( some (M.1 59 (Int32.toNatClampNeg a1), M))))
set_option maxHeartbeats 4000000 in
set_option maxRecDepth 100000 in
theorem c5_findings {l : Launch} {G : XG} {r : Int32} {M' : SX} {M : SX} (a1 : Int32) (hf : p5_findings a1 M = some (r, M')) : Met l yX5_findings (.code yX5_findings cX5_findings 2 (some .int) :: TBL) (rmX 0) (xPc G ZX M [.ref (G.2.1 0), .int a1]) (xQi G ZX r M') 0 0 (inA G ZX) := by
  refine x_met (cc := cX5_findings) (by decide) (Nat.le_of_ble_eq_true rfl) ?_
  intro p e s m below meth c ls F hr hk hl hw
  have F : Fx G ZX p m c cX5_findings 2 s [.ref (G.2.1 0), .int a1].toArray RX5 := F
  have hl : lv_has ls 2 [(0, .ref (G.2.1 0)), (1, .int a1)] := hl
  have hx := F.1.1
  have hb := F.1.2.1
  unfold p5_findings at hf
  refine lv_iload_n hx hb dX5_findings_0 rfl (lv_at hl 1 rfl) ?_
  refine lv_iconst (v := 1) hx hb dX5_findings_1 (by decide) ?_
  refine lv_icmp_lt (tgt := 19) hx hb dX5_findings_2 (by decide) (fun c1 => ?_) (fun c1 => ?_)
  · have hf := it_t hf c1
    refine lv_iconst (v := (-1)) hx hb dX5_findings_19 (by decide) ?_
    exact x_iret F hw hr hk hf dX5_findings_20
  · have hf := it_f hf c1
    refine lv_iload_n hx hb dX5_findings_5 rfl (lv_at hl 1 rfl) ?_
    refine lv_iconst (v := 5) hx hb dX5_findings_6 (by decide) ?_
    refine lv_icmp_gt (tgt := 19) hx hb dX5_findings_7 (by decide) (fun c2 => ?_) (fun c2 => ?_)
    · have hf := it_t hf c2
      refine lv_iconst (v := (-1)) hx hb dX5_findings_19 (by decide) ?_
      exact x_iret F hw hr hk hf dX5_findings_20
    · have hf := it_f hf c2
      refine lv_aload_n hx hb dX5_findings_10 rfl (lv_at hl 0 rfl) ?_
      refine g5_6 F hw tw_303 dX5_findings_11 ?_
      refine lv_iload_n hx hb dX5_findings_14 rfl (lv_at hl 1 rfl) ?_
      obtain ⟨g3, hf⟩ := gd_some hf
      refine x_iald F hw sP59 g3 dX5_findings_15 ?_
      refine lv_goto (tgt := 20) hx hb dX5_findings_16 (by decide) ?_
      exact x_iret F hw hr hk hf dX5_findings_20
theorem dX5_found_0 : decode cX5_found 0 = .ok (.aload_n 0, 1) := by decide +kernel
theorem dX5_found_1 : decode cX5_found 1 = .ok (.iload_n 1, 1) := by decide +kernel
theorem dX5_found_2 : decode cX5_found 2 = .ok (.putfield 50, 3) := by decide +kernel
theorem dX5_found_5 : decode cX5_found 5 = .ok (.aload_n 0, 1) := by decide +kernel
theorem dX5_found_6 : decode cX5_found 6 = .ok (.getfield 46, 3) := by decide +kernel
theorem dX5_found_9 : decode cX5_found 9 = .ok (.iload_n 1, 1) := by decide +kernel
theorem dX5_found_10 : decode cX5_found 10 = .ok (.dup2, 1) := by decide +kernel
theorem dX5_found_11 : decode cX5_found 11 = .ok (.iaload, 1) := by decide +kernel
theorem dX5_found_12 : decode cX5_found 12 = .ok (.iconst 1, 1) := by decide +kernel
theorem dX5_found_13 : decode cX5_found 13 = .ok (.iadd, 1) := by decide +kernel
theorem dX5_found_14 : decode cX5_found 14 = .ok (.iastore, 1) := by decide +kernel
theorem dX5_found_15 : decode cX5_found 15 = .ok (.bipush (-3), 2) := by decide +kernel
theorem dX5_found_17 : decode cX5_found 17 = .ok (.ireturn, 1) := by decide +kernel
def p5_found (a1 : Int32) (M : SX) : Option (Int32 × SX) :=
  lt_ (wI M 0 7 a1) (fun M1 => gd (bIn a1 6) ( lt_ (wI M1 59 (Int32.toNatClampNeg a1) ((M1.1 59 (Int32.toNatClampNeg a1)) + 1)) (fun M3 => some ((-3), M3))))
set_option maxHeartbeats 4000000 in
set_option maxRecDepth 100000 in
theorem c5_found {l : Launch} {G : XG} {r : Int32} {M' : SX} {M : SX} (a1 : Int32) (hf : p5_found a1 M = some (r, M')) : Met l yX5_found (.code yX5_found cX5_found 2 (some .int) :: TBL) (rmX 0) (xPc G ZX M [.ref (G.2.1 0), .int a1]) (xQi G ZX r M') 0 0 (inA G ZX) := by
  refine x_met (cc := cX5_found) (by decide) (Nat.le_of_ble_eq_true rfl) ?_
  intro p e s m below meth c ls F hr hk hl hw
  have F : Fx G ZX p m c cX5_found 2 s [.ref (G.2.1 0), .int a1].toArray RX5 := F
  have hl : lv_has ls 2 [(0, .ref (G.2.1 0)), (1, .int a1)] := hl
  have hx := F.1.1
  have hb := F.1.2.1
  unfold p5_found at hf
  refine lv_aload_n hx hb dX5_found_0 rfl (lv_at hl 0 rfl) ?_
  refine lv_iload_n hx hb dX5_found_1 rfl (lv_at hl 1 rfl) ?_
  refine s5_7 F hw tw_302 dX5_found_2 (fun H locs hw => ?_)
  obtain ⟨M1, eM1, hf⟩ := lt_elim hf
  rw [← eM1] at hw
  refine lv_aload_n hx hb dX5_found_5 rfl (lv_at hl 0 rfl) ?_
  refine g5_6 F hw tw_303 dX5_found_6 ?_
  refine lv_iload_n hx hb dX5_found_9 rfl (lv_at hl 1 rfl) ?_
  refine lv_dup2_11 hx hb dX5_found_10 rfl rfl ?_
  obtain ⟨g2, hf⟩ := gd_some hf
  refine x_iald F hw sP59 g2 dX5_found_11 ?_
  refine lv_iconst (v := 1) hx hb dX5_found_12 (by decide) ?_
  refine lv_iadd hx hb dX5_found_13 ?_
  refine x_iast F hw sP59 g2 dX5_found_14 (fun H locs hw => ?_)
  obtain ⟨M3, eM3, hf⟩ := lt_elim hf
  rw [← eM3] at hw
  refine lv_bipush (v := (-3)) hx hb dX5_found_15 (by decide) ?_
  exact x_iret F hw hr hk hf dX5_found_17
theorem dX5_keptLanes_0 : decode cX5_keptLanes 0 = .ok (.iconst 0, 1) := by decide +kernel
theorem dX5_keptLanes_1 : decode cX5_keptLanes 1 = .ok (.istore_n 1, 1) := by decide +kernel
theorem dX5_keptLanes_2 : decode cX5_keptLanes 2 = .ok (.iconst 0, 1) := by decide +kernel
theorem dX5_keptLanes_3 : decode cX5_keptLanes 3 = .ok (.istore_n 2, 1) := by decide +kernel
theorem dX5_keptLanes_4 : decode cX5_keptLanes 4 = .ok (.iload_n 2, 1) := by decide +kernel
theorem dX5_keptLanes_5 : decode cX5_keptLanes 5 = .ok (.iconst 3, 1) := by decide +kernel
theorem dX5_keptLanes_6 : decode cX5_keptLanes 6 = .ok (.if_icmp .ge 24, 3) := by decide +kernel
theorem dX5_keptLanes_9 : decode cX5_keptLanes 9 = .ok (.aload_n 0, 1) := by decide +kernel
theorem dX5_keptLanes_10 : decode cX5_keptLanes 10 = .ok (.getfield 35, 3) := by decide +kernel
theorem dX5_keptLanes_13 : decode cX5_keptLanes 13 = .ok (.iload_n 2, 1) := by decide +kernel
theorem dX5_keptLanes_14 : decode cX5_keptLanes 14 = .ok (.aaload, 1) := by decide +kernel
theorem dX5_keptLanes_15 : decode cX5_keptLanes 15 = .ok (.getfield 126, 3) := by decide +kernel
theorem dX5_keptLanes_18 : decode cX5_keptLanes 18 = .ok (.ifCond .le 6, 3) := by decide +kernel
theorem dX5_keptLanes_21 : decode cX5_keptLanes 21 = .ok (.iinc 1 1, 3) := by decide +kernel
theorem dX5_keptLanes_24 : decode cX5_keptLanes 24 = .ok (.iinc 2 1, 3) := by decide +kernel
theorem dX5_keptLanes_27 : decode cX5_keptLanes 27 = .ok (.goto (-23), 3) := by decide +kernel
theorem dX5_keptLanes_30 : decode cX5_keptLanes 30 = .ok (.iload_n 1, 1) := by decide +kernel
theorem dX5_keptLanes_31 : decode cX5_keptLanes 31 = .ok (.ireturn, 1) := by decide +kernel
def p5_keptLanes_24 (k4 : Int32 → Int32 → SX → Option (Int32 × SX)) (v1 : Int32) (v2 : Int32) (M : SX) : Option (Int32 × SX) :=
  lt_ (v2 + 1) (fun x1 => k4 v1 x1 M)
set_option maxHeartbeats 4000000 in
set_option maxRecDepth 100000 in
theorem w5_keptLanes_24 {G : XG} {p : Program} {l : Launch} {e : Env} {s : State} {m : MethodId} {args : Array Value} {below : List Frame} {meth : Method} {c : Code} (F : Fx G ZX p m c cX5_keptLanes 3 s args RX5) (hr : meth.sig.returnType = some .int) (hk : meth.locks = false) {r : Int32} {M' : SX} (k4 : Int32 → Int32 → SX → Option (Int32 × SX)) (hk4 : ∀ (v1 : Int32) (v2 : Int32) (M : SX) (H : Heap) (locs : List Loc) (ls : Array Slot), Wld G ZX M s.heap H locs → lv_has ls 3 [(0, .ref (G.2.1 0)), (1, .int v1), (2, .int v2)] → k4 v1 v2 M = some (r, M') → WXi G ZX p l e 0 s m args below meth c r M' H locs (F0 m 4 ls [])) : ∀ (v1 : Int32) (v2 : Int32) (M : SX) (H : Heap) (locs : List Loc) (ls : Array Slot), Wld G ZX M s.heap H locs → lv_has ls 3 [(0, .ref (G.2.1 0)), (1, .int v1), (2, .int v2)] → p5_keptLanes_24 k4 v1 v2 M = some (r, M') → WXi G ZX p l e 0 s m args below meth c r M' H locs (F0 m 24 ls []) := by
  intro v1 v2 M H locs ls hw hl hf
  have hx := F.1.1
  have hb := F.1.2.1
  unfold p5_keptLanes_24 at hf
  obtain ⟨x1, ex1, hf⟩ := lt_elim hf
  refine lv_iinc (v := x1) (lv' := [(2, .int x1), (0, .ref (G.2.1 0)), (1, .int v1)]) hx hb dX5_keptLanes_24 hl (k := 2) rfl (by rw [ex1]; rfl) (by decide) rfl (fun ls hl => ?_)
  refine lv_goto (tgt := 4) hx hb dX5_keptLanes_27 (by decide) ?_
  exact hk4 v1 x1 M _ _ ls hw (lv_sub hl [1, 2, 0] rfl) hf
def p5_keptLanes_4 (k4 : Int32 → Int32 → SX → Option (Int32 × SX)) (v1 : Int32) (v2 : Int32) (M : SX) : Option (Int32 × SX) :=
  if (3 : Int32) ≤ v2 then (some (v1, M))
  else (gd (bIn v2 3) ( if (M.1 (27 + 9 * Int32.toNatClampNeg v2) 0) ≤ 0 then (p5_keptLanes_24 k4 v1 v2 M)
  else (lt_ (v1 + 1) (fun x4 => p5_keptLanes_24 k4 x4 v2 M))))
set_option maxHeartbeats 4000000 in
set_option maxRecDepth 100000 in
theorem w5_keptLanes_4 {G : XG} {p : Program} {l : Launch} {e : Env} {s : State} {m : MethodId} {args : Array Value} {below : List Frame} {meth : Method} {c : Code} (F : Fx G ZX p m c cX5_keptLanes 3 s args RX5) (hr : meth.sig.returnType = some .int) (hk : meth.locks = false) {r : Int32} {M' : SX} (k4 : Int32 → Int32 → SX → Option (Int32 × SX)) (hk4 : ∀ (v1 : Int32) (v2 : Int32) (M : SX) (H : Heap) (locs : List Loc) (ls : Array Slot), Wld G ZX M s.heap H locs → lv_has ls 3 [(0, .ref (G.2.1 0)), (1, .int v1), (2, .int v2)] → k4 v1 v2 M = some (r, M') → WXi G ZX p l e 0 s m args below meth c r M' H locs (F0 m 4 ls [])) : ∀ (v1 : Int32) (v2 : Int32) (M : SX) (H : Heap) (locs : List Loc) (ls : Array Slot), Wld G ZX M s.heap H locs → lv_has ls 3 [(0, .ref (G.2.1 0)), (1, .int v1), (2, .int v2)] → p5_keptLanes_4 k4 v1 v2 M = some (r, M') → WXi G ZX p l e 0 s m args below meth c r M' H locs (F0 m 4 ls []) := by
  intro v1 v2 M H locs ls hw hl hf
  have hx := F.1.1
  have hb := F.1.2.1
  unfold p5_keptLanes_4 at hf
  refine lv_iload_n hx hb dX5_keptLanes_4 rfl (lv_at hl 2 rfl) ?_
  refine lv_iconst (v := 3) hx hb dX5_keptLanes_5 (by decide) ?_
  refine lv_icmp_ge (tgt := 30) hx hb dX5_keptLanes_6 (by decide) (fun c1 => ?_) (fun c1 => ?_)
  · have hf := it_t hf c1
    refine lv_iload_n hx hb dX5_keptLanes_30 rfl (lv_at hl 1 rfl) ?_
    exact x_iret F hw hr hk hf dX5_keptLanes_31
  · have hf := it_f hf c1
    refine lv_aload_n hx hb dX5_keptLanes_9 rfl (lv_at hl 0 rfl) ?_
    refine g5_4 F hw tw_304 dX5_keptLanes_10 ?_
    refine lv_iload_n hx hb dX5_keptLanes_13 rfl (lv_at hl 2 rfl) ?_
    obtain ⟨g2, hf⟩ := gd_some hf
    refine x_aald F hw sP26 g2 dX5_keptLanes_14 ?_
    refine g1_0 (isL_k g2) F hw tw_305 dX5_keptLanes_15 ?_
    refine lv_if_le (tgt := 24) hx hb dX5_keptLanes_18 (by decide) (fun c3 => ?_) (fun c3 => ?_)
    · have hf := it_t hf c3
      exact w5_keptLanes_24 F hr hk k4 hk4 v1 v2 M _ _ ls hw (lv_sub hl [0, 1, 2] rfl) hf
    · have hf := it_f hf c3
      obtain ⟨x4, ex4, hf⟩ := lt_elim hf
      refine lv_iinc (v := x4) (lv' := [(1, .int x4), (0, .ref (G.2.1 0)), (2, .int v2)]) hx hb dX5_keptLanes_21 hl (k := 1) rfl (by rw [ex4]; rfl) (by decide) rfl (fun ls hl => ?_)
      exact w5_keptLanes_24 F hr hk k4 hk4 x4 v2 M _ _ ls hw (lv_sub hl [1, 0, 2] rfl) hf
theorem z5_keptLanes_4 {G : XG} {p : Program} {l : Launch} {e : Env} {s : State} {m : MethodId} {args : Array Value} {below : List Frame} {meth : Method} {c : Code} (F : Fx G ZX p m c cX5_keptLanes 3 s args RX5) (hr : meth.sig.returnType = some .int) (hk : meth.locks = false) {r : Int32} {M' : SX} : ∀ n : Nat, ∀ (v1 : Int32) (v2 : Int32) (M : SX) (H : Heap) (locs : List Loc) (ls : Array Slot), Wld G ZX M s.heap H locs → lv_has ls 3 [(0, .ref (G.2.1 0)), (1, .int v1), (2, .int v2)] → xlp2 p5_keptLanes_4 n v1 v2 M = some (r, M') → WXi G ZX p l e 0 s m args below meth c r M' H locs (F0 m 4 ls []) := by
  intro n
  induction n with
  | zero => intro _ _ _ _ _ _ _ _ hf; cases hf
  | succ n ih => exact w5_keptLanes_4 F hr hk (xlp2 p5_keptLanes_4 n) ih
def p5_keptLanes (M : SX) : Option (Int32 × SX) :=
  xlp2 p5_keptLanes_4 FU 0 0 M
set_option maxHeartbeats 4000000 in
set_option maxRecDepth 100000 in
theorem c5_keptLanes {l : Launch} {G : XG} {r : Int32} {M' : SX} {M : SX} (hf : p5_keptLanes M = some (r, M')) : Met l yX5_keptLanes (.code yX5_keptLanes cX5_keptLanes 3 (some .int) :: TBL) (rmX 0) (xPc G ZX M [.ref (G.2.1 0)]) (xQi G ZX r M') 0 0 (inA G ZX) := by
  refine x_met (cc := cX5_keptLanes) (by decide) (Nat.le_of_ble_eq_true rfl) ?_
  intro p e s m below meth c ls F hr hk hl hw
  have F : Fx G ZX p m c cX5_keptLanes 3 s [.ref (G.2.1 0)].toArray RX5 := F
  have hl : lv_has ls 3 [(0, .ref (G.2.1 0))] := hl
  have hx := F.1.1
  have hb := F.1.2.1
  unfold p5_keptLanes at hf
  refine lv_iconst (v := 0) hx hb dX5_keptLanes_0 (by decide) ?_
  refine lv_istore_n (lv' := [(1, .int 0), (0, .ref (G.2.1 0))]) hx hb dX5_keptLanes_1 rfl hl (by decide) rfl (fun ls hl => ?_)
  refine lv_iconst (v := 0) hx hb dX5_keptLanes_2 (by decide) ?_
  refine lv_istore_n (lv' := [(2, .int 0), (1, .int 0), (0, .ref (G.2.1 0))]) hx hb dX5_keptLanes_3 rfl hl (by decide) rfl (fun ls hl => ?_)
  exact z5_keptLanes_4 F hr hk FU 0 0 M _ _ ls hw (lv_sub hl [2, 1, 0] rfl) hf
theorem dX5_stock_0 : decode cX5_stock 0 = .ok (.aload_n 0, 1) := by decide +kernel
theorem dX5_stock_1 : decode cX5_stock 1 = .ok (.getfield 31, 3) := by decide +kernel
theorem dX5_stock_4 : decode cX5_stock 4 = .ok (.iload_n 1, 1) := by decide +kernel
theorem dX5_stock_5 : decode cX5_stock 5 = .ok (.invokevirtual 129, 3) := by decide +kernel
theorem dX5_stock_8 : decode cX5_stock 8 = .ok (.ifCond .eq 13, 3) := by decide +kernel
theorem dX5_stock_11 : decode cX5_stock 11 = .ok (.iload_n 2, 1) := by decide +kernel
theorem dX5_stock_12 : decode cX5_stock 12 = .ok (.ifCond .lt 9, 3) := by decide +kernel
theorem dX5_stock_15 : decode cX5_stock 15 = .ok (.iload_n 2, 1) := by decide +kernel
theorem dX5_stock_16 : decode cX5_stock 16 = .ok (.bipush 9, 2) := by decide +kernel
theorem dX5_stock_18 : decode cX5_stock 18 = .ok (.if_icmp .le 5, 3) := by decide +kernel
theorem dX5_stock_21 : decode cX5_stock 21 = .ok (.iconst (-1), 1) := by decide +kernel
theorem dX5_stock_22 : decode cX5_stock 22 = .ok (.ireturn, 1) := by decide +kernel
theorem dX5_stock_23 : decode cX5_stock 23 = .ok (.aload_n 0, 1) := by decide +kernel
theorem dX5_stock_24 : decode cX5_stock 24 = .ok (.getfield 31, 3) := by decide +kernel
theorem dX5_stock_27 : decode cX5_stock 27 = .ok (.getfield 163, 3) := by decide +kernel
theorem dX5_stock_30 : decode cX5_stock 30 = .ok (.getfield 167, 3) := by decide +kernel
theorem dX5_stock_33 : decode cX5_stock 33 = .ok (.ifCond .le 6, 3) := by decide +kernel
theorem dX5_stock_36 : decode cX5_stock 36 = .ok (.bipush (-4), 2) := by decide +kernel
theorem dX5_stock_38 : decode cX5_stock 38 = .ok (.ireturn, 1) := by decide +kernel
theorem dX5_stock_39 : decode cX5_stock 39 = .ok (.aload_n 0, 1) := by decide +kernel
theorem dX5_stock_40 : decode cX5_stock 40 = .ok (.getfield 31, 3) := by decide +kernel
theorem dX5_stock_43 : decode cX5_stock 43 = .ok (.getfield 172, 3) := by decide +kernel
theorem dX5_stock_46 : decode cX5_stock 46 = .ok (.iload_n 1, 1) := by decide +kernel
theorem dX5_stock_47 : decode cX5_stock 47 = .ok (.iaload, 1) := by decide +kernel
theorem dX5_stock_48 : decode cX5_stock 48 = .ok (.istore_n 3, 1) := by decide +kernel
theorem dX5_stock_49 : decode cX5_stock 49 = .ok (.aload_n 0, 1) := by decide +kernel
theorem dX5_stock_50 : decode cX5_stock 50 = .ok (.getfield 31, 3) := by decide +kernel
theorem dX5_stock_53 : decode cX5_stock 53 = .ok (.getfield 172, 3) := by decide +kernel
theorem dX5_stock_56 : decode cX5_stock 56 = .ok (.iload_n 1, 1) := by decide +kernel
theorem dX5_stock_57 : decode cX5_stock 57 = .ok (.iload_n 2, 1) := by decide +kernel
theorem dX5_stock_58 : decode cX5_stock 58 = .ok (.iastore, 1) := by decide +kernel
theorem dX5_stock_59 : decode cX5_stock 59 = .ok (.iload_n 3, 1) := by decide +kernel
theorem dX5_stock_60 : decode cX5_stock 60 = .ok (.ireturn, 1) := by decide +kernel
def p5_stock (a1 : Int32) (a2 : Int32) (M : SX) : Option (Int32 × SX) :=
  bd (p1_isShop 17 a1 M) (fun r3 M2 => if r3 = 0 then (some ((-1), M2))
  else (if a2 < 0 then (some ((-1), M2))
  else (if a2 ≤ (9 : Int32) then (if (M2.1 (17 + 7) 1) ≤ 0 then (gd (bIn a1 6) ( lt_ (M2.1 (17 + 3) (Int32.toNatClampNeg a1)) (fun x9 => lt_ (wI M2 (17 + 3) (Int32.toNatClampNeg a1) a2) (fun M10 => some (x9, M10)))))
  else (some ((-4), M2)))
  else (some ((-1), M2)))))
set_option maxHeartbeats 4000000 in
set_option maxRecDepth 100000 in
theorem c5_stock {l : Launch} {G : XG} {r : Int32} {M' : SX} {M : SX} (a1 : Int32) (a2 : Int32) (hf : p5_stock a1 a2 M = some (r, M')) : Met l yX5_stock (.code yX5_stock cX5_stock 4 (some .int) :: TBL) (rmX 1) (xPc G ZX M [.ref (G.2.1 0), .int a1, .int a2]) (xQi G ZX r M') 0 0 (inA G ZX) := by
  refine x_met (cc := cX5_stock) (by decide) (Nat.le_of_ble_eq_true rfl) ?_
  intro p e s m below meth c ls F hr hk hl hw
  have F : Fx G ZX p m c cX5_stock 4 s [.ref (G.2.1 0), .int a1, .int a2].toArray RX5 := F
  have hl : lv_has ls 4 [(0, .ref (G.2.1 0)), (1, .int a1), (2, .int a2)] := hl
  have hx := F.1.1
  have hb := F.1.2.1
  unfold p5_stock at hf
  refine lv_aload_n hx hb dX5_stock_0 rfl (lv_at hl 0 rfl) ?_
  refine g5_3 F hw tw_306 dX5_stock_1 ?_
  refine lv_iload_n hx hb dX5_stock_4 rfl (lv_at hl 1 rfl) ?_
  obtain ⟨r3, M2, hc1, hf⟩ := bd_some hf
  refine x_aftI hw (x_runV (rest := []) F hw hl.1 vw_RX5_129 (sL isL_17) rfl (c1_isShop 17 isL_17 a1 hc1) rfl rfl (Nat.le_of_ble_eq_true rfl) ⟨Nat.le_of_ble_eq_true rfl, Nat.le_of_ble_eq_true rfl⟩ dX5_stock_5) (fun H locs hw => ?_)
  refine lv_if_eq (tgt := 21) hx hb dX5_stock_8 (by decide) (fun c4 => ?_) (fun c4 => ?_)
  · have hf := it_t hf c4
    refine lv_iconst (v := (-1)) hx hb dX5_stock_21 (by decide) ?_
    exact x_iret F hw hr hk hf dX5_stock_22
  · have hf := it_f hf c4
    refine lv_iload_n hx hb dX5_stock_11 rfl (lv_at hl 2 rfl) ?_
    refine lv_if_lt (tgt := 21) hx hb dX5_stock_12 (by decide) (fun c5 => ?_) (fun c5 => ?_)
    · have hf := it_t hf c5
      refine lv_iconst (v := (-1)) hx hb dX5_stock_21 (by decide) ?_
      exact x_iret F hw hr hk hf dX5_stock_22
    · have hf := it_f hf c5
      refine lv_iload_n hx hb dX5_stock_15 rfl (lv_at hl 2 rfl) ?_
      refine lv_bipush (v := 9) hx hb dX5_stock_16 (by decide) ?_
      refine lv_icmp_le (tgt := 23) hx hb dX5_stock_18 (by decide) (fun c6 => ?_) (fun c6 => ?_)
      · have hf := it_t hf c6
        refine lv_aload_n hx hb dX5_stock_23 rfl (lv_at hl 0 rfl) ?_
        refine g5_3 F hw tw_306 dX5_stock_24 ?_
        refine g1_7 isL_17 F hw tw_309 dX5_stock_27 ?_
        refine g0_1 (isD_of isL_17) F hw tw_310 dX5_stock_30 ?_
        refine lv_if_le (tgt := 39) hx hb dX5_stock_33 (by decide) (fun c7 => ?_) (fun c7 => ?_)
        · have hf := it_t hf c7
          refine lv_aload_n hx hb dX5_stock_39 rfl (lv_at hl 0 rfl) ?_
          refine g5_3 F hw tw_306 dX5_stock_40 ?_
          refine g1_3 isL_17 F hw tw_311 dX5_stock_43 ?_
          refine lv_iload_n hx hb dX5_stock_46 rfl (lv_at hl 1 rfl) ?_
          obtain ⟨g8, hf⟩ := gd_some hf
          refine x_iald F hw (sL3 isL_17) g8 dX5_stock_47 ?_
          obtain ⟨x9, ex9, hf⟩ := lt_elim hf
          refine x_let ex9 ?_
          refine lv_istore_n (lv' := [(3, .int x9), (0, .ref (G.2.1 0)), (1, .int a1), (2, .int a2)]) hx hb dX5_stock_48 rfl hl (by decide) rfl (fun ls hl => ?_)
          refine lv_aload_n hx hb dX5_stock_49 rfl (lv_at hl 1 rfl) ?_
          refine g5_3 F hw tw_306 dX5_stock_50 ?_
          refine g1_3 isL_17 F hw tw_311 dX5_stock_53 ?_
          refine lv_iload_n hx hb dX5_stock_56 rfl (lv_at hl 2 rfl) ?_
          refine lv_iload_n hx hb dX5_stock_57 rfl (lv_at hl 3 rfl) ?_
          refine x_iast F hw (sL3 isL_17) g8 dX5_stock_58 (fun H locs hw => ?_)
          obtain ⟨M10, eM10, hf⟩ := lt_elim hf
          rw [← eM10] at hw
          refine lv_iload_n hx hb dX5_stock_59 rfl (lv_at hl 0 rfl) ?_
          exact x_iret F hw hr hk hf dX5_stock_60
        · have hf := it_f hf c7
          refine lv_bipush (v := (-4)) hx hb dX5_stock_36 (by decide) ?_
          exact x_iret F hw hr hk hf dX5_stock_38
      · have hf := it_f hf c6
        refine lv_iconst (v := (-1)) hx hb dX5_stock_21 (by decide) ?_
        exact x_iret F hw hr hk hf dX5_stock_22
theorem dX5_deep_0 : decode cX5_deep 0 = .ok (.aload_n 0, 1) := by decide +kernel
theorem dX5_deep_1 : decode cX5_deep 1 = .ok (.getfield 31, 3) := by decide +kernel
theorem dX5_deep_4 : decode cX5_deep 4 = .ok (.iload_n 1, 1) := by decide +kernel
theorem dX5_deep_5 : decode cX5_deep 5 = .ok (.invokevirtual 129, 3) := by decide +kernel
theorem dX5_deep_8 : decode cX5_deep 8 = .ok (.ifCond .ne 5, 3) := by decide +kernel
theorem dX5_deep_11 : decode cX5_deep 11 = .ok (.iconst (-1), 1) := by decide +kernel
theorem dX5_deep_12 : decode cX5_deep 12 = .ok (.ireturn, 1) := by decide +kernel
theorem dX5_deep_13 : decode cX5_deep 13 = .ok (.iload_n 1, 1) := by decide +kernel
theorem dX5_deep_14 : decode cX5_deep 14 = .ok (.istore_n 2, 1) := by decide +kernel
theorem dX5_deep_15 : decode cX5_deep 15 = .ok (.iconst 0, 1) := by decide +kernel
theorem dX5_deep_16 : decode cX5_deep 16 = .ok (.istore_n 3, 1) := by decide +kernel
theorem dX5_deep_17 : decode cX5_deep 17 = .ok (.iload_n 3, 1) := by decide +kernel
theorem dX5_deep_18 : decode cX5_deep 18 = .ok (.aload_n 0, 1) := by decide +kernel
theorem dX5_deep_19 : decode cX5_deep 19 = .ok (.getfield 31, 3) := by decide +kernel
theorem dX5_deep_22 : decode cX5_deep 22 = .ok (.getfield 126, 3) := by decide +kernel
theorem dX5_deep_25 : decode cX5_deep 25 = .ok (.if_icmp .ge 37, 3) := by decide +kernel
theorem dX5_deep_28 : decode cX5_deep 28 = .ok (.aload_n 0, 1) := by decide +kernel
theorem dX5_deep_29 : decode cX5_deep 29 = .ok (.getfield 31, 3) := by decide +kernel
theorem dX5_deep_32 : decode cX5_deep 32 = .ok (.iload_n 2, 1) := by decide +kernel
theorem dX5_deep_33 : decode cX5_deep 33 = .ok (.invokevirtual 212, 3) := by decide +kernel
theorem dX5_deep_36 : decode cX5_deep 36 = .ok (.ifCond .ne 10, 3) := by decide +kernel
theorem dX5_deep_39 : decode cX5_deep 39 = .ok (.aload_n 0, 1) := by decide +kernel
theorem dX5_deep_40 : decode cX5_deep 40 = .ok (.iload_n 2, 1) := by decide +kernel
theorem dX5_deep_41 : decode cX5_deep 41 = .ok (.putfield 54, 3) := by decide +kernel
theorem dX5_deep_44 : decode cX5_deep 44 = .ok (.iload_n 3, 1) := by decide +kernel
theorem dX5_deep_45 : decode cX5_deep 45 = .ok (.ireturn, 1) := by decide +kernel
theorem dX5_deep_46 : decode cX5_deep 46 = .ok (.aload_n 0, 1) := by decide +kernel
theorem dX5_deep_47 : decode cX5_deep 47 = .ok (.getfield 31, 3) := by decide +kernel
theorem dX5_deep_50 : decode cX5_deep 50 = .ok (.getfield 215, 3) := by decide +kernel
theorem dX5_deep_53 : decode cX5_deep 53 = .ok (.iload_n 2, 1) := by decide +kernel
theorem dX5_deep_54 : decode cX5_deep 54 = .ok (.iaload, 1) := by decide +kernel
theorem dX5_deep_55 : decode cX5_deep 55 = .ok (.istore_n 2, 1) := by decide +kernel
theorem dX5_deep_56 : decode cX5_deep 56 = .ok (.iinc 3 1, 3) := by decide +kernel
theorem dX5_deep_59 : decode cX5_deep 59 = .ok (.goto (-42), 3) := by decide +kernel
theorem dX5_deep_62 : decode cX5_deep 62 = .ok (.bipush (-9), 2) := by decide +kernel
theorem dX5_deep_64 : decode cX5_deep 64 = .ok (.ireturn, 1) := by decide +kernel
def p5_deep_17 (k17 : Int32 → Int32 → SX → Option (Int32 × SX)) (v2 : Int32) (v3 : Int32) (M : SX) : Option (Int32 × SX) :=
  if (M.1 17 0) ≤ v3 then (some ((-9), M))
  else (bd (p1_isPawned 17 v2 M) (fun r4 M3 => if r4 = 0 then (lt_ (wI M3 0 8 v2) (fun M9 => some (v3, M9)))
  else (gd (bIn v2 6) ( lt_ (M3.1 (17 + 4) (Int32.toNatClampNeg v2)) (fun x7 => lt_ (v3 + 1) (fun x8 => k17 x7 x8 M3))))))
set_option maxHeartbeats 4000000 in
set_option maxRecDepth 100000 in
theorem w5_deep_17 {G : XG} {p : Program} {l : Launch} {e : Env} {s : State} {m : MethodId} {args : Array Value} {below : List Frame} {meth : Method} {c : Code} (F : Fx G ZX p m c cX5_deep 4 s args RX5) (hr : meth.sig.returnType = some .int) (hk : meth.locks = false) {r : Int32} {M' : SX} (k17 : Int32 → Int32 → SX → Option (Int32 × SX)) (hk17 : ∀ (v2 : Int32) (v3 : Int32) (M : SX) (H : Heap) (locs : List Loc) (ls : Array Slot), Wld G ZX M s.heap H locs → lv_has ls 4 [(0, .ref (G.2.1 0)), (2, .int v2), (3, .int v3)] → k17 v2 v3 M = some (r, M') → WXi G ZX p l e 1 s m args below meth c r M' H locs (F0 m 17 ls [])) : ∀ (v2 : Int32) (v3 : Int32) (M : SX) (H : Heap) (locs : List Loc) (ls : Array Slot), Wld G ZX M s.heap H locs → lv_has ls 4 [(0, .ref (G.2.1 0)), (2, .int v2), (3, .int v3)] → p5_deep_17 k17 v2 v3 M = some (r, M') → WXi G ZX p l e 1 s m args below meth c r M' H locs (F0 m 17 ls []) := by
  intro v2 v3 M H locs ls hw hl hf
  have hx := F.1.1
  have hb := F.1.2.1
  unfold p5_deep_17 at hf
  refine lv_iload_n hx hb dX5_deep_17 rfl (lv_at hl 2 rfl) ?_
  refine lv_aload_n hx hb dX5_deep_18 rfl (lv_at hl 0 rfl) ?_
  refine g5_3 F hw tw_306 dX5_deep_19 ?_
  refine g1_0 isL_17 F hw tw_305 dX5_deep_22 ?_
  refine lv_icmp_ge (tgt := 62) hx hb dX5_deep_25 (by decide) (fun c1 => ?_) (fun c1 => ?_)
  · have hf := it_t hf c1
    refine lv_bipush (v := (-9)) hx hb dX5_deep_62 (by decide) ?_
    exact x_iret F hw hr hk hf dX5_deep_64
  · have hf := it_f hf c1
    refine lv_aload_n hx hb dX5_deep_28 rfl (lv_at hl 0 rfl) ?_
    refine g5_3 F hw tw_306 dX5_deep_29 ?_
    refine lv_iload_n hx hb dX5_deep_32 rfl (lv_at hl 1 rfl) ?_
    obtain ⟨r4, M3, hc2, hf⟩ := bd_some hf
    refine x_aftI hw (x_runV (rest := []) F hw hl.1 vw_RX5_212 (sL isL_17) rfl (c1_isPawned 17 isL_17 v2 hc2) rfl rfl (Nat.le_of_ble_eq_true rfl) ⟨Nat.le_of_ble_eq_true rfl, Nat.le_of_ble_eq_true rfl⟩ dX5_deep_33) (fun H locs hw => ?_)
    refine lv_if_ne (tgt := 46) hx hb dX5_deep_36 (by decide) (fun c5 => ?_) (fun c5 => ?_)
    · have hf := it_f hf c5
      refine lv_aload_n hx hb dX5_deep_46 rfl (lv_at hl 0 rfl) ?_
      refine g5_3 F hw tw_306 dX5_deep_47 ?_
      refine g1_4 isL_17 F hw tw_314 dX5_deep_50 ?_
      refine lv_iload_n hx hb dX5_deep_53 rfl (lv_at hl 1 rfl) ?_
      obtain ⟨g6, hf⟩ := gd_some hf
      refine x_iald F hw (sL4 isL_17) g6 dX5_deep_54 ?_
      obtain ⟨x7, ex7, hf⟩ := lt_elim hf
      refine x_let ex7 ?_
      refine lv_istore_n (lv' := [(2, .int x7), (0, .ref (G.2.1 0)), (3, .int v3)]) hx hb dX5_deep_55 rfl hl (by decide) rfl (fun ls hl => ?_)
      obtain ⟨x8, ex8, hf⟩ := lt_elim hf
      refine lv_iinc (v := x8) (lv' := [(3, .int x8), (2, .int x7), (0, .ref (G.2.1 0))]) hx hb dX5_deep_56 hl (k := 2) rfl (by rw [ex8]; rfl) (by decide) rfl (fun ls hl => ?_)
      refine lv_goto (tgt := 17) hx hb dX5_deep_59 (by decide) ?_
      exact hk17 x7 x8 M3 _ _ ls hw (lv_sub hl [2, 1, 0] rfl) hf
    · have hf := it_t hf c5
      refine lv_aload_n hx hb dX5_deep_39 rfl (lv_at hl 0 rfl) ?_
      refine lv_iload_n hx hb dX5_deep_40 rfl (lv_at hl 1 rfl) ?_
      refine s5_8 F hw tw_299 dX5_deep_41 (fun H locs hw => ?_)
      obtain ⟨M9, eM9, hf⟩ := lt_elim hf
      rw [← eM9] at hw
      refine lv_iload_n hx hb dX5_deep_44 rfl (lv_at hl 2 rfl) ?_
      exact x_iret F hw hr hk hf dX5_deep_45
theorem z5_deep_17 {G : XG} {p : Program} {l : Launch} {e : Env} {s : State} {m : MethodId} {args : Array Value} {below : List Frame} {meth : Method} {c : Code} (F : Fx G ZX p m c cX5_deep 4 s args RX5) (hr : meth.sig.returnType = some .int) (hk : meth.locks = false) {r : Int32} {M' : SX} : ∀ n : Nat, ∀ (v2 : Int32) (v3 : Int32) (M : SX) (H : Heap) (locs : List Loc) (ls : Array Slot), Wld G ZX M s.heap H locs → lv_has ls 4 [(0, .ref (G.2.1 0)), (2, .int v2), (3, .int v3)] → xlp2 p5_deep_17 n v2 v3 M = some (r, M') → WXi G ZX p l e 1 s m args below meth c r M' H locs (F0 m 17 ls []) := by
  intro n
  induction n with
  | zero => intro _ _ _ _ _ _ _ _ hf; cases hf
  | succ n ih => exact w5_deep_17 F hr hk (xlp2 p5_deep_17 n) ih
def p5_deep (a1 : Int32) (M : SX) : Option (Int32 × SX) :=
  bd (p1_isShop 17 a1 M) (fun r3 M2 => if r3 = 0 then (some ((-1), M2))
  else (xlp2 p5_deep_17 FU a1 0 M2))
set_option maxHeartbeats 4000000 in
set_option maxRecDepth 100000 in
theorem c5_deep {l : Launch} {G : XG} {r : Int32} {M' : SX} {M : SX} (a1 : Int32) (hf : p5_deep a1 M = some (r, M')) : Met l yX5_deep (.code yX5_deep cX5_deep 4 (some .int) :: TBL) (rmX 1) (xPc G ZX M [.ref (G.2.1 0), .int a1]) (xQi G ZX r M') 0 0 (inA G ZX) := by
  refine x_met (cc := cX5_deep) (by decide) (Nat.le_of_ble_eq_true rfl) ?_
  intro p e s m below meth c ls F hr hk hl hw
  have F : Fx G ZX p m c cX5_deep 4 s [.ref (G.2.1 0), .int a1].toArray RX5 := F
  have hl : lv_has ls 4 [(0, .ref (G.2.1 0)), (1, .int a1)] := hl
  have hx := F.1.1
  have hb := F.1.2.1
  unfold p5_deep at hf
  refine lv_aload_n hx hb dX5_deep_0 rfl (lv_at hl 0 rfl) ?_
  refine g5_3 F hw tw_306 dX5_deep_1 ?_
  refine lv_iload_n hx hb dX5_deep_4 rfl (lv_at hl 1 rfl) ?_
  obtain ⟨r3, M2, hc1, hf⟩ := bd_some hf
  refine x_aftI hw (x_runV (rest := []) F hw hl.1 vw_RX5_129 (sL isL_17) rfl (c1_isShop 17 isL_17 a1 hc1) rfl rfl (Nat.le_of_ble_eq_true rfl) ⟨Nat.le_of_ble_eq_true rfl, Nat.le_of_ble_eq_true rfl⟩ dX5_deep_5) (fun H locs hw => ?_)
  refine lv_if_ne (tgt := 13) hx hb dX5_deep_8 (by decide) (fun c4 => ?_) (fun c4 => ?_)
  · have hf := it_f hf c4
    refine lv_iload_n hx hb dX5_deep_13 rfl (lv_at hl 1 rfl) ?_
    refine lv_istore_n (lv' := [(2, .int a1), (0, .ref (G.2.1 0)), (1, .int a1)]) hx hb dX5_deep_14 rfl hl (by decide) rfl (fun ls hl => ?_)
    refine lv_iconst (v := 0) hx hb dX5_deep_15 (by decide) ?_
    refine lv_istore_n (lv' := [(3, .int 0), (2, .int a1), (0, .ref (G.2.1 0)), (1, .int a1)]) hx hb dX5_deep_16 rfl hl (by decide) rfl (fun ls hl => ?_)
    exact z5_deep_17 F hr hk FU a1 0 M2 _ _ ls hw (lv_sub hl [2, 1, 0] rfl) hf
  · have hf := it_t hf c4
    refine lv_iconst (v := (-1)) hx hb dX5_deep_11 (by decide) ?_
    exact x_iret F hw hr hk hf dX5_deep_12
theorem dX5_refusalOfSheet_0 : decode cX5_refusalOfSheet 0 = .ok (.aload_n 1, 1) := by decide +kernel
theorem dX5_refusalOfSheet_1 : decode cX5_refusalOfSheet 1 = .ok (.iload_n 2, 1) := by decide +kernel
theorem dX5_refusalOfSheet_2 : decode cX5_refusalOfSheet 2 = .ok (.invokevirtual 64, 3) := by decide +kernel
theorem dX5_refusalOfSheet_5 : decode cX5_refusalOfSheet 5 = .ok (.ifCond .ne 5, 3) := by decide +kernel
theorem dX5_refusalOfSheet_8 : decode cX5_refusalOfSheet 8 = .ok (.iconst (-1), 1) := by decide +kernel
theorem dX5_refusalOfSheet_9 : decode cX5_refusalOfSheet 9 = .ok (.ireturn, 1) := by decide +kernel
theorem dX5_refusalOfSheet_10 : decode cX5_refusalOfSheet 10 = .ok (.aload_n 1, 1) := by decide +kernel
theorem dX5_refusalOfSheet_11 : decode cX5_refusalOfSheet 11 = .ok (.iload_n 2, 1) := by decide +kernel
theorem dX5_refusalOfSheet_12 : decode cX5_refusalOfSheet 12 = .ok (.invokevirtual 95, 3) := by decide +kernel
theorem dX5_refusalOfSheet_15 : decode cX5_refusalOfSheet 15 = .ok (.ifCond .eq 7, 3) := by decide +kernel
theorem dX5_refusalOfSheet_18 : decode cX5_refusalOfSheet 18 = .ok (.iconst 0, 1) := by decide +kernel
theorem dX5_refusalOfSheet_19 : decode cX5_refusalOfSheet 19 = .ok (.goto 8, 3) := by decide +kernel
theorem dX5_refusalOfSheet_22 : decode cX5_refusalOfSheet 22 = .ok (.aload_n 0, 1) := by decide +kernel
theorem dX5_refusalOfSheet_23 : decode cX5_refusalOfSheet 23 = .ok (.iconst 1, 1) := by decide +kernel
theorem dX5_refusalOfSheet_24 : decode cX5_refusalOfSheet 24 = .ok (.invokevirtual 68, 3) := by decide +kernel
theorem dX5_refusalOfSheet_27 : decode cX5_refusalOfSheet 27 = .ok (.ireturn, 1) := by decide +kernel
def p5_refusalOfSheet (b : Nat) (a2 : Int32) (M : SX) : Option (Int32 × SX) :=
  bd (p4_isNumber b a2 M) (fun r3 M2 => if r3 = 0 then (some ((-1), M2))
  else (bd (p4_isThere b a2 M2) (fun r7 M6 => if r7 = 0 then (bd (p5_found 1 M6) (fun r11 M10 => some (r11, M10)))
  else (some (0, M6)))))
set_option maxHeartbeats 4000000 in
set_option maxRecDepth 100000 in
theorem c5_refusalOfSheet {l : Launch} {G : XG} {r : Int32} {M' : SX} {M : SX} (b : Nat) (qb : isS b) (a2 : Int32) (hf : p5_refusalOfSheet b a2 M = some (r, M')) : Met l yX5_refusalOfSheet (.code yX5_refusalOfSheet cX5_refusalOfSheet 3 (some .int) :: TBL) (rmX 1) (xPc G ZX M [.ref (G.2.1 0), .ref (G.2.1 b), .int a2]) (xQi G ZX r M') 0 0 (inA G ZX) := by
  refine x_met (cc := cX5_refusalOfSheet) (by decide) (Nat.le_of_ble_eq_true rfl) ?_
  intro p e s m below meth c ls F hr hk hl hw
  have F : Fx G ZX p m c cX5_refusalOfSheet 3 s [.ref (G.2.1 0), .ref (G.2.1 b), .int a2].toArray RX5 := F
  have hl : lv_has ls 3 [(0, .ref (G.2.1 0)), (1, .ref (G.2.1 b)), (2, .int a2)] := hl
  have hx := F.1.1
  have hb := F.1.2.1
  unfold p5_refusalOfSheet at hf
  refine lv_aload_n hx hb dX5_refusalOfSheet_0 rfl (lv_at hl 1 rfl) ?_
  refine lv_iload_n hx hb dX5_refusalOfSheet_1 rfl (lv_at hl 2 rfl) ?_
  obtain ⟨r3, M2, hc1, hf⟩ := bd_some hf
  refine x_aftI hw (x_runV (rest := []) F hw hl.1 vw_RX5_64 (sS qb) rfl (c4_isNumber b qb a2 hc1) rfl rfl (Nat.le_of_ble_eq_true rfl) ⟨Nat.le_of_ble_eq_true rfl, Nat.le_of_ble_eq_true rfl⟩ dX5_refusalOfSheet_2) (fun H locs hw => ?_)
  refine lv_if_ne (tgt := 10) hx hb dX5_refusalOfSheet_5 (by decide) (fun c4 => ?_) (fun c4 => ?_)
  · have hf := it_f hf c4
    refine lv_aload_n hx hb dX5_refusalOfSheet_10 rfl (lv_at hl 1 rfl) ?_
    refine lv_iload_n hx hb dX5_refusalOfSheet_11 rfl (lv_at hl 2 rfl) ?_
    obtain ⟨r7, M6, hc5, hf⟩ := bd_some hf
    refine x_aftI hw (x_runV (rest := []) F hw hl.1 vw_RX5_95 (sS qb) rfl (c4_isThere b qb a2 hc5) rfl rfl (Nat.le_of_ble_eq_true rfl) ⟨Nat.le_of_ble_eq_true rfl, Nat.le_of_ble_eq_true rfl⟩ dX5_refusalOfSheet_12) (fun H locs hw => ?_)
    refine lv_if_eq (tgt := 22) hx hb dX5_refusalOfSheet_15 (by decide) (fun c8 => ?_) (fun c8 => ?_)
    · have hf := it_t hf c8
      refine lv_aload_n hx hb dX5_refusalOfSheet_22 rfl (lv_at hl 0 rfl) ?_
      refine lv_iconst (v := 1) hx hb dX5_refusalOfSheet_23 (by decide) ?_
      obtain ⟨r11, M10, hc9, hf⟩ := bd_some hf
      refine x_aftI hw (x_runV (rest := []) F hw hl.1 vw_RX5_68 (sP) rfl (c5_found 1 hc9) rfl rfl (Nat.le_of_ble_eq_true rfl) ⟨Nat.le_of_ble_eq_true rfl, Nat.le_of_ble_eq_true rfl⟩ dX5_refusalOfSheet_24) (fun H locs hw => ?_)
      exact x_iret F hw hr hk hf dX5_refusalOfSheet_27
    · have hf := it_f hf c8
      refine lv_iconst (v := 0) hx hb dX5_refusalOfSheet_18 (by decide) ?_
      refine lv_goto (tgt := 27) hx hb dX5_refusalOfSheet_19 (by decide) ?_
      exact x_iret F hw hr hk hf dX5_refusalOfSheet_27
  · have hf := it_t hf c4
    refine lv_iconst (v := (-1)) hx hb dX5_refusalOfSheet_8 (by decide) ?_
    exact x_iret F hw hr hk hf dX5_refusalOfSheet_9
theorem dX5_tell_0 : decode cX5_tell 0 = .ok (.lconst 1, 1) := by decide +kernel
theorem dX5_tell_1 : decode cX5_tell 1 = .ok (.lload_n 1, 1) := by decide +kernel
theorem dX5_tell_2 : decode cX5_tell 2 = .ok (.lload_n 3, 1) := by decide +kernel
theorem dX5_tell_3 : decode cX5_tell 3 = .ok (.invokestatic 311, 3) := by decide +kernel
theorem dX5_tell_6 : decode cX5_tell 6 = .ok (.invokestatic 315, 3) := by decide +kernel
theorem dX5_tell_9 : decode cX5_tell 9 = .ok (.lstore 5, 2) := by decide +kernel
theorem dX5_tell_11 : decode cX5_tell 11 = .ok (.aload_n 0, 1) := by decide +kernel
theorem dX5_tell_12 : decode cX5_tell 12 = .ok (.lload_n 1, 1) := by decide +kernel
theorem dX5_tell_13 : decode cX5_tell 13 = .ok (.lload 5, 2) := by decide +kernel
theorem dX5_tell_15 : decode cX5_tell 15 = .ok (.ldiv, 1) := by decide +kernel
theorem dX5_tell_16 : decode cX5_tell 16 = .ok (.putfield 57, 3) := by decide +kernel
theorem dX5_tell_19 : decode cX5_tell 19 = .ok (.aload_n 0, 1) := by decide +kernel
theorem dX5_tell_20 : decode cX5_tell 20 = .ok (.lload_n 3, 1) := by decide +kernel
theorem dX5_tell_21 : decode cX5_tell 21 = .ok (.lload 5, 2) := by decide +kernel
theorem dX5_tell_23 : decode cX5_tell 23 = .ok (.ldiv, 1) := by decide +kernel
theorem dX5_tell_24 : decode cX5_tell 24 = .ok (.putfield 61, 3) := by decide +kernel
theorem dX5_tell_27 : decode cX5_tell 27 = .ok (.return_, 1) := by decide +kernel
def p5_tell (a1 : Int64) (a2 : Int64) (M : SX) : Option SX :=
  bd (p5_commonDivisor a1 a2 M) (fun r3 M2 => lt_ (jmaxL 1 r3) (fun x4 => gd (nzL x4) ( lt_ (wJ M2 0 9 (a1 / x4)) (fun M6 => lt_ (wJ M6 0 10 (a2 / x4)) (fun M7 => some M7)))))
set_option maxHeartbeats 4000000 in
set_option maxRecDepth 100000 in
theorem c5_tell {l : Launch} {G : XG} {M' : SX} {M : SX} (a1 : Int64) (a2 : Int64) (hf : p5_tell a1 a2 M = some M') : Met l yX5_tell (.code yX5_tell cX5_tell 7 none :: TBL) (rmX 1) (xPc G ZX M [.ref (G.2.1 0), .long a1, .long a2]) (xQv G ZX M') 0 0 (inA G ZX) := by
  refine x_met (cc := cX5_tell) (by decide) (Nat.le_of_ble_eq_true rfl) ?_
  intro p e s m below meth c ls F hr hk hl hw
  have F : Fx G ZX p m c cX5_tell 7 s [.ref (G.2.1 0), .long a1, .long a2].toArray RX5 := F
  have hl : lv_has ls 7 [(0, .ref (G.2.1 0)), (1, .long a1), (3, .long a2)] := hl
  have hx := F.1.1
  have hb := F.1.2.1
  unfold p5_tell at hf
  refine lv_lconst (v := 1) hx hb dX5_tell_0 (by decide) ?_
  refine lv_lload_n hx hb dX5_tell_1 rfl (lv_at hl 1 rfl) ?_
  refine lv_lload_n hx hb dX5_tell_2 rfl (lv_at hl 2 rfl) ?_
  obtain ⟨r3, M2, hc1, hf⟩ := bd_some hf
  refine x_aftL hw (x_runS (rest := [.long 1]) F hw hl.1 sw_RX5_311 (c5_commonDivisor a1 a2 hc1) rfl rfl (Nat.le_of_ble_eq_true rfl) ⟨Nat.le_of_ble_eq_true rfl, Nat.le_of_ble_eq_true rfl⟩ dX5_tell_3) (fun H locs hw => ?_)
  refine x_maxL F hl.1 tw_331 tw_332 tw_6 tw_333 (Nat.le_of_ble_eq_true rfl) (Nat.le_of_ble_eq_true rfl) dX5_tell_6 ?_
  obtain ⟨x4, ex4, hf⟩ := lt_elim hf
  refine x_letL ex4 ?_
  refine lv_lstore (lv' := [(5, .long x4), (0, .ref (G.2.1 0)), (1, .long a1), (3, .long a2)]) hx hb dX5_tell_9 hl (by decide) rfl (fun ls hl => ?_)
  refine lv_aload_n hx hb dX5_tell_11 rfl (lv_at hl 1 rfl) ?_
  refine lv_lload_n hx hb dX5_tell_12 rfl (lv_at hl 2 rfl) ?_
  refine lv_lload hx hb dX5_tell_13 (lv_at hl 0 rfl) ?_
  obtain ⟨g5, hf⟩ := gd_some hf
  refine lv_ldiv hx hb dX5_tell_15 (nzL_ne g5) ?_
  refine s5_9 F hw tw_300 dX5_tell_16 (fun H locs hw => ?_)
  obtain ⟨M6, eM6, hf⟩ := lt_elim hf
  rw [← eM6] at hw
  refine lv_aload_n hx hb dX5_tell_19 rfl (lv_at hl 1 rfl) ?_
  refine lv_lload_n hx hb dX5_tell_20 rfl (lv_at hl 3 rfl) ?_
  refine lv_lload hx hb dX5_tell_21 (lv_at hl 0 rfl) ?_
  refine lv_ldiv hx hb dX5_tell_23 (nzL_ne g5) ?_
  refine s5_10 F hw tw_301 dX5_tell_24 (fun H locs hw => ?_)
  obtain ⟨M7, eM7, hf⟩ := lt_elim hf
  rw [← eM7] at hw
  exact x_vret F hw hr hk hf dX5_tell_27
theorem dX5_row_0 : decode cX5_row 0 = .ok (.aload_n 0, 1) := by decide +kernel
theorem dX5_row_1 : decode cX5_row 1 = .ok (.getfield 14, 3) := by decide +kernel
theorem dX5_row_4 : decode cX5_row 4 = .ok (.iload_n 1, 1) := by decide +kernel
theorem dX5_row_5 : decode cX5_row 5 = .ok (.invokevirtual 64, 3) := by decide +kernel
theorem dX5_row_8 : decode cX5_row 8 = .ok (.ifCond .eq 9, 3) := by decide +kernel
theorem dX5_row_11 : decode cX5_row 11 = .ok (.iload_n 2, 1) := by decide +kernel
theorem dX5_row_12 : decode cX5_row 12 = .ok (.bipush 40, 2) := by decide +kernel
theorem dX5_row_14 : decode cX5_row 14 = .ok (.if_icmp .le 5, 3) := by decide +kernel
theorem dX5_row_17 : decode cX5_row 17 = .ok (.iconst (-1), 1) := by decide +kernel
theorem dX5_row_18 : decode cX5_row 18 = .ok (.ireturn, 1) := by decide +kernel
theorem dX5_row_19 : decode cX5_row 19 = .ok (.iload_n 2, 1) := by decide +kernel
theorem dX5_row_20 : decode cX5_row 20 = .ok (.ifCond .ge 9, 3) := by decide +kernel
theorem dX5_row_23 : decode cX5_row 23 = .ok (.aload_n 0, 1) := by decide +kernel
theorem dX5_row_24 : decode cX5_row 24 = .ok (.iconst 5, 1) := by decide +kernel
theorem dX5_row_25 : decode cX5_row 25 = .ok (.invokevirtual 68, 3) := by decide +kernel
theorem dX5_row_28 : decode cX5_row 28 = .ok (.ireturn, 1) := by decide +kernel
theorem dX5_row_29 : decode cX5_row 29 = .ok (.aload_n 0, 1) := by decide +kernel
theorem dX5_row_30 : decode cX5_row 30 = .ok (.getfield 14, 3) := by decide +kernel
theorem dX5_row_33 : decode cX5_row 33 = .ok (.iload_n 1, 1) := by decide +kernel
theorem dX5_row_34 : decode cX5_row 34 = .ok (.iload_n 2, 1) := by decide +kernel
theorem dX5_row_35 : decode cX5_row 35 = .ok (.iconst 0, 1) := by decide +kernel
theorem dX5_row_36 : decode cX5_row 36 = .ok (.invokevirtual 72, 3) := by decide +kernel
theorem dX5_row_39 : decode cX5_row 39 = .ok (.iload_n 2, 1) := by decide +kernel
theorem dX5_row_40 : decode cX5_row 40 = .ok (.ireturn, 1) := by decide +kernel
def p5_row (a1 : Int32) (a2 : Int32) (M : SX) : Option (Int32 × SX) :=
  bd (p4_isNumber 1 a1 M) (fun r3 M2 => if r3 = 0 then (some ((-1), M2))
  else (if a2 ≤ (40 : Int32) then (if 0 ≤ a2 then (bv (p4_begin 1 a1 a2 0 M2) (fun M8 => some (a2, M8)))
  else (bd (p5_found 5 M2) (fun r11 M10 => some (r11, M10))))
  else (some ((-1), M2))))
set_option maxHeartbeats 4000000 in
set_option maxRecDepth 100000 in
theorem c5_row {l : Launch} {G : XG} {r : Int32} {M' : SX} {M : SX} (a1 : Int32) (a2 : Int32) (hf : p5_row a1 a2 M = some (r, M')) : Met l yX5_row (.code yX5_row cX5_row 3 (some .int) :: TBL) (rmX 2) (xPc G ZX M [.ref (G.2.1 0), .int a1, .int a2]) (xQi G ZX r M') 0 0 (inA G ZX) := by
  refine x_met (cc := cX5_row) (by decide) (Nat.le_of_ble_eq_true rfl) ?_
  intro p e s m below meth c ls F hr hk hl hw
  have F : Fx G ZX p m c cX5_row 3 s [.ref (G.2.1 0), .int a1, .int a2].toArray RX5 := F
  have hl : lv_has ls 3 [(0, .ref (G.2.1 0)), (1, .int a1), (2, .int a2)] := hl
  have hx := F.1.1
  have hb := F.1.2.1
  unfold p5_row at hf
  refine lv_aload_n hx hb dX5_row_0 rfl (lv_at hl 0 rfl) ?_
  refine g5_0 F hw tw_334 dX5_row_1 ?_
  refine lv_iload_n hx hb dX5_row_4 rfl (lv_at hl 1 rfl) ?_
  obtain ⟨r3, M2, hc1, hf⟩ := bd_some hf
  refine x_aftI hw (x_runV (rest := []) F hw hl.1 vw_RX5_64 (sS isS_1) rfl (c4_isNumber 1 isS_1 a1 hc1) rfl rfl (Nat.le_of_ble_eq_true rfl) ⟨Nat.le_of_ble_eq_true rfl, Nat.le_of_ble_eq_true rfl⟩ dX5_row_5) (fun H locs hw => ?_)
  refine lv_if_eq (tgt := 17) hx hb dX5_row_8 (by decide) (fun c4 => ?_) (fun c4 => ?_)
  · have hf := it_t hf c4
    refine lv_iconst (v := (-1)) hx hb dX5_row_17 (by decide) ?_
    exact x_iret F hw hr hk hf dX5_row_18
  · have hf := it_f hf c4
    refine lv_iload_n hx hb dX5_row_11 rfl (lv_at hl 2 rfl) ?_
    refine lv_bipush (v := 40) hx hb dX5_row_12 (by decide) ?_
    refine lv_icmp_le (tgt := 19) hx hb dX5_row_14 (by decide) (fun c5 => ?_) (fun c5 => ?_)
    · have hf := it_t hf c5
      refine lv_iload_n hx hb dX5_row_19 rfl (lv_at hl 2 rfl) ?_
      refine lv_if_ge (tgt := 29) hx hb dX5_row_20 (by decide) (fun c6 => ?_) (fun c6 => ?_)
      · have hf := it_t hf c6
        refine lv_aload_n hx hb dX5_row_29 rfl (lv_at hl 0 rfl) ?_
        refine g5_0 F hw tw_334 dX5_row_30 ?_
        refine lv_iload_n hx hb dX5_row_33 rfl (lv_at hl 1 rfl) ?_
        refine lv_iload_n hx hb dX5_row_34 rfl (lv_at hl 2 rfl) ?_
        refine lv_iconst (v := 0) hx hb dX5_row_35 (by decide) ?_
        obtain ⟨M8, hc7, hf⟩ := bv_some hf
        refine x_aftV hw (x_runV (rest := []) F hw hl.1 vw_RX5_72 (sS isS_1) rfl (c4_begin 1 isS_1 a1 a2 0 hc7) rfl rfl (Nat.le_of_ble_eq_true rfl) ⟨Nat.le_of_ble_eq_true rfl, Nat.le_of_ble_eq_true rfl⟩ dX5_row_36) (fun H locs hw => ?_)
        refine lv_iload_n hx hb dX5_row_39 rfl (lv_at hl 2 rfl) ?_
        exact x_iret F hw hr hk hf dX5_row_40
      · have hf := it_f hf c6
        refine lv_aload_n hx hb dX5_row_23 rfl (lv_at hl 0 rfl) ?_
        refine lv_iconst (v := 5) hx hb dX5_row_24 (by decide) ?_
        obtain ⟨r11, M10, hc9, hf⟩ := bd_some hf
        refine x_aftI hw (x_runV (rest := []) F hw hl.1 vw_RX5_68 (sP) rfl (c5_found 5 hc9) rfl rfl (Nat.le_of_ble_eq_true rfl) ⟨Nat.le_of_ble_eq_true rfl, Nat.le_of_ble_eq_true rfl⟩ dX5_row_25) (fun H locs hw => ?_)
        exact x_iret F hw hr hk hf dX5_row_28
    · have hf := it_f hf c5
      refine lv_iconst (v := (-1)) hx hb dX5_row_17 (by decide) ?_
      exact x_iret F hw hr hk hf dX5_row_18
theorem dX5_tear_0 : decode cX5_tear 0 = .ok (.aload_n 0, 1) := by decide +kernel
theorem dX5_tear_1 : decode cX5_tear 1 = .ok (.aload_n 0, 1) := by decide +kernel
theorem dX5_tear_2 : decode cX5_tear 2 = .ok (.getfield 14, 3) := by decide +kernel
theorem dX5_tear_5 : decode cX5_tear 5 = .ok (.iload_n 1, 1) := by decide +kernel
theorem dX5_tear_6 : decode cX5_tear 6 = .ok (.invokevirtual 87, 3) := by decide +kernel
theorem dX5_tear_9 : decode cX5_tear 9 = .ok (.istore_n 2, 1) := by decide +kernel
theorem dX5_tear_10 : decode cX5_tear 10 = .ok (.iload_n 2, 1) := by decide +kernel
theorem dX5_tear_11 : decode cX5_tear 11 = .ok (.ifCond .eq 5, 3) := by decide +kernel
theorem dX5_tear_14 : decode cX5_tear 14 = .ok (.iload_n 2, 1) := by decide +kernel
theorem dX5_tear_15 : decode cX5_tear 15 = .ok (.ireturn, 1) := by decide +kernel
theorem dX5_tear_16 : decode cX5_tear 16 = .ok (.aload_n 0, 1) := by decide +kernel
theorem dX5_tear_17 : decode cX5_tear 17 = .ok (.getfield 14, 3) := by decide +kernel
theorem dX5_tear_20 : decode cX5_tear 20 = .ok (.iload_n 1, 1) := by decide +kernel
theorem dX5_tear_21 : decode cX5_tear 21 = .ok (.invokevirtual 91, 3) := by decide +kernel
theorem dX5_tear_24 : decode cX5_tear 24 = .ok (.iconst 1, 1) := by decide +kernel
theorem dX5_tear_25 : decode cX5_tear 25 = .ok (.ireturn, 1) := by decide +kernel
def p5_tear (a1 : Int32) (M : SX) : Option (Int32 × SX) :=
  bd (p5_refusalOfSheet 1 a1 M) (fun r3 M2 => if r3 = 0 then (bv (p4_remove 1 a1 M2) (fun M6 => some (1, M6)))
  else (some (r3, M2)))
set_option maxHeartbeats 4000000 in
set_option maxRecDepth 100000 in
theorem c5_tear {l : Launch} {G : XG} {r : Int32} {M' : SX} {M : SX} (a1 : Int32) (hf : p5_tear a1 M = some (r, M')) : Met l yX5_tear (.code yX5_tear cX5_tear 3 (some .int) :: TBL) (rmX 2) (xPc G ZX M [.ref (G.2.1 0), .int a1]) (xQi G ZX r M') 0 0 (inA G ZX) := by
  refine x_met (cc := cX5_tear) (by decide) (Nat.le_of_ble_eq_true rfl) ?_
  intro p e s m below meth c ls F hr hk hl hw
  have F : Fx G ZX p m c cX5_tear 3 s [.ref (G.2.1 0), .int a1].toArray RX5 := F
  have hl : lv_has ls 3 [(0, .ref (G.2.1 0)), (1, .int a1)] := hl
  have hx := F.1.1
  have hb := F.1.2.1
  unfold p5_tear at hf
  refine lv_aload_n hx hb dX5_tear_0 rfl (lv_at hl 0 rfl) ?_
  refine lv_aload_n hx hb dX5_tear_1 rfl (lv_at hl 0 rfl) ?_
  refine g5_0 F hw tw_334 dX5_tear_2 ?_
  refine lv_iload_n hx hb dX5_tear_5 rfl (lv_at hl 1 rfl) ?_
  obtain ⟨r3, M2, hc1, hf⟩ := bd_some hf
  refine x_aftI hw (x_runV (rest := []) F hw hl.1 vw_RX5_87 (sP) rfl (c5_refusalOfSheet 1 isS_1 a1 hc1) rfl rfl (Nat.le_of_ble_eq_true rfl) ⟨Nat.le_of_ble_eq_true rfl, Nat.le_of_ble_eq_true rfl⟩ dX5_tear_6) (fun H locs hw => ?_)
  refine lv_istore_n (lv' := [(2, .int r3), (0, .ref (G.2.1 0)), (1, .int a1)]) hx hb dX5_tear_9 rfl hl (by decide) rfl (fun ls hl => ?_)
  refine lv_iload_n hx hb dX5_tear_10 rfl (lv_at hl 0 rfl) ?_
  refine lv_if_eq (tgt := 16) hx hb dX5_tear_11 (by decide) (fun c4 => ?_) (fun c4 => ?_)
  · have hf := it_t hf c4
    refine lv_aload_n hx hb dX5_tear_16 rfl (lv_at hl 1 rfl) ?_
    refine g5_0 F hw tw_334 dX5_tear_17 ?_
    refine lv_iload_n hx hb dX5_tear_20 rfl (lv_at hl 2 rfl) ?_
    obtain ⟨M6, hc5, hf⟩ := bv_some hf
    refine x_aftV hw (x_runV (rest := []) F hw hl.1 vw_RX5_91 (sS isS_1) rfl (c4_remove 1 isS_1 a1 hc5) rfl rfl (Nat.le_of_ble_eq_true rfl) ⟨Nat.le_of_ble_eq_true rfl, Nat.le_of_ble_eq_true rfl⟩ dX5_tear_21) (fun H locs hw => ?_)
    refine lv_iconst (v := 1) hx hb dX5_tear_24 (by decide) ?_
    exact x_iret F hw hr hk hf dX5_tear_25
  · have hf := it_f hf c4
    refine lv_iload_n hx hb dX5_tear_14 rfl (lv_at hl 0 rfl) ?_
    exact x_iret F hw hr hk hf dX5_tear_15
theorem dX5_copy_0 : decode cX5_copy 0 = .ok (.aload_n 0, 1) := by decide +kernel
theorem dX5_copy_1 : decode cX5_copy 1 = .ok (.getfield 14, 3) := by decide +kernel
theorem dX5_copy_4 : decode cX5_copy 4 = .ok (.iload_n 1, 1) := by decide +kernel
theorem dX5_copy_5 : decode cX5_copy 5 = .ok (.invokevirtual 64, 3) := by decide +kernel
theorem dX5_copy_8 : decode cX5_copy 8 = .ok (.ifCond .eq 14, 3) := by decide +kernel
theorem dX5_copy_11 : decode cX5_copy 11 = .ok (.aload_n 0, 1) := by decide +kernel
theorem dX5_copy_12 : decode cX5_copy 12 = .ok (.getfield 14, 3) := by decide +kernel
theorem dX5_copy_15 : decode cX5_copy 15 = .ok (.iload_n 3, 1) := by decide +kernel
theorem dX5_copy_16 : decode cX5_copy 16 = .ok (.invokevirtual 64, 3) := by decide +kernel
theorem dX5_copy_19 : decode cX5_copy 19 = .ok (.ifCond .ne 5, 3) := by decide +kernel
theorem dX5_copy_22 : decode cX5_copy 22 = .ok (.iconst (-1), 1) := by decide +kernel
theorem dX5_copy_23 : decode cX5_copy 23 = .ok (.ireturn, 1) := by decide +kernel
theorem dX5_copy_24 : decode cX5_copy 24 = .ok (.iload 5, 2) := by decide +kernel
theorem dX5_copy_26 : decode cX5_copy 26 = .ok (.ifCond .ge 9, 3) := by decide +kernel
theorem dX5_copy_29 : decode cX5_copy 29 = .ok (.aload_n 0, 1) := by decide +kernel
theorem dX5_copy_30 : decode cX5_copy 30 = .ok (.iconst 5, 1) := by decide +kernel
theorem dX5_copy_31 : decode cX5_copy 31 = .ok (.invokevirtual 68, 3) := by decide +kernel
theorem dX5_copy_34 : decode cX5_copy 34 = .ok (.ireturn, 1) := by decide +kernel
theorem dX5_copy_35 : decode cX5_copy 35 = .ok (.aload_n 0, 1) := by decide +kernel
theorem dX5_copy_36 : decode cX5_copy 36 = .ok (.getfield 14, 3) := by decide +kernel
theorem dX5_copy_39 : decode cX5_copy 39 = .ok (.iload_n 1, 1) := by decide +kernel
theorem dX5_copy_40 : decode cX5_copy 40 = .ok (.invokevirtual 95, 3) := by decide +kernel
theorem dX5_copy_43 : decode cX5_copy 43 = .ok (.ifCond .eq 14, 3) := by decide +kernel
theorem dX5_copy_46 : decode cX5_copy 46 = .ok (.aload_n 0, 1) := by decide +kernel
theorem dX5_copy_47 : decode cX5_copy 47 = .ok (.getfield 14, 3) := by decide +kernel
theorem dX5_copy_50 : decode cX5_copy 50 = .ok (.iload_n 3, 1) := by decide +kernel
theorem dX5_copy_51 : decode cX5_copy 51 = .ok (.invokevirtual 95, 3) := by decide +kernel
theorem dX5_copy_54 : decode cX5_copy 54 = .ok (.ifCond .ne 9, 3) := by decide +kernel
theorem dX5_copy_57 : decode cX5_copy 57 = .ok (.aload_n 0, 1) := by decide +kernel
theorem dX5_copy_58 : decode cX5_copy 58 = .ok (.iconst 1, 1) := by decide +kernel
theorem dX5_copy_59 : decode cX5_copy 59 = .ok (.invokevirtual 68, 3) := by decide +kernel
theorem dX5_copy_62 : decode cX5_copy 62 = .ok (.ireturn, 1) := by decide +kernel
theorem dX5_copy_63 : decode cX5_copy 63 = .ok (.aload_n 0, 1) := by decide +kernel
theorem dX5_copy_64 : decode cX5_copy 64 = .ok (.getfield 14, 3) := by decide +kernel
theorem dX5_copy_67 : decode cX5_copy 67 = .ok (.iload_n 1, 1) := by decide +kernel
theorem dX5_copy_68 : decode cX5_copy 68 = .ok (.iload_n 2, 1) := by decide +kernel
theorem dX5_copy_69 : decode cX5_copy 69 = .ok (.iload 5, 2) := by decide +kernel
theorem dX5_copy_71 : decode cX5_copy 71 = .ok (.invokevirtual 98, 3) := by decide +kernel
theorem dX5_copy_74 : decode cX5_copy 74 = .ok (.ifCond .eq 18, 3) := by decide +kernel
theorem dX5_copy_77 : decode cX5_copy 77 = .ok (.aload_n 0, 1) := by decide +kernel
theorem dX5_copy_78 : decode cX5_copy 78 = .ok (.getfield 14, 3) := by decide +kernel
theorem dX5_copy_81 : decode cX5_copy 81 = .ok (.iload_n 3, 1) := by decide +kernel
theorem dX5_copy_82 : decode cX5_copy 82 = .ok (.iload 4, 2) := by decide +kernel
theorem dX5_copy_84 : decode cX5_copy 84 = .ok (.iload 5, 2) := by decide +kernel
theorem dX5_copy_86 : decode cX5_copy 86 = .ok (.invokevirtual 98, 3) := by decide +kernel
theorem dX5_copy_89 : decode cX5_copy 89 = .ok (.ifCond .ne 9, 3) := by decide +kernel
theorem dX5_copy_92 : decode cX5_copy 92 = .ok (.aload_n 0, 1) := by decide +kernel
theorem dX5_copy_93 : decode cX5_copy 93 = .ok (.iconst 2, 1) := by decide +kernel
theorem dX5_copy_94 : decode cX5_copy 94 = .ok (.invokevirtual 68, 3) := by decide +kernel
theorem dX5_copy_97 : decode cX5_copy 97 = .ok (.ireturn, 1) := by decide +kernel
theorem dX5_copy_98 : decode cX5_copy 98 = .ok (.aload_n 0, 1) := by decide +kernel
theorem dX5_copy_99 : decode cX5_copy 99 = .ok (.getfield 14, 3) := by decide +kernel
theorem dX5_copy_102 : decode cX5_copy 102 = .ok (.iload_n 1, 1) := by decide +kernel
theorem dX5_copy_103 : decode cX5_copy 103 = .ok (.iload_n 2, 1) := by decide +kernel
theorem dX5_copy_104 : decode cX5_copy 104 = .ok (.iload_n 3, 1) := by decide +kernel
theorem dX5_copy_105 : decode cX5_copy 105 = .ok (.iload 4, 2) := by decide +kernel
theorem dX5_copy_107 : decode cX5_copy 107 = .ok (.iload 5, 2) := by decide +kernel
theorem dX5_copy_109 : decode cX5_copy 109 = .ok (.invokevirtual 102, 3) := by decide +kernel
theorem dX5_copy_112 : decode cX5_copy 112 = .ok (.iconst 1, 1) := by decide +kernel
theorem dX5_copy_113 : decode cX5_copy 113 = .ok (.ireturn, 1) := by decide +kernel
def p5_copy_57 (M : SX) : Option (Int32 × SX) :=
  bd (p5_found 1 M) (fun r3 M2 => some (r3, M2))
set_option maxHeartbeats 4000000 in
set_option maxRecDepth 100000 in
theorem w5_copy_57 {G : XG} {p : Program} {l : Launch} {e : Env} {s : State} {m : MethodId} {args : Array Value} {below : List Frame} {meth : Method} {c : Code} (F : Fx G ZX p m c cX5_copy 6 s args RX5) (hr : meth.sig.returnType = some .int) (hk : meth.locks = false) {r : Int32} {M' : SX} : ∀ (M : SX) (H : Heap) (locs : List Loc) (ls : Array Slot), Wld G ZX M s.heap H locs → lv_has ls 6 [(0, .ref (G.2.1 0))] → p5_copy_57 M = some (r, M') → WXi G ZX p l e 2 s m args below meth c r M' H locs (F0 m 57 ls []) := by
  intro M H locs ls hw hl hf
  have hx := F.1.1
  have hb := F.1.2.1
  unfold p5_copy_57 at hf
  refine lv_aload_n hx hb dX5_copy_57 rfl (lv_at hl 0 rfl) ?_
  refine lv_iconst (v := 1) hx hb dX5_copy_58 (by decide) ?_
  obtain ⟨r3, M2, hc1, hf⟩ := bd_some hf
  refine x_aftI hw (x_runV (rest := []) F hw hl.1 vw_RX5_68 (sP) rfl (c5_found 1 hc1) rfl rfl (Nat.le_of_ble_eq_true rfl) ⟨Nat.le_of_ble_eq_true rfl, Nat.le_of_ble_eq_true rfl⟩ dX5_copy_59) (fun H locs hw => ?_)
  exact x_iret F hw hr hk hf dX5_copy_62
def p5_copy_92 (M : SX) : Option (Int32 × SX) :=
  bd (p5_found 2 M) (fun r3 M2 => some (r3, M2))
set_option maxHeartbeats 4000000 in
set_option maxRecDepth 100000 in
theorem w5_copy_92 {G : XG} {p : Program} {l : Launch} {e : Env} {s : State} {m : MethodId} {args : Array Value} {below : List Frame} {meth : Method} {c : Code} (F : Fx G ZX p m c cX5_copy 6 s args RX5) (hr : meth.sig.returnType = some .int) (hk : meth.locks = false) {r : Int32} {M' : SX} : ∀ (M : SX) (H : Heap) (locs : List Loc) (ls : Array Slot), Wld G ZX M s.heap H locs → lv_has ls 6 [(0, .ref (G.2.1 0))] → p5_copy_92 M = some (r, M') → WXi G ZX p l e 2 s m args below meth c r M' H locs (F0 m 92 ls []) := by
  intro M H locs ls hw hl hf
  have hx := F.1.1
  have hb := F.1.2.1
  unfold p5_copy_92 at hf
  refine lv_aload_n hx hb dX5_copy_92 rfl (lv_at hl 0 rfl) ?_
  refine lv_iconst (v := 2) hx hb dX5_copy_93 (by decide) ?_
  obtain ⟨r3, M2, hc1, hf⟩ := bd_some hf
  refine x_aftI hw (x_runV (rest := []) F hw hl.1 vw_RX5_68 (sP) rfl (c5_found 2 hc1) rfl rfl (Nat.le_of_ble_eq_true rfl) ⟨Nat.le_of_ble_eq_true rfl, Nat.le_of_ble_eq_true rfl⟩ dX5_copy_94) (fun H locs hw => ?_)
  exact x_iret F hw hr hk hf dX5_copy_97
def p5_copy (a1 : Int32) (a2 : Int32) (a3 : Int32) (a4 : Int32) (a5 : Int32) (M : SX) : Option (Int32 × SX) :=
  bd (p4_isNumber 1 a1 M) (fun r3 M2 => if r3 = 0 then (some ((-1), M2))
  else (bd (p4_isNumber 1 a3 M2) (fun r7 M6 => if r7 = 0 then (some ((-1), M6))
  else (if 0 ≤ a5 then (bd (p4_isThere 1 a1 M6) (fun r12 M11 => if r12 = 0 then (p5_copy_57 M11)
  else (bd (p4_isThere 1 a3 M11) (fun r16 M15 => if r16 = 0 then (p5_copy_57 M15)
  else (bd (p4_hasPlaces 1 a1 a2 a5 M15) (fun r20 M19 => if r20 = 0 then (p5_copy_92 M19)
  else (bd (p4_hasPlaces 1 a3 a4 a5 M19) (fun r24 M23 => if r24 = 0 then (p5_copy_92 M23)
  else (bv (p4_move 1 a1 a2 a3 a4 a5 M23) (fun M27 => some (1, M27)))))))))))
  else (bd (p5_found 5 M6) (fun r30 M29 => some (r30, M29)))))))
set_option maxHeartbeats 4000000 in
set_option maxRecDepth 100000 in
theorem c5_copy {l : Launch} {G : XG} {r : Int32} {M' : SX} {M : SX} (a1 : Int32) (a2 : Int32) (a3 : Int32) (a4 : Int32) (a5 : Int32) (hf : p5_copy a1 a2 a3 a4 a5 M = some (r, M')) : Met l yX5_copy (.code yX5_copy cX5_copy 6 (some .int) :: TBL) (rmX 2) (xPc G ZX M [.ref (G.2.1 0), .int a1, .int a2, .int a3, .int a4, .int a5]) (xQi G ZX r M') 0 0 (inA G ZX) := by
  refine x_met (cc := cX5_copy) (by decide) (Nat.le_of_ble_eq_true rfl) ?_
  intro p e s m below meth c ls F hr hk hl hw
  have F : Fx G ZX p m c cX5_copy 6 s [.ref (G.2.1 0), .int a1, .int a2, .int a3, .int a4, .int a5].toArray RX5 := F
  have hl : lv_has ls 6 [(0, .ref (G.2.1 0)), (1, .int a1), (2, .int a2), (3, .int a3), (4, .int a4), (5, .int a5)] := hl
  have hx := F.1.1
  have hb := F.1.2.1
  unfold p5_copy at hf
  refine lv_aload_n hx hb dX5_copy_0 rfl (lv_at hl 0 rfl) ?_
  refine g5_0 F hw tw_334 dX5_copy_1 ?_
  refine lv_iload_n hx hb dX5_copy_4 rfl (lv_at hl 1 rfl) ?_
  obtain ⟨r3, M2, hc1, hf⟩ := bd_some hf
  refine x_aftI hw (x_runV (rest := []) F hw hl.1 vw_RX5_64 (sS isS_1) rfl (c4_isNumber 1 isS_1 a1 hc1) rfl rfl (Nat.le_of_ble_eq_true rfl) ⟨Nat.le_of_ble_eq_true rfl, Nat.le_of_ble_eq_true rfl⟩ dX5_copy_5) (fun H locs hw => ?_)
  refine lv_if_eq (tgt := 22) hx hb dX5_copy_8 (by decide) (fun c4 => ?_) (fun c4 => ?_)
  · have hf := it_t hf c4
    refine lv_iconst (v := (-1)) hx hb dX5_copy_22 (by decide) ?_
    exact x_iret F hw hr hk hf dX5_copy_23
  · have hf := it_f hf c4
    refine lv_aload_n hx hb dX5_copy_11 rfl (lv_at hl 0 rfl) ?_
    refine g5_0 F hw tw_334 dX5_copy_12 ?_
    refine lv_iload_n hx hb dX5_copy_15 rfl (lv_at hl 3 rfl) ?_
    obtain ⟨r7, M6, hc5, hf⟩ := bd_some hf
    refine x_aftI hw (x_runV (rest := []) F hw hl.1 vw_RX5_64 (sS isS_1) rfl (c4_isNumber 1 isS_1 a3 hc5) rfl rfl (Nat.le_of_ble_eq_true rfl) ⟨Nat.le_of_ble_eq_true rfl, Nat.le_of_ble_eq_true rfl⟩ dX5_copy_16) (fun H locs hw => ?_)
    refine lv_if_ne (tgt := 24) hx hb dX5_copy_19 (by decide) (fun c8 => ?_) (fun c8 => ?_)
    · have hf := it_f hf c8
      refine lv_iload hx hb dX5_copy_24 (lv_at hl 5 rfl) ?_
      refine lv_if_ge (tgt := 35) hx hb dX5_copy_26 (by decide) (fun c9 => ?_) (fun c9 => ?_)
      · have hf := it_t hf c9
        refine lv_aload_n hx hb dX5_copy_35 rfl (lv_at hl 0 rfl) ?_
        refine g5_0 F hw tw_334 dX5_copy_36 ?_
        refine lv_iload_n hx hb dX5_copy_39 rfl (lv_at hl 1 rfl) ?_
        obtain ⟨r12, M11, hc10, hf⟩ := bd_some hf
        refine x_aftI hw (x_runV (rest := []) F hw hl.1 vw_RX5_95 (sS isS_1) rfl (c4_isThere 1 isS_1 a1 hc10) rfl rfl (Nat.le_of_ble_eq_true rfl) ⟨Nat.le_of_ble_eq_true rfl, Nat.le_of_ble_eq_true rfl⟩ dX5_copy_40) (fun H locs hw => ?_)
        refine lv_if_eq (tgt := 57) hx hb dX5_copy_43 (by decide) (fun c13 => ?_) (fun c13 => ?_)
        · have hf := it_t hf c13
          exact w5_copy_57 F hr hk M11 _ _ ls hw (lv_sub hl [0] rfl) hf
        · have hf := it_f hf c13
          refine lv_aload_n hx hb dX5_copy_46 rfl (lv_at hl 0 rfl) ?_
          refine g5_0 F hw tw_334 dX5_copy_47 ?_
          refine lv_iload_n hx hb dX5_copy_50 rfl (lv_at hl 3 rfl) ?_
          obtain ⟨r16, M15, hc14, hf⟩ := bd_some hf
          refine x_aftI hw (x_runV (rest := []) F hw hl.1 vw_RX5_95 (sS isS_1) rfl (c4_isThere 1 isS_1 a3 hc14) rfl rfl (Nat.le_of_ble_eq_true rfl) ⟨Nat.le_of_ble_eq_true rfl, Nat.le_of_ble_eq_true rfl⟩ dX5_copy_51) (fun H locs hw => ?_)
          refine lv_if_ne (tgt := 63) hx hb dX5_copy_54 (by decide) (fun c17 => ?_) (fun c17 => ?_)
          · have hf := it_f hf c17
            refine lv_aload_n hx hb dX5_copy_63 rfl (lv_at hl 0 rfl) ?_
            refine g5_0 F hw tw_334 dX5_copy_64 ?_
            refine lv_iload_n hx hb dX5_copy_67 rfl (lv_at hl 1 rfl) ?_
            refine lv_iload_n hx hb dX5_copy_68 rfl (lv_at hl 2 rfl) ?_
            refine lv_iload hx hb dX5_copy_69 (lv_at hl 5 rfl) ?_
            obtain ⟨r20, M19, hc18, hf⟩ := bd_some hf
            refine x_aftI hw (x_runV (rest := []) F hw hl.1 vw_RX5_98 (sS isS_1) rfl (c4_hasPlaces 1 isS_1 a1 a2 a5 hc18) rfl rfl (Nat.le_of_ble_eq_true rfl) ⟨Nat.le_of_ble_eq_true rfl, Nat.le_of_ble_eq_true rfl⟩ dX5_copy_71) (fun H locs hw => ?_)
            refine lv_if_eq (tgt := 92) hx hb dX5_copy_74 (by decide) (fun c21 => ?_) (fun c21 => ?_)
            · have hf := it_t hf c21
              exact w5_copy_92 F hr hk M19 _ _ ls hw (lv_sub hl [0] rfl) hf
            · have hf := it_f hf c21
              refine lv_aload_n hx hb dX5_copy_77 rfl (lv_at hl 0 rfl) ?_
              refine g5_0 F hw tw_334 dX5_copy_78 ?_
              refine lv_iload_n hx hb dX5_copy_81 rfl (lv_at hl 3 rfl) ?_
              refine lv_iload hx hb dX5_copy_82 (lv_at hl 4 rfl) ?_
              refine lv_iload hx hb dX5_copy_84 (lv_at hl 5 rfl) ?_
              obtain ⟨r24, M23, hc22, hf⟩ := bd_some hf
              refine x_aftI hw (x_runV (rest := []) F hw hl.1 vw_RX5_98 (sS isS_1) rfl (c4_hasPlaces 1 isS_1 a3 a4 a5 hc22) rfl rfl (Nat.le_of_ble_eq_true rfl) ⟨Nat.le_of_ble_eq_true rfl, Nat.le_of_ble_eq_true rfl⟩ dX5_copy_86) (fun H locs hw => ?_)
              refine lv_if_ne (tgt := 98) hx hb dX5_copy_89 (by decide) (fun c25 => ?_) (fun c25 => ?_)
              · have hf := it_f hf c25
                refine lv_aload_n hx hb dX5_copy_98 rfl (lv_at hl 0 rfl) ?_
                refine g5_0 F hw tw_334 dX5_copy_99 ?_
                refine lv_iload_n hx hb dX5_copy_102 rfl (lv_at hl 1 rfl) ?_
                refine lv_iload_n hx hb dX5_copy_103 rfl (lv_at hl 2 rfl) ?_
                refine lv_iload_n hx hb dX5_copy_104 rfl (lv_at hl 3 rfl) ?_
                refine lv_iload hx hb dX5_copy_105 (lv_at hl 4 rfl) ?_
                refine lv_iload hx hb dX5_copy_107 (lv_at hl 5 rfl) ?_
                obtain ⟨M27, hc26, hf⟩ := bv_some hf
                refine x_aftV hw (x_runV (rest := []) F hw hl.1 vw_RX5_102 (sS isS_1) rfl (c4_move 1 isS_1 a1 a2 a3 a4 a5 hc26) rfl rfl (Nat.le_of_ble_eq_true rfl) ⟨Nat.le_of_ble_eq_true rfl, Nat.le_of_ble_eq_true rfl⟩ dX5_copy_109) (fun H locs hw => ?_)
                refine lv_iconst (v := 1) hx hb dX5_copy_112 (by decide) ?_
                exact x_iret F hw hr hk hf dX5_copy_113
              · have hf := it_t hf c25
                exact w5_copy_92 F hr hk M23 _ _ ls hw (lv_sub hl [0] rfl) hf
          · have hf := it_t hf c17
            exact w5_copy_57 F hr hk M15 _ _ ls hw (lv_sub hl [0] rfl) hf
      · have hf := it_f hf c9
        refine lv_aload_n hx hb dX5_copy_29 rfl (lv_at hl 0 rfl) ?_
        refine lv_iconst (v := 5) hx hb dX5_copy_30 (by decide) ?_
        obtain ⟨r30, M29, hc28, hf⟩ := bd_some hf
        refine x_aftI hw (x_runV (rest := []) F hw hl.1 vw_RX5_68 (sP) rfl (c5_found 5 hc28) rfl rfl (Nat.le_of_ble_eq_true rfl) ⟨Nat.le_of_ble_eq_true rfl, Nat.le_of_ble_eq_true rfl⟩ dX5_copy_31) (fun H locs hw => ?_)
        exact x_iret F hw hr hk hf dX5_copy_34
    · have hf := it_t hf c8
      refine lv_iconst (v := (-1)) hx hb dX5_copy_22 (by decide) ?_
      exact x_iret F hw hr hk hf dX5_copy_23
theorem dX5_mean_0 : decode cX5_mean 0 = .ok (.aload_n 0, 1) := by decide +kernel
theorem dX5_mean_1 : decode cX5_mean 1 = .ok (.aload_n 0, 1) := by decide +kernel
theorem dX5_mean_2 : decode cX5_mean 2 = .ok (.getfield 14, 3) := by decide +kernel
theorem dX5_mean_5 : decode cX5_mean 5 = .ok (.iload_n 1, 1) := by decide +kernel
theorem dX5_mean_6 : decode cX5_mean 6 = .ok (.invokevirtual 87, 3) := by decide +kernel
theorem dX5_mean_9 : decode cX5_mean 9 = .ok (.istore_n 2, 1) := by decide +kernel
theorem dX5_mean_10 : decode cX5_mean 10 = .ok (.iload_n 2, 1) := by decide +kernel
theorem dX5_mean_11 : decode cX5_mean 11 = .ok (.ifCond .eq 5, 3) := by decide +kernel
theorem dX5_mean_14 : decode cX5_mean 14 = .ok (.iload_n 2, 1) := by decide +kernel
theorem dX5_mean_15 : decode cX5_mean 15 = .ok (.ireturn, 1) := by decide +kernel
theorem dX5_mean_16 : decode cX5_mean 16 = .ok (.aload_n 0, 1) := by decide +kernel
theorem dX5_mean_17 : decode cX5_mean 17 = .ok (.getfield 14, 3) := by decide +kernel
theorem dX5_mean_20 : decode cX5_mean 20 = .ok (.iload_n 1, 1) := by decide +kernel
theorem dX5_mean_21 : decode cX5_mean 21 = .ok (.invokevirtual 106, 3) := by decide +kernel
theorem dX5_mean_24 : decode cX5_mean 24 = .ok (.istore_n 3, 1) := by decide +kernel
theorem dX5_mean_25 : decode cX5_mean 25 = .ok (.iload_n 3, 1) := by decide +kernel
theorem dX5_mean_26 : decode cX5_mean 26 = .ok (.ifCond .ne 9, 3) := by decide +kernel
theorem dX5_mean_29 : decode cX5_mean 29 = .ok (.aload_n 0, 1) := by decide +kernel
theorem dX5_mean_30 : decode cX5_mean 30 = .ok (.iconst 4, 1) := by decide +kernel
theorem dX5_mean_31 : decode cX5_mean 31 = .ok (.invokevirtual 68, 3) := by decide +kernel
theorem dX5_mean_34 : decode cX5_mean 34 = .ok (.ireturn, 1) := by decide +kernel
theorem dX5_mean_35 : decode cX5_mean 35 = .ok (.aload_n 0, 1) := by decide +kernel
theorem dX5_mean_36 : decode cX5_mean 36 = .ok (.aload_n 0, 1) := by decide +kernel
theorem dX5_mean_37 : decode cX5_mean 37 = .ok (.getfield 14, 3) := by decide +kernel
theorem dX5_mean_40 : decode cX5_mean 40 = .ok (.iload_n 1, 1) := by decide +kernel
theorem dX5_mean_41 : decode cX5_mean 41 = .ok (.invokevirtual 109, 3) := by decide +kernel
theorem dX5_mean_44 : decode cX5_mean 44 = .ok (.iload_n 3, 1) := by decide +kernel
theorem dX5_mean_45 : decode cX5_mean 45 = .ok (.i2l, 1) := by decide +kernel
theorem dX5_mean_46 : decode cX5_mean 46 = .ok (.ldiv, 1) := by decide +kernel
theorem dX5_mean_47 : decode cX5_mean 47 = .ok (.l2i, 1) := by decide +kernel
theorem dX5_mean_48 : decode cX5_mean 48 = .ok (.putfield 54, 3) := by decide +kernel
theorem dX5_mean_51 : decode cX5_mean 51 = .ok (.iconst 1, 1) := by decide +kernel
theorem dX5_mean_52 : decode cX5_mean 52 = .ok (.ireturn, 1) := by decide +kernel
def p5_mean (a1 : Int32) (M : SX) : Option (Int32 × SX) :=
  bd (p5_refusalOfSheet 1 a1 M) (fun r3 M2 => if r3 = 0 then (bd (p4_sizeOf 1 a1 M2) (fun r7 M6 => if r7 = 0 then (bd (p5_found 4 M6) (fun r16 M15 => some (r16, M15)))
  else (bd (p4_sumOf 1 a1 M6) (fun r11 M10 => gd (nzL (Int32.toInt64 r7)) ( lt_ (wI M10 0 8 (Int64.toInt32 (r11 / (Int32.toInt64 r7)))) (fun M13 => some (1, M13)))))))
  else (some (r3, M2)))
set_option maxHeartbeats 4000000 in
set_option maxRecDepth 100000 in
theorem c5_mean {l : Launch} {G : XG} {r : Int32} {M' : SX} {M : SX} (a1 : Int32) (hf : p5_mean a1 M = some (r, M')) : Met l yX5_mean (.code yX5_mean cX5_mean 4 (some .int) :: TBL) (rmX 2) (xPc G ZX M [.ref (G.2.1 0), .int a1]) (xQi G ZX r M') 0 0 (inA G ZX) := by
  refine x_met (cc := cX5_mean) (by decide) (Nat.le_of_ble_eq_true rfl) ?_
  intro p e s m below meth c ls F hr hk hl hw
  have F : Fx G ZX p m c cX5_mean 4 s [.ref (G.2.1 0), .int a1].toArray RX5 := F
  have hl : lv_has ls 4 [(0, .ref (G.2.1 0)), (1, .int a1)] := hl
  have hx := F.1.1
  have hb := F.1.2.1
  unfold p5_mean at hf
  refine lv_aload_n hx hb dX5_mean_0 rfl (lv_at hl 0 rfl) ?_
  refine lv_aload_n hx hb dX5_mean_1 rfl (lv_at hl 0 rfl) ?_
  refine g5_0 F hw tw_334 dX5_mean_2 ?_
  refine lv_iload_n hx hb dX5_mean_5 rfl (lv_at hl 1 rfl) ?_
  obtain ⟨r3, M2, hc1, hf⟩ := bd_some hf
  refine x_aftI hw (x_runV (rest := []) F hw hl.1 vw_RX5_87 (sP) rfl (c5_refusalOfSheet 1 isS_1 a1 hc1) rfl rfl (Nat.le_of_ble_eq_true rfl) ⟨Nat.le_of_ble_eq_true rfl, Nat.le_of_ble_eq_true rfl⟩ dX5_mean_6) (fun H locs hw => ?_)
  refine lv_istore_n (lv' := [(2, .int r3), (0, .ref (G.2.1 0)), (1, .int a1)]) hx hb dX5_mean_9 rfl hl (by decide) rfl (fun ls hl => ?_)
  refine lv_iload_n hx hb dX5_mean_10 rfl (lv_at hl 0 rfl) ?_
  refine lv_if_eq (tgt := 16) hx hb dX5_mean_11 (by decide) (fun c4 => ?_) (fun c4 => ?_)
  · have hf := it_t hf c4
    refine lv_aload_n hx hb dX5_mean_16 rfl (lv_at hl 1 rfl) ?_
    refine g5_0 F hw tw_334 dX5_mean_17 ?_
    refine lv_iload_n hx hb dX5_mean_20 rfl (lv_at hl 2 rfl) ?_
    obtain ⟨r7, M6, hc5, hf⟩ := bd_some hf
    refine x_aftI hw (x_runV (rest := []) F hw hl.1 vw_RX5_106 (sS isS_1) rfl (c4_sizeOf 1 isS_1 a1 hc5) rfl rfl (Nat.le_of_ble_eq_true rfl) ⟨Nat.le_of_ble_eq_true rfl, Nat.le_of_ble_eq_true rfl⟩ dX5_mean_21) (fun H locs hw => ?_)
    refine lv_istore_n (lv' := [(3, .int r7), (2, .int r3), (0, .ref (G.2.1 0)), (1, .int a1)]) hx hb dX5_mean_24 rfl hl (by decide) rfl (fun ls hl => ?_)
    refine lv_iload_n hx hb dX5_mean_25 rfl (lv_at hl 0 rfl) ?_
    refine lv_if_ne (tgt := 35) hx hb dX5_mean_26 (by decide) (fun c8 => ?_) (fun c8 => ?_)
    · have hf := it_f hf c8
      refine lv_aload_n hx hb dX5_mean_35 rfl (lv_at hl 2 rfl) ?_
      refine lv_aload_n hx hb dX5_mean_36 rfl (lv_at hl 2 rfl) ?_
      refine g5_0 F hw tw_334 dX5_mean_37 ?_
      refine lv_iload_n hx hb dX5_mean_40 rfl (lv_at hl 3 rfl) ?_
      obtain ⟨r11, M10, hc9, hf⟩ := bd_some hf
      refine x_aftL hw (x_runV (rest := [.ref (G.2.1 0)]) F hw hl.1 vw_RX5_109 (sS isS_1) rfl (c4_sumOf 1 isS_1 a1 hc9) rfl rfl (Nat.le_of_ble_eq_true rfl) ⟨Nat.le_of_ble_eq_true rfl, Nat.le_of_ble_eq_true rfl⟩ dX5_mean_41) (fun H locs hw => ?_)
      refine lv_iload_n hx hb dX5_mean_44 rfl (lv_at hl 0 rfl) ?_
      refine lv_i2l (v := Int32.toInt64 r7) hx hb dX5_mean_45 rfl ?_
      obtain ⟨g12, hf⟩ := gd_some hf
      refine lv_ldiv hx hb dX5_mean_46 (nzL_ne g12) ?_
      refine lv_l2i (v := Int64.toInt32 (r11 / (Int32.toInt64 r7))) hx hb dX5_mean_47 rfl ?_
      refine s5_8 F hw tw_299 dX5_mean_48 (fun H locs hw => ?_)
      obtain ⟨M13, eM13, hf⟩ := lt_elim hf
      rw [← eM13] at hw
      refine lv_iconst (v := 1) hx hb dX5_mean_51 (by decide) ?_
      exact x_iret F hw hr hk hf dX5_mean_52
    · have hf := it_t hf c8
      refine lv_aload_n hx hb dX5_mean_29 rfl (lv_at hl 2 rfl) ?_
      refine lv_iconst (v := 4) hx hb dX5_mean_30 (by decide) ?_
      obtain ⟨r16, M15, hc14, hf⟩ := bd_some hf
      refine x_aftI hw (x_runV (rest := []) F hw hl.1 vw_RX5_68 (sP) rfl (c5_found 4 hc14) rfl rfl (Nat.le_of_ble_eq_true rfl) ⟨Nat.le_of_ble_eq_true rfl, Nat.le_of_ble_eq_true rfl⟩ dX5_mean_31) (fun H locs hw => ?_)
      exact x_iret F hw hr hk hf dX5_mean_34
  · have hf := it_f hf c4
    refine lv_iload_n hx hb dX5_mean_14 rfl (lv_at hl 0 rfl) ?_
    exact x_iret F hw hr hk hf dX5_mean_15
theorem dX5_text_0 : decode cX5_text 0 = .ok (.aload_n 0, 1) := by decide +kernel
theorem dX5_text_1 : decode cX5_text 1 = .ok (.getfield 18, 3) := by decide +kernel
theorem dX5_text_4 : decode cX5_text 4 = .ok (.iload_n 1, 1) := by decide +kernel
theorem dX5_text_5 : decode cX5_text 5 = .ok (.invokevirtual 64, 3) := by decide +kernel
theorem dX5_text_8 : decode cX5_text 8 = .ok (.ifCond .eq 9, 3) := by decide +kernel
theorem dX5_text_11 : decode cX5_text 11 = .ok (.iload_n 2, 1) := by decide +kernel
theorem dX5_text_12 : decode cX5_text 12 = .ok (.bipush 60, 2) := by decide +kernel
theorem dX5_text_14 : decode cX5_text 14 = .ok (.if_icmp .le 5, 3) := by decide +kernel
theorem dX5_text_17 : decode cX5_text 17 = .ok (.iconst (-1), 1) := by decide +kernel
theorem dX5_text_18 : decode cX5_text 18 = .ok (.ireturn, 1) := by decide +kernel
theorem dX5_text_19 : decode cX5_text 19 = .ok (.iload_n 2, 1) := by decide +kernel
theorem dX5_text_20 : decode cX5_text 20 = .ok (.ifCond .ge 9, 3) := by decide +kernel
theorem dX5_text_23 : decode cX5_text 23 = .ok (.aload_n 0, 1) := by decide +kernel
theorem dX5_text_24 : decode cX5_text 24 = .ok (.iconst 5, 1) := by decide +kernel
theorem dX5_text_25 : decode cX5_text 25 = .ok (.invokevirtual 68, 3) := by decide +kernel
theorem dX5_text_28 : decode cX5_text 28 = .ok (.ireturn, 1) := by decide +kernel
theorem dX5_text_29 : decode cX5_text 29 = .ok (.aload_n 0, 1) := by decide +kernel
theorem dX5_text_30 : decode cX5_text 30 = .ok (.getfield 18, 3) := by decide +kernel
theorem dX5_text_33 : decode cX5_text 33 = .ok (.iload_n 1, 1) := by decide +kernel
theorem dX5_text_34 : decode cX5_text 34 = .ok (.iload_n 2, 1) := by decide +kernel
theorem dX5_text_35 : decode cX5_text 35 = .ok (.bipush 32, 2) := by decide +kernel
theorem dX5_text_37 : decode cX5_text 37 = .ok (.invokevirtual 72, 3) := by decide +kernel
theorem dX5_text_40 : decode cX5_text 40 = .ok (.iload_n 2, 1) := by decide +kernel
theorem dX5_text_41 : decode cX5_text 41 = .ok (.ireturn, 1) := by decide +kernel
def p5_text (a1 : Int32) (a2 : Int32) (M : SX) : Option (Int32 × SX) :=
  bd (p4_isNumber 4 a1 M) (fun r3 M2 => if r3 = 0 then (some ((-1), M2))
  else (if a2 ≤ (60 : Int32) then (if 0 ≤ a2 then (bv (p4_begin 4 a1 a2 32 M2) (fun M8 => some (a2, M8)))
  else (bd (p5_found 5 M2) (fun r11 M10 => some (r11, M10))))
  else (some ((-1), M2))))
set_option maxHeartbeats 4000000 in
set_option maxRecDepth 100000 in
theorem c5_text {l : Launch} {G : XG} {r : Int32} {M' : SX} {M : SX} (a1 : Int32) (a2 : Int32) (hf : p5_text a1 a2 M = some (r, M')) : Met l yX5_text (.code yX5_text cX5_text 3 (some .int) :: TBL) (rmX 2) (xPc G ZX M [.ref (G.2.1 0), .int a1, .int a2]) (xQi G ZX r M') 0 0 (inA G ZX) := by
  refine x_met (cc := cX5_text) (by decide) (Nat.le_of_ble_eq_true rfl) ?_
  intro p e s m below meth c ls F hr hk hl hw
  have F : Fx G ZX p m c cX5_text 3 s [.ref (G.2.1 0), .int a1, .int a2].toArray RX5 := F
  have hl : lv_has ls 3 [(0, .ref (G.2.1 0)), (1, .int a1), (2, .int a2)] := hl
  have hx := F.1.1
  have hb := F.1.2.1
  unfold p5_text at hf
  refine lv_aload_n hx hb dX5_text_0 rfl (lv_at hl 0 rfl) ?_
  refine g5_1 F hw tw_367 dX5_text_1 ?_
  refine lv_iload_n hx hb dX5_text_4 rfl (lv_at hl 1 rfl) ?_
  obtain ⟨r3, M2, hc1, hf⟩ := bd_some hf
  refine x_aftI hw (x_runV (rest := []) F hw hl.1 vw_RX5_64 (sS isS_4) rfl (c4_isNumber 4 isS_4 a1 hc1) rfl rfl (Nat.le_of_ble_eq_true rfl) ⟨Nat.le_of_ble_eq_true rfl, Nat.le_of_ble_eq_true rfl⟩ dX5_text_5) (fun H locs hw => ?_)
  refine lv_if_eq (tgt := 17) hx hb dX5_text_8 (by decide) (fun c4 => ?_) (fun c4 => ?_)
  · have hf := it_t hf c4
    refine lv_iconst (v := (-1)) hx hb dX5_text_17 (by decide) ?_
    exact x_iret F hw hr hk hf dX5_text_18
  · have hf := it_f hf c4
    refine lv_iload_n hx hb dX5_text_11 rfl (lv_at hl 2 rfl) ?_
    refine lv_bipush (v := 60) hx hb dX5_text_12 (by decide) ?_
    refine lv_icmp_le (tgt := 19) hx hb dX5_text_14 (by decide) (fun c5 => ?_) (fun c5 => ?_)
    · have hf := it_t hf c5
      refine lv_iload_n hx hb dX5_text_19 rfl (lv_at hl 2 rfl) ?_
      refine lv_if_ge (tgt := 29) hx hb dX5_text_20 (by decide) (fun c6 => ?_) (fun c6 => ?_)
      · have hf := it_t hf c6
        refine lv_aload_n hx hb dX5_text_29 rfl (lv_at hl 0 rfl) ?_
        refine g5_1 F hw tw_367 dX5_text_30 ?_
        refine lv_iload_n hx hb dX5_text_33 rfl (lv_at hl 1 rfl) ?_
        refine lv_iload_n hx hb dX5_text_34 rfl (lv_at hl 2 rfl) ?_
        refine lv_bipush (v := 32) hx hb dX5_text_35 (by decide) ?_
        obtain ⟨M8, hc7, hf⟩ := bv_some hf
        refine x_aftV hw (x_runV (rest := []) F hw hl.1 vw_RX5_72 (sS isS_4) rfl (c4_begin 4 isS_4 a1 a2 32 hc7) rfl rfl (Nat.le_of_ble_eq_true rfl) ⟨Nat.le_of_ble_eq_true rfl, Nat.le_of_ble_eq_true rfl⟩ dX5_text_37) (fun H locs hw => ?_)
        refine lv_iload_n hx hb dX5_text_40 rfl (lv_at hl 2 rfl) ?_
        exact x_iret F hw hr hk hf dX5_text_41
      · have hf := it_f hf c6
        refine lv_aload_n hx hb dX5_text_23 rfl (lv_at hl 0 rfl) ?_
        refine lv_iconst (v := 5) hx hb dX5_text_24 (by decide) ?_
        obtain ⟨r11, M10, hc9, hf⟩ := bd_some hf
        refine x_aftI hw (x_runV (rest := []) F hw hl.1 vw_RX5_68 (sP) rfl (c5_found 5 hc9) rfl rfl (Nat.le_of_ble_eq_true rfl) ⟨Nat.le_of_ble_eq_true rfl, Nat.le_of_ble_eq_true rfl⟩ dX5_text_25) (fun H locs hw => ?_)
        exact x_iret F hw hr hk hf dX5_text_28
    · have hf := it_f hf c5
      refine lv_iconst (v := (-1)) hx hb dX5_text_17 (by decide) ?_
      exact x_iret F hw hr hk hf dX5_text_18
theorem dX5_rings_0 : decode cX5_rings 0 = .ok (.iconst 0, 1) := by decide +kernel
theorem dX5_rings_1 : decode cX5_rings 1 = .ok (.istore_n 1, 1) := by decide +kernel
theorem dX5_rings_2 : decode cX5_rings 2 = .ok (.iconst 0, 1) := by decide +kernel
theorem dX5_rings_3 : decode cX5_rings 3 = .ok (.istore_n 2, 1) := by decide +kernel
theorem dX5_rings_4 : decode cX5_rings 4 = .ok (.iconst 0, 1) := by decide +kernel
theorem dX5_rings_5 : decode cX5_rings 5 = .ok (.istore_n 3, 1) := by decide +kernel
theorem dX5_rings_6 : decode cX5_rings 6 = .ok (.iload_n 3, 1) := by decide +kernel
theorem dX5_rings_7 : decode cX5_rings 7 = .ok (.aload_n 0, 1) := by decide +kernel
theorem dX5_rings_8 : decode cX5_rings 8 = .ok (.getfield 31, 3) := by decide +kernel
theorem dX5_rings_11 : decode cX5_rings 11 = .ok (.getfield 126, 3) := by decide +kernel
theorem dX5_rings_14 : decode cX5_rings 14 = .ok (.if_icmp .ge 41, 3) := by decide +kernel
theorem dX5_rings_17 : decode cX5_rings 17 = .ok (.aload_n 0, 1) := by decide +kernel
theorem dX5_rings_18 : decode cX5_rings 18 = .ok (.getfield 31, 3) := by decide +kernel
theorem dX5_rings_21 : decode cX5_rings 21 = .ok (.iload_n 3, 1) := by decide +kernel
theorem dX5_rings_22 : decode cX5_rings 22 = .ok (.invokevirtual 221, 3) := by decide +kernel
theorem dX5_rings_25 : decode cX5_rings 25 = .ok (.istore 4, 2) := by decide +kernel
theorem dX5_rings_27 : decode cX5_rings 27 = .ok (.iload_n 2, 1) := by decide +kernel
theorem dX5_rings_28 : decode cX5_rings 28 = .ok (.iload 4, 2) := by decide +kernel
theorem dX5_rings_30 : decode cX5_rings 30 = .ok (.ior, 1) := by decide +kernel
theorem dX5_rings_31 : decode cX5_rings 31 = .ok (.istore_n 2, 1) := by decide +kernel
theorem dX5_rings_32 : decode cX5_rings 32 = .ok (.iload 4, 2) := by decide +kernel
theorem dX5_rings_34 : decode cX5_rings 34 = .ok (.ifCond .eq 15, 3) := by decide +kernel
theorem dX5_rings_37 : decode cX5_rings 37 = .ok (.iload 4, 2) := by decide +kernel
theorem dX5_rings_39 : decode cX5_rings 39 = .ok (.invokestatic 224, 3) := by decide +kernel
theorem dX5_rings_42 : decode cX5_rings 42 = .ok (.iload_n 3, 1) := by decide +kernel
theorem dX5_rings_43 : decode cX5_rings 43 = .ok (.if_icmp .ne 6, 3) := by decide +kernel
theorem dX5_rings_46 : decode cX5_rings 46 = .ok (.iinc 1 1, 3) := by decide +kernel
theorem dX5_rings_49 : decode cX5_rings 49 = .ok (.iinc 3 1, 3) := by decide +kernel
theorem dX5_rings_52 : decode cX5_rings 52 = .ok (.goto (-46), 3) := by decide +kernel
theorem dX5_rings_55 : decode cX5_rings 55 = .ok (.aload_n 0, 1) := by decide +kernel
theorem dX5_rings_56 : decode cX5_rings 56 = .ok (.iload_n 2, 1) := by decide +kernel
theorem dX5_rings_57 : decode cX5_rings 57 = .ok (.putfield 54, 3) := by decide +kernel
theorem dX5_rings_60 : decode cX5_rings 60 = .ok (.iload_n 1, 1) := by decide +kernel
theorem dX5_rings_61 : decode cX5_rings 61 = .ok (.ireturn, 1) := by decide +kernel
def p5_rings_49 (k6 : Int32 → Int32 → Int32 → SX → Option (Int32 × SX)) (v1 : Int32) (v2 : Int32) (v3 : Int32) (M : SX) : Option (Int32 × SX) :=
  lt_ (v3 + 1) (fun x1 => k6 v1 v2 x1 M)
set_option maxHeartbeats 4000000 in
set_option maxRecDepth 100000 in
theorem w5_rings_49 {G : XG} {p : Program} {l : Launch} {e : Env} {s : State} {m : MethodId} {args : Array Value} {below : List Frame} {meth : Method} {c : Code} (F : Fx G ZX p m c cX5_rings 5 s args RX5) (hr : meth.sig.returnType = some .int) (hk : meth.locks = false) {r : Int32} {M' : SX} (k6 : Int32 → Int32 → Int32 → SX → Option (Int32 × SX)) (hk6 : ∀ (v1 : Int32) (v2 : Int32) (v3 : Int32) (M : SX) (H : Heap) (locs : List Loc) (ls : Array Slot), Wld G ZX M s.heap H locs → lv_has ls 5 [(0, .ref (G.2.1 0)), (1, .int v1), (2, .int v2), (3, .int v3)] → k6 v1 v2 v3 M = some (r, M') → WXi G ZX p l e 2 s m args below meth c r M' H locs (F0 m 6 ls [])) : ∀ (v1 : Int32) (v2 : Int32) (v3 : Int32) (M : SX) (H : Heap) (locs : List Loc) (ls : Array Slot), Wld G ZX M s.heap H locs → lv_has ls 5 [(0, .ref (G.2.1 0)), (1, .int v1), (2, .int v2), (3, .int v3)] → p5_rings_49 k6 v1 v2 v3 M = some (r, M') → WXi G ZX p l e 2 s m args below meth c r M' H locs (F0 m 49 ls []) := by
  intro v1 v2 v3 M H locs ls hw hl hf
  have hx := F.1.1
  have hb := F.1.2.1
  unfold p5_rings_49 at hf
  obtain ⟨x1, ex1, hf⟩ := lt_elim hf
  refine lv_iinc (v := x1) (lv' := [(3, .int x1), (0, .ref (G.2.1 0)), (1, .int v1), (2, .int v2)]) hx hb dX5_rings_49 hl (k := 3) rfl (by rw [ex1]; rfl) (by decide) rfl (fun ls hl => ?_)
  refine lv_goto (tgt := 6) hx hb dX5_rings_52 (by decide) ?_
  exact hk6 v1 v2 x1 M _ _ ls hw (lv_sub hl [1, 2, 3, 0] rfl) hf
def p5_rings_6 (k6 : Int32 → Int32 → Int32 → SX → Option (Int32 × SX)) (v1 : Int32) (v2 : Int32) (v3 : Int32) (M : SX) : Option (Int32 × SX) :=
  if (M.1 17 0) ≤ v3 then (lt_ (wI M 0 8 v2) (fun M2 => some (v1, M2)))
  else (bd (p1_ringOf 17 v3 M) (fun r5 M4 => lt_ (v2 ||| r5) (fun x6 => if r5 = 0 then (p5_rings_49 k6 v1 x6 v3 M4)
  else (bd (pj_ntz r5 M4) (fun r10 M9 => if r10 = v3 then (lt_ (v1 + 1) (fun x12 => p5_rings_49 k6 x12 x6 v3 M9))
  else (p5_rings_49 k6 v1 x6 v3 M9))))))
set_option maxHeartbeats 4000000 in
set_option maxRecDepth 100000 in
theorem w5_rings_6 {G : XG} {p : Program} {l : Launch} {e : Env} {s : State} {m : MethodId} {args : Array Value} {below : List Frame} {meth : Method} {c : Code} (F : Fx G ZX p m c cX5_rings 5 s args RX5) (hr : meth.sig.returnType = some .int) (hk : meth.locks = false) {r : Int32} {M' : SX} (k6 : Int32 → Int32 → Int32 → SX → Option (Int32 × SX)) (hk6 : ∀ (v1 : Int32) (v2 : Int32) (v3 : Int32) (M : SX) (H : Heap) (locs : List Loc) (ls : Array Slot), Wld G ZX M s.heap H locs → lv_has ls 5 [(0, .ref (G.2.1 0)), (1, .int v1), (2, .int v2), (3, .int v3)] → k6 v1 v2 v3 M = some (r, M') → WXi G ZX p l e 2 s m args below meth c r M' H locs (F0 m 6 ls [])) : ∀ (v1 : Int32) (v2 : Int32) (v3 : Int32) (M : SX) (H : Heap) (locs : List Loc) (ls : Array Slot), Wld G ZX M s.heap H locs → lv_has ls 5 [(0, .ref (G.2.1 0)), (1, .int v1), (2, .int v2), (3, .int v3)] → p5_rings_6 k6 v1 v2 v3 M = some (r, M') → WXi G ZX p l e 2 s m args below meth c r M' H locs (F0 m 6 ls []) := by
  intro v1 v2 v3 M H locs ls hw hl hf
  have hx := F.1.1
  have hb := F.1.2.1
  unfold p5_rings_6 at hf
  refine lv_iload_n hx hb dX5_rings_6 rfl (lv_at hl 3 rfl) ?_
  refine lv_aload_n hx hb dX5_rings_7 rfl (lv_at hl 0 rfl) ?_
  refine g5_3 F hw tw_306 dX5_rings_8 ?_
  refine g1_0 isL_17 F hw tw_305 dX5_rings_11 ?_
  refine lv_icmp_ge (tgt := 55) hx hb dX5_rings_14 (by decide) (fun c1 => ?_) (fun c1 => ?_)
  · have hf := it_t hf c1
    refine lv_aload_n hx hb dX5_rings_55 rfl (lv_at hl 0 rfl) ?_
    refine lv_iload_n hx hb dX5_rings_56 rfl (lv_at hl 2 rfl) ?_
    refine s5_8 F hw tw_299 dX5_rings_57 (fun H locs hw => ?_)
    obtain ⟨M2, eM2, hf⟩ := lt_elim hf
    rw [← eM2] at hw
    refine lv_iload_n hx hb dX5_rings_60 rfl (lv_at hl 1 rfl) ?_
    exact x_iret F hw hr hk hf dX5_rings_61
  · have hf := it_f hf c1
    refine lv_aload_n hx hb dX5_rings_17 rfl (lv_at hl 0 rfl) ?_
    refine g5_3 F hw tw_306 dX5_rings_18 ?_
    refine lv_iload_n hx hb dX5_rings_21 rfl (lv_at hl 3 rfl) ?_
    obtain ⟨r5, M4, hc3, hf⟩ := bd_some hf
    refine x_aftI hw (x_runV (rest := []) F hw hl.1 vw_RX5_221 (sL isL_17) rfl (c1_ringOf 17 isL_17 v3 hc3) rfl rfl (Nat.le_of_ble_eq_true rfl) ⟨Nat.le_of_ble_eq_true rfl, Nat.le_of_ble_eq_true rfl⟩ dX5_rings_22) (fun H locs hw => ?_)
    refine lv_istore (lv' := [(4, .int r5), (0, .ref (G.2.1 0)), (1, .int v1), (2, .int v2), (3, .int v3)]) hx hb dX5_rings_25 hl (by decide) rfl (fun ls hl => ?_)
    refine lv_iload_n hx hb dX5_rings_27 rfl (lv_at hl 3 rfl) ?_
    refine lv_iload hx hb dX5_rings_28 (lv_at hl 0 rfl) ?_
    refine lv_ior hx hb dX5_rings_30 ?_
    obtain ⟨x6, ex6, hf⟩ := lt_elim hf
    refine x_let ex6 ?_
    refine lv_istore_n (lv' := [(2, .int x6), (4, .int r5), (0, .ref (G.2.1 0)), (1, .int v1), (3, .int v3)]) hx hb dX5_rings_31 rfl hl (by decide) rfl (fun ls hl => ?_)
    refine lv_iload hx hb dX5_rings_32 (lv_at hl 1 rfl) ?_
    refine lv_if_eq (tgt := 49) hx hb dX5_rings_34 (by decide) (fun c7 => ?_) (fun c7 => ?_)
    · have hf := it_t hf c7
      exact w5_rings_49 F hr hk k6 hk6 v1 x6 v3 M4 _ _ ls hw (lv_sub hl [2, 3, 0, 4] rfl) hf
    · have hf := it_f hf c7
      refine lv_iload hx hb dX5_rings_37 (lv_at hl 1 rfl) ?_
      obtain ⟨r10, M9, hc8, hf⟩ := bd_some hf
      refine x_aftI hw (x_runS (rest := []) F hw hl.1 sw_RX5_224 (cj_ntz r5 hc8) rfl rfl (Nat.le_of_ble_eq_true rfl) ⟨Nat.le_of_ble_eq_true rfl, Nat.le_of_ble_eq_true rfl⟩ dX5_rings_39) (fun H locs hw => ?_)
      refine lv_iload_n hx hb dX5_rings_42 rfl (lv_at hl 4 rfl) ?_
      refine lv_icmp_ne (tgt := 49) hx hb dX5_rings_43 (by decide) (fun c11 => ?_) (fun c11 => ?_)
      · have hf := it_f hf c11
        exact w5_rings_49 F hr hk k6 hk6 v1 x6 v3 M9 _ _ ls hw (lv_sub hl [2, 3, 0, 4] rfl) hf
      · have hf := it_t hf c11
        obtain ⟨x12, ex12, hf⟩ := lt_elim hf
        refine lv_iinc (v := x12) (lv' := [(1, .int x12), (2, .int x6), (4, .int r5), (0, .ref (G.2.1 0)), (3, .int v3)]) hx hb dX5_rings_46 hl (k := 3) rfl (by rw [ex12]; rfl) (by decide) rfl (fun ls hl => ?_)
        exact w5_rings_49 F hr hk k6 hk6 x12 x6 v3 M9 _ _ ls hw (lv_sub hl [3, 0, 1, 4] rfl) hf
theorem z5_rings_6 {G : XG} {p : Program} {l : Launch} {e : Env} {s : State} {m : MethodId} {args : Array Value} {below : List Frame} {meth : Method} {c : Code} (F : Fx G ZX p m c cX5_rings 5 s args RX5) (hr : meth.sig.returnType = some .int) (hk : meth.locks = false) {r : Int32} {M' : SX} : ∀ n : Nat, ∀ (v1 : Int32) (v2 : Int32) (v3 : Int32) (M : SX) (H : Heap) (locs : List Loc) (ls : Array Slot), Wld G ZX M s.heap H locs → lv_has ls 5 [(0, .ref (G.2.1 0)), (1, .int v1), (2, .int v2), (3, .int v3)] → xlp3 p5_rings_6 n v1 v2 v3 M = some (r, M') → WXi G ZX p l e 2 s m args below meth c r M' H locs (F0 m 6 ls []) := by
  intro n
  induction n with
  | zero => intro _ _ _ _ _ _ _ _ _ hf; cases hf
  | succ n ih => exact w5_rings_6 F hr hk (xlp3 p5_rings_6 n) ih
def p5_rings (M : SX) : Option (Int32 × SX) :=
  xlp3 p5_rings_6 FU 0 0 0 M
set_option maxHeartbeats 4000000 in
set_option maxRecDepth 100000 in
theorem c5_rings {l : Launch} {G : XG} {r : Int32} {M' : SX} {M : SX} (hf : p5_rings M = some (r, M')) : Met l yX5_rings (.code yX5_rings cX5_rings 5 (some .int) :: TBL) (rmX 2) (xPc G ZX M [.ref (G.2.1 0)]) (xQi G ZX r M') 0 0 (inA G ZX) := by
  refine x_met (cc := cX5_rings) (by decide) (Nat.le_of_ble_eq_true rfl) ?_
  intro p e s m below meth c ls F hr hk hl hw
  have F : Fx G ZX p m c cX5_rings 5 s [.ref (G.2.1 0)].toArray RX5 := F
  have hl : lv_has ls 5 [(0, .ref (G.2.1 0))] := hl
  have hx := F.1.1
  have hb := F.1.2.1
  unfold p5_rings at hf
  refine lv_iconst (v := 0) hx hb dX5_rings_0 (by decide) ?_
  refine lv_istore_n (lv' := [(1, .int 0), (0, .ref (G.2.1 0))]) hx hb dX5_rings_1 rfl hl (by decide) rfl (fun ls hl => ?_)
  refine lv_iconst (v := 0) hx hb dX5_rings_2 (by decide) ?_
  refine lv_istore_n (lv' := [(2, .int 0), (1, .int 0), (0, .ref (G.2.1 0))]) hx hb dX5_rings_3 rfl hl (by decide) rfl (fun ls hl => ?_)
  refine lv_iconst (v := 0) hx hb dX5_rings_4 (by decide) ?_
  refine lv_istore_n (lv' := [(3, .int 0), (2, .int 0), (1, .int 0), (0, .ref (G.2.1 0))]) hx hb dX5_rings_5 rfl hl (by decide) rfl (fun ls hl => ?_)
  exact z5_rings_6 F hr hk FU 0 0 0 M _ _ ls hw (lv_sub hl [3, 2, 1, 0] rfl) hf
theorem dX5_refusalOfPlace_0 : decode cX5_refusalOfPlace 0 = .ok (.aload_n 0, 1) := by decide +kernel
theorem dX5_refusalOfPlace_1 : decode cX5_refusalOfPlace 1 = .ok (.aload_n 1, 1) := by decide +kernel
theorem dX5_refusalOfPlace_2 : decode cX5_refusalOfPlace 2 = .ok (.iload_n 2, 1) := by decide +kernel
theorem dX5_refusalOfPlace_3 : decode cX5_refusalOfPlace 3 = .ok (.invokevirtual 87, 3) := by decide +kernel
theorem dX5_refusalOfPlace_6 : decode cX5_refusalOfPlace 6 = .ok (.istore 4, 2) := by decide +kernel
theorem dX5_refusalOfPlace_8 : decode cX5_refusalOfPlace 8 = .ok (.iload 4, 2) := by decide +kernel
theorem dX5_refusalOfPlace_10 : decode cX5_refusalOfPlace 10 = .ok (.ifCond .eq 6, 3) := by decide +kernel
theorem dX5_refusalOfPlace_13 : decode cX5_refusalOfPlace 13 = .ok (.iload 4, 2) := by decide +kernel
theorem dX5_refusalOfPlace_15 : decode cX5_refusalOfPlace 15 = .ok (.ireturn, 1) := by decide +kernel
theorem dX5_refusalOfPlace_16 : decode cX5_refusalOfPlace 16 = .ok (.aload_n 1, 1) := by decide +kernel
theorem dX5_refusalOfPlace_17 : decode cX5_refusalOfPlace 17 = .ok (.iload_n 2, 1) := by decide +kernel
theorem dX5_refusalOfPlace_18 : decode cX5_refusalOfPlace 18 = .ok (.iload_n 3, 1) := by decide +kernel
theorem dX5_refusalOfPlace_19 : decode cX5_refusalOfPlace 19 = .ok (.iconst 1, 1) := by decide +kernel
theorem dX5_refusalOfPlace_20 : decode cX5_refusalOfPlace 20 = .ok (.invokevirtual 98, 3) := by decide +kernel
theorem dX5_refusalOfPlace_23 : decode cX5_refusalOfPlace 23 = .ok (.ifCond .eq 7, 3) := by decide +kernel
theorem dX5_refusalOfPlace_26 : decode cX5_refusalOfPlace 26 = .ok (.iconst 0, 1) := by decide +kernel
theorem dX5_refusalOfPlace_27 : decode cX5_refusalOfPlace 27 = .ok (.goto 8, 3) := by decide +kernel
theorem dX5_refusalOfPlace_30 : decode cX5_refusalOfPlace 30 = .ok (.aload_n 0, 1) := by decide +kernel
theorem dX5_refusalOfPlace_31 : decode cX5_refusalOfPlace 31 = .ok (.iconst 2, 1) := by decide +kernel
theorem dX5_refusalOfPlace_32 : decode cX5_refusalOfPlace 32 = .ok (.invokevirtual 68, 3) := by decide +kernel
theorem dX5_refusalOfPlace_35 : decode cX5_refusalOfPlace 35 = .ok (.ireturn, 1) := by decide +kernel
def p5_refusalOfPlace (b : Nat) (a2 : Int32) (a3 : Int32) (M : SX) : Option (Int32 × SX) :=
  bd (p5_refusalOfSheet b a2 M) (fun r3 M2 => if r3 = 0 then (bd (p4_hasPlaces b a2 a3 1 M2) (fun r7 M6 => if r7 = 0 then (bd (p5_found 2 M6) (fun r11 M10 => some (r11, M10)))
  else (some (0, M6))))
  else (some (r3, M2)))
set_option maxHeartbeats 4000000 in
set_option maxRecDepth 100000 in
theorem c5_refusalOfPlace {l : Launch} {G : XG} {r : Int32} {M' : SX} {M : SX} (b : Nat) (qb : isS b) (a2 : Int32) (a3 : Int32) (hf : p5_refusalOfPlace b a2 a3 M = some (r, M')) : Met l yX5_refusalOfPlace (.code yX5_refusalOfPlace cX5_refusalOfPlace 5 (some .int) :: TBL) (rmX 2) (xPc G ZX M [.ref (G.2.1 0), .ref (G.2.1 b), .int a2, .int a3]) (xQi G ZX r M') 0 0 (inA G ZX) := by
  refine x_met (cc := cX5_refusalOfPlace) (by decide) (Nat.le_of_ble_eq_true rfl) ?_
  intro p e s m below meth c ls F hr hk hl hw
  have F : Fx G ZX p m c cX5_refusalOfPlace 5 s [.ref (G.2.1 0), .ref (G.2.1 b), .int a2, .int a3].toArray RX5 := F
  have hl : lv_has ls 5 [(0, .ref (G.2.1 0)), (1, .ref (G.2.1 b)), (2, .int a2), (3, .int a3)] := hl
  have hx := F.1.1
  have hb := F.1.2.1
  unfold p5_refusalOfPlace at hf
  refine lv_aload_n hx hb dX5_refusalOfPlace_0 rfl (lv_at hl 0 rfl) ?_
  refine lv_aload_n hx hb dX5_refusalOfPlace_1 rfl (lv_at hl 1 rfl) ?_
  refine lv_iload_n hx hb dX5_refusalOfPlace_2 rfl (lv_at hl 2 rfl) ?_
  obtain ⟨r3, M2, hc1, hf⟩ := bd_some hf
  refine x_aftI hw (x_runV (rest := []) F hw hl.1 vw_RX5_87 (sP) rfl (c5_refusalOfSheet b qb a2 hc1) rfl rfl (Nat.le_of_ble_eq_true rfl) ⟨Nat.le_of_ble_eq_true rfl, Nat.le_of_ble_eq_true rfl⟩ dX5_refusalOfPlace_3) (fun H locs hw => ?_)
  refine lv_istore (lv' := [(4, .int r3), (0, .ref (G.2.1 0)), (1, .ref (G.2.1 b)), (2, .int a2), (3, .int a3)]) hx hb dX5_refusalOfPlace_6 hl (by decide) rfl (fun ls hl => ?_)
  refine lv_iload hx hb dX5_refusalOfPlace_8 (lv_at hl 0 rfl) ?_
  refine lv_if_eq (tgt := 16) hx hb dX5_refusalOfPlace_10 (by decide) (fun c4 => ?_) (fun c4 => ?_)
  · have hf := it_t hf c4
    refine lv_aload_n hx hb dX5_refusalOfPlace_16 rfl (lv_at hl 2 rfl) ?_
    refine lv_iload_n hx hb dX5_refusalOfPlace_17 rfl (lv_at hl 3 rfl) ?_
    refine lv_iload_n hx hb dX5_refusalOfPlace_18 rfl (lv_at hl 4 rfl) ?_
    refine lv_iconst (v := 1) hx hb dX5_refusalOfPlace_19 (by decide) ?_
    obtain ⟨r7, M6, hc5, hf⟩ := bd_some hf
    refine x_aftI hw (x_runV (rest := []) F hw hl.1 vw_RX5_98 (sS qb) rfl (c4_hasPlaces b qb a2 a3 1 hc5) rfl rfl (Nat.le_of_ble_eq_true rfl) ⟨Nat.le_of_ble_eq_true rfl, Nat.le_of_ble_eq_true rfl⟩ dX5_refusalOfPlace_20) (fun H locs hw => ?_)
    refine lv_if_eq (tgt := 30) hx hb dX5_refusalOfPlace_23 (by decide) (fun c8 => ?_) (fun c8 => ?_)
    · have hf := it_t hf c8
      refine lv_aload_n hx hb dX5_refusalOfPlace_30 rfl (lv_at hl 1 rfl) ?_
      refine lv_iconst (v := 2) hx hb dX5_refusalOfPlace_31 (by decide) ?_
      obtain ⟨r11, M10, hc9, hf⟩ := bd_some hf
      refine x_aftI hw (x_runV (rest := []) F hw hl.1 vw_RX5_68 (sP) rfl (c5_found 2 hc9) rfl rfl (Nat.le_of_ble_eq_true rfl) ⟨Nat.le_of_ble_eq_true rfl, Nat.le_of_ble_eq_true rfl⟩ dX5_refusalOfPlace_32) (fun H locs hw => ?_)
      exact x_iret F hw hr hk hf dX5_refusalOfPlace_35
    · have hf := it_f hf c8
      refine lv_iconst (v := 0) hx hb dX5_refusalOfPlace_26 (by decide) ?_
      refine lv_goto (tgt := 35) hx hb dX5_refusalOfPlace_27 (by decide) ?_
      exact x_iret F hw hr hk hf dX5_refusalOfPlace_35
  · have hf := it_f hf c4
    refine lv_iload hx hb dX5_refusalOfPlace_13 (lv_at hl 0 rfl) ?_
    exact x_iret F hw hr hk hf dX5_refusalOfPlace_15
