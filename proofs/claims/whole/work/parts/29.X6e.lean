theorem dX6_readsTicket_0 : decode cX6_readsTicket 0 = .ok (.aload_n 0, 1) := by decide +kernel
theorem dX6_readsTicket_1 : decode cX6_readsTicket 1 = .ok (.getfield 117, 3) := by decide +kernel
theorem dX6_readsTicket_4 : decode cX6_readsTicket 4 = .ok (.iconst 2, 1) := by decide +kernel
theorem dX6_readsTicket_5 : decode cX6_readsTicket 5 = .ok (.if_icmp .ge 5, 3) := by decide +kernel
theorem dX6_readsTicket_8 : decode cX6_readsTicket 8 = .ok (.iconst 0, 1) := by decide +kernel
theorem dX6_readsTicket_9 : decode cX6_readsTicket 9 = .ok (.ireturn, 1) := by decide +kernel
theorem dX6_readsTicket_10 : decode cX6_readsTicket 10 = .ok (.aload_n 0, 1) := by decide +kernel
theorem dX6_readsTicket_11 : decode cX6_readsTicket 11 = .ok (.dup, 1) := by decide +kernel
theorem dX6_readsTicket_12 : decode cX6_readsTicket 12 = .ok (.getfield 104, 3) := by decide +kernel
theorem dX6_readsTicket_15 : decode cX6_readsTicket 15 = .ok (.iconst 1, 1) := by decide +kernel
theorem dX6_readsTicket_16 : decode cX6_readsTicket 16 = .ok (.iadd, 1) := by decide +kernel
theorem dX6_readsTicket_17 : decode cX6_readsTicket 17 = .ok (.putfield 104, 3) := by decide +kernel
theorem dX6_readsTicket_20 : decode cX6_readsTicket 20 = .ok (.aload_n 0, 1) := by decide +kernel
theorem dX6_readsTicket_21 : decode cX6_readsTicket 21 = .ok (.iconst 0, 1) := by decide +kernel
theorem dX6_readsTicket_22 : decode cX6_readsTicket 22 = .ok (.aload_n 0, 1) := by decide +kernel
theorem dX6_readsTicket_23 : decode cX6_readsTicket 23 = .ok (.getfield 117, 3) := by decide +kernel
theorem dX6_readsTicket_26 : decode cX6_readsTicket 26 = .ok (.iconst 1, 1) := by decide +kernel
theorem dX6_readsTicket_27 : decode cX6_readsTicket 27 = .ok (.isub, 1) := by decide +kernel
theorem dX6_readsTicket_28 : decode cX6_readsTicket 28 = .ok (.bipush (-9), 2) := by decide +kernel
theorem dX6_readsTicket_30 : decode cX6_readsTicket 30 = .ok (.invokevirtual 123, 3) := by decide +kernel
theorem dX6_readsTicket_33 : decode cX6_readsTicket 33 = .ok (.istore_n 1, 1) := by decide +kernel
theorem dX6_readsTicket_34 : decode cX6_readsTicket 34 = .ok (.iload_n 1, 1) := by decide +kernel
theorem dX6_readsTicket_35 : decode cX6_readsTicket 35 = .ok (.bipush (-9), 2) := by decide +kernel
theorem dX6_readsTicket_37 : decode cX6_readsTicket 37 = .ok (.if_icmp .ne 5, 3) := by decide +kernel
theorem dX6_readsTicket_40 : decode cX6_readsTicket 40 = .ok (.iconst 0, 1) := by decide +kernel
theorem dX6_readsTicket_41 : decode cX6_readsTicket 41 = .ok (.ireturn, 1) := by decide +kernel
theorem dX6_readsTicket_42 : decode cX6_readsTicket 42 = .ok (.aload_n 0, 1) := by decide +kernel
theorem dX6_readsTicket_43 : decode cX6_readsTicket 43 = .ok (.getfield 35, 3) := by decide +kernel
theorem dX6_readsTicket_46 : decode cX6_readsTicket 46 = .ok (.iconst 5, 1) := by decide +kernel
theorem dX6_readsTicket_47 : decode cX6_readsTicket 47 = .ok (.iload_n 1, 1) := by decide +kernel
theorem dX6_readsTicket_48 : decode cX6_readsTicket 48 = .ok (.imul, 1) := by decide +kernel
theorem dX6_readsTicket_49 : decode cX6_readsTicket 49 = .ok (.iconst 3, 1) := by decide +kernel
theorem dX6_readsTicket_50 : decode cX6_readsTicket 50 = .ok (.iadd, 1) := by decide +kernel
theorem dX6_readsTicket_51 : decode cX6_readsTicket 51 = .ok (.iaload, 1) := by decide +kernel
theorem dX6_readsTicket_52 : decode cX6_readsTicket 52 = .ok (.bipush (-9), 2) := by decide +kernel
theorem dX6_readsTicket_54 : decode cX6_readsTicket 54 = .ok (.if_icmp .eq 15, 3) := by decide +kernel
theorem dX6_readsTicket_57 : decode cX6_readsTicket 57 = .ok (.aload_n 0, 1) := by decide +kernel
theorem dX6_readsTicket_58 : decode cX6_readsTicket 58 = .ok (.dup, 1) := by decide +kernel
theorem dX6_readsTicket_59 : decode cX6_readsTicket 59 = .ok (.getfield 104, 3) := by decide +kernel
theorem dX6_readsTicket_62 : decode cX6_readsTicket 62 = .ok (.iconst 1, 1) := by decide +kernel
theorem dX6_readsTicket_63 : decode cX6_readsTicket 63 = .ok (.isub, 1) := by decide +kernel
theorem dX6_readsTicket_64 : decode cX6_readsTicket 64 = .ok (.putfield 104, 3) := by decide +kernel
theorem dX6_readsTicket_67 : decode cX6_readsTicket 67 = .ok (.iconst 0, 1) := by decide +kernel
theorem dX6_readsTicket_68 : decode cX6_readsTicket 68 = .ok (.ireturn, 1) := by decide +kernel
theorem dX6_readsTicket_69 : decode cX6_readsTicket 69 = .ok (.aload_n 0, 1) := by decide +kernel
theorem dX6_readsTicket_70 : decode cX6_readsTicket 70 = .ok (.iconst 0, 1) := by decide +kernel
theorem dX6_readsTicket_71 : decode cX6_readsTicket 71 = .ok (.aload_n 0, 1) := by decide +kernel
theorem dX6_readsTicket_72 : decode cX6_readsTicket 72 = .ok (.getfield 117, 3) := by decide +kernel
theorem dX6_readsTicket_75 : decode cX6_readsTicket 75 = .ok (.iconst 1, 1) := by decide +kernel
theorem dX6_readsTicket_76 : decode cX6_readsTicket 76 = .ok (.isub, 1) := by decide +kernel
theorem dX6_readsTicket_77 : decode cX6_readsTicket 77 = .ok (.iload_n 1, 1) := by decide +kernel
theorem dX6_readsTicket_78 : decode cX6_readsTicket 78 = .ok (.invokevirtual 123, 3) := by decide +kernel
theorem dX6_readsTicket_81 : decode cX6_readsTicket 81 = .ok (.istore_n 2, 1) := by decide +kernel
theorem dX6_readsTicket_82 : decode cX6_readsTicket 82 = .ok (.iload_n 2, 1) := by decide +kernel
theorem dX6_readsTicket_83 : decode cX6_readsTicket 83 = .ok (.bipush (-9), 2) := by decide +kernel
theorem dX6_readsTicket_85 : decode cX6_readsTicket 85 = .ok (.if_icmp .ne 8, 3) := by decide +kernel
theorem dX6_readsTicket_88 : decode cX6_readsTicket 88 = .ok (.bipush (-9), 2) := by decide +kernel
theorem dX6_readsTicket_90 : decode cX6_readsTicket 90 = .ok (.goto 12, 3) := by decide +kernel
theorem dX6_readsTicket_93 : decode cX6_readsTicket 93 = .ok (.aload_n 0, 1) := by decide +kernel
theorem dX6_readsTicket_94 : decode cX6_readsTicket 94 = .ok (.iconst 1, 1) := by decide +kernel
theorem dX6_readsTicket_95 : decode cX6_readsTicket 95 = .ok (.bipush 9, 2) := by decide +kernel
theorem dX6_readsTicket_97 : decode cX6_readsTicket 97 = .ok (.bipush (-9), 2) := by decide +kernel
theorem dX6_readsTicket_99 : decode cX6_readsTicket 99 = .ok (.invokevirtual 123, 3) := by decide +kernel
theorem dX6_readsTicket_102 : decode cX6_readsTicket 102 = .ok (.istore_n 3, 1) := by decide +kernel
theorem dX6_readsTicket_103 : decode cX6_readsTicket 103 = .ok (.iload_n 3, 1) := by decide +kernel
theorem dX6_readsTicket_104 : decode cX6_readsTicket 104 = .ok (.bipush (-9), 2) := by decide +kernel
theorem dX6_readsTicket_106 : decode cX6_readsTicket 106 = .ok (.if_icmp .ne 5, 3) := by decide +kernel
theorem dX6_readsTicket_109 : decode cX6_readsTicket 109 = .ok (.iconst 0, 1) := by decide +kernel
theorem dX6_readsTicket_110 : decode cX6_readsTicket 110 = .ok (.ireturn, 1) := by decide +kernel
theorem dX6_readsTicket_111 : decode cX6_readsTicket 111 = .ok (.aload_n 0, 1) := by decide +kernel
theorem dX6_readsTicket_112 : decode cX6_readsTicket 112 = .ok (.getfield 35, 3) := by decide +kernel
theorem dX6_readsTicket_115 : decode cX6_readsTicket 115 = .ok (.iconst 5, 1) := by decide +kernel
theorem dX6_readsTicket_116 : decode cX6_readsTicket 116 = .ok (.iload_n 1, 1) := by decide +kernel
theorem dX6_readsTicket_117 : decode cX6_readsTicket 117 = .ok (.imul, 1) := by decide +kernel
theorem dX6_readsTicket_118 : decode cX6_readsTicket 118 = .ok (.iconst 3, 1) := by decide +kernel
theorem dX6_readsTicket_119 : decode cX6_readsTicket 119 = .ok (.iadd, 1) := by decide +kernel
theorem dX6_readsTicket_120 : decode cX6_readsTicket 120 = .ok (.iload_n 2, 1) := by decide +kernel
theorem dX6_readsTicket_121 : decode cX6_readsTicket 121 = .ok (.iastore, 1) := by decide +kernel
theorem dX6_readsTicket_122 : decode cX6_readsTicket 122 = .ok (.aload_n 0, 1) := by decide +kernel
theorem dX6_readsTicket_123 : decode cX6_readsTicket 123 = .ok (.getfield 35, 3) := by decide +kernel
theorem dX6_readsTicket_126 : decode cX6_readsTicket 126 = .ok (.iconst 5, 1) := by decide +kernel
theorem dX6_readsTicket_127 : decode cX6_readsTicket 127 = .ok (.iload_n 1, 1) := by decide +kernel
theorem dX6_readsTicket_128 : decode cX6_readsTicket 128 = .ok (.imul, 1) := by decide +kernel
theorem dX6_readsTicket_129 : decode cX6_readsTicket 129 = .ok (.iconst 4, 1) := by decide +kernel
theorem dX6_readsTicket_130 : decode cX6_readsTicket 130 = .ok (.iadd, 1) := by decide +kernel
theorem dX6_readsTicket_131 : decode cX6_readsTicket 131 = .ok (.iload_n 3, 1) := by decide +kernel
theorem dX6_readsTicket_132 : decode cX6_readsTicket 132 = .ok (.iastore, 1) := by decide +kernel
theorem dX6_readsTicket_133 : decode cX6_readsTicket 133 = .ok (.aload_n 0, 1) := by decide +kernel
theorem dX6_readsTicket_134 : decode cX6_readsTicket 134 = .ok (.dup, 1) := by decide +kernel
theorem dX6_readsTicket_135 : decode cX6_readsTicket 135 = .ok (.getfield 120, 3) := by decide +kernel
theorem dX6_readsTicket_138 : decode cX6_readsTicket 138 = .ok (.iconst 1, 1) := by decide +kernel
theorem dX6_readsTicket_139 : decode cX6_readsTicket 139 = .ok (.iadd, 1) := by decide +kernel
theorem dX6_readsTicket_140 : decode cX6_readsTicket 140 = .ok (.putfield 120, 3) := by decide +kernel
theorem dX6_readsTicket_143 : decode cX6_readsTicket 143 = .ok (.iconst 1, 1) := by decide +kernel
theorem dX6_readsTicket_144 : decode cX6_readsTicket 144 = .ok (.ireturn, 1) := by decide +kernel
def p6_readsTicket_102 (v1 : Int32) (v2 : Int32) (t0 : Int32) (M : SX) : Option (Int32 × SX) :=
  if t0 = (-9 : Int32) then (some (0, M))
  else (gd (bIn ((5 * v1) + 3) 30) ( lt_ (wI M 8 (Int32.toNatClampNeg ((5 * v1) + 3)) v2) (fun M3 => gd (bIn ((5 * v1) + 4) 30) ( lt_ (wI M3 8 (Int32.toNatClampNeg ((5 * v1) + 4)) t0) (fun M5 => lt_ (wI M5 0 17 ((M5.1 0 17) + 1)) (fun M6 => some (1, M6)))))))
set_option maxHeartbeats 4000000 in
set_option maxRecDepth 100000 in
theorem w6_readsTicket_102 {G : XG} {p : Program} {l : Launch} {e : Env} {s : State} {m : MethodId} {args : Array Value} {below : List Frame} {meth : Method} {c : Code} (F : Fx G ZY p m c cX6_readsTicket 4 s args RX6) (hr : meth.sig.returnType = some .boolean) (hk : meth.locks = false) {r : Int32} {M' : SX} : ∀ (v1 : Int32) (v2 : Int32) (t0 : Int32) (M : SX) (H : Heap) (locs : List Loc) (ls : Array Slot), Wld G ZY M s.heap H locs → lv_has ls 4 [(0, .ref (G.2.1 0)), (1, .int v1), (2, .int v2)] → p6_readsTicket_102 v1 v2 t0 M = some (r, M') → WXi G ZY p l e 2 s m args below meth c r M' H locs (F0 m 102 ls [.int t0]) := by
  intro v1 v2 t0 M H locs ls hw hl hf
  have hx := F.1.1
  have hb := F.1.2.1
  unfold p6_readsTicket_102 at hf
  refine lv_istore_n (lv' := [(3, .int t0), (0, .ref (G.2.1 0)), (1, .int v1), (2, .int v2)]) hx hb dX6_readsTicket_102 rfl hl (by decide) rfl (fun ls hl => ?_)
  refine lv_iload_n hx hb dX6_readsTicket_103 rfl (lv_at hl 0 rfl) ?_
  refine lv_bipush (v := (-9)) hx hb dX6_readsTicket_104 (by decide) ?_
  refine lv_icmp_ne (tgt := 111) hx hb dX6_readsTicket_106 (by decide) (fun c1 => ?_) (fun c1 => ?_)
  · have hf := it_f hf c1
    refine lv_aload_n hx hb dX6_readsTicket_111 rfl (lv_at hl 1 rfl) ?_
    refine g6_15 F hw tw_685 dX6_readsTicket_112 ?_
    refine lv_iconst (v := 5) hx hb dX6_readsTicket_115 (by decide) ?_
    refine lv_iload_n hx hb dX6_readsTicket_116 rfl (lv_at hl 2 rfl) ?_
    refine lv_imul hx hb dX6_readsTicket_117 ?_
    refine lv_iconst (v := 3) hx hb dX6_readsTicket_118 (by decide) ?_
    refine lv_iadd hx hb dX6_readsTicket_119 ?_
    refine lv_iload_n hx hb dX6_readsTicket_120 rfl (lv_at hl 3 rfl) ?_
    obtain ⟨g2, hf⟩ := gd_some hf
    refine x_iast F hw sM8 g2 dX6_readsTicket_121 (fun H locs hw => ?_)
    obtain ⟨M3, eM3, hf⟩ := lt_elim hf
    rw [← eM3] at hw
    refine lv_aload_n hx hb dX6_readsTicket_122 rfl (lv_at hl 1 rfl) ?_
    refine g6_15 F hw tw_685 dX6_readsTicket_123 ?_
    refine lv_iconst (v := 5) hx hb dX6_readsTicket_126 (by decide) ?_
    refine lv_iload_n hx hb dX6_readsTicket_127 rfl (lv_at hl 2 rfl) ?_
    refine lv_imul hx hb dX6_readsTicket_128 ?_
    refine lv_iconst (v := 4) hx hb dX6_readsTicket_129 (by decide) ?_
    refine lv_iadd hx hb dX6_readsTicket_130 ?_
    refine lv_iload_n hx hb dX6_readsTicket_131 rfl (lv_at hl 0 rfl) ?_
    obtain ⟨g4, hf⟩ := gd_some hf
    refine x_iast F hw sM8 g4 dX6_readsTicket_132 (fun H locs hw => ?_)
    obtain ⟨M5, eM5, hf⟩ := lt_elim hf
    rw [← eM5] at hw
    refine lv_aload_n hx hb dX6_readsTicket_133 rfl (lv_at hl 1 rfl) ?_
    refine lv_dup hx hb dX6_readsTicket_134 rfl ?_
    refine g6_17 F hw tw_690 dX6_readsTicket_135 ?_
    refine lv_iconst (v := 1) hx hb dX6_readsTicket_138 (by decide) ?_
    refine lv_iadd hx hb dX6_readsTicket_139 ?_
    refine s6_17 F hw tw_690 dX6_readsTicket_140 (fun H locs hw => ?_)
    obtain ⟨M6, eM6, hf⟩ := lt_elim hf
    rw [← eM6] at hw
    refine lv_iconst (v := 1) hx hb dX6_readsTicket_143 (by decide) ?_
    exact x_zret F hw hr hk (by decide) hf dX6_readsTicket_144
  · have hf := it_t hf c1
    refine lv_iconst (v := 0) hx hb dX6_readsTicket_109 (by decide) ?_
    exact x_zret F hw hr hk (by decide) hf dX6_readsTicket_110
def p6_readsTicket (M : SX) : Option (Int32 × SX) :=
  if (2 : Int32) ≤ (M.1 0 16) then (lt_ (wI M 0 13 ((M.1 0 13) + 1)) (fun M2 => bd (p6_figure 0 ((M2.1 0 16) - 1) (-9) M2) (fun r5 M4 => if r5 = (-9 : Int32) then (some (0, M4))
  else (gd (bIn ((5 * r5) + 3) 30) ( if (M4.1 8 (Int32.toNatClampNeg ((5 * r5) + 3))) = (-9 : Int32) then (bd (p6_figure 0 ((M4.1 0 16) - 1) r5 M4) (fun r11 M10 => if r11 = (-9 : Int32) then (p6_readsTicket_102 r5 r11 (-9) M10)
  else (bd (p6_figure 1 9 (-9) M10) (fun r15 M14 => p6_readsTicket_102 r5 r11 r15 M14))))
  else (lt_ (wI M4 0 13 ((M4.1 0 13) - 1)) (fun M16 => some (0, M16))))))))
  else (some (0, M))
set_option maxHeartbeats 4000000 in
set_option maxRecDepth 100000 in
theorem c6_readsTicket {l : Launch} {G : XG} {r : Int32} {M' : SX} {M : SX} (hf : p6_readsTicket M = some (r, M')) : Met l yX6_readsTicket (.code yX6_readsTicket cX6_readsTicket 4 (some .boolean) :: TBL) (rmX 2) (xPc G ZY M [.ref (G.2.1 0)]) (xQi G ZY r M') 0 0 (inA G ZY) := by
  refine x_met (cc := cX6_readsTicket) (by decide) (Nat.le_of_ble_eq_true rfl) ?_
  intro p e s m below meth c ls F hr hk hl hw
  have F : Fx G ZY p m c cX6_readsTicket 4 s [.ref (G.2.1 0)].toArray RX6 := F
  have hl : lv_has ls 4 [(0, .ref (G.2.1 0))] := hl
  have hx := F.1.1
  have hb := F.1.2.1
  unfold p6_readsTicket at hf
  refine lv_aload_n hx hb dX6_readsTicket_0 rfl (lv_at hl 0 rfl) ?_
  refine g6_16 F hw tw_684 dX6_readsTicket_1 ?_
  refine lv_iconst (v := 2) hx hb dX6_readsTicket_4 (by decide) ?_
  refine lv_icmp_ge (tgt := 10) hx hb dX6_readsTicket_5 (by decide) (fun c1 => ?_) (fun c1 => ?_)
  · have hf := it_t hf c1
    refine lv_aload_n hx hb dX6_readsTicket_10 rfl (lv_at hl 0 rfl) ?_
    refine lv_dup hx hb dX6_readsTicket_11 rfl ?_
    refine g6_13 F hw tw_609 dX6_readsTicket_12 ?_
    refine lv_iconst (v := 1) hx hb dX6_readsTicket_15 (by decide) ?_
    refine lv_iadd hx hb dX6_readsTicket_16 ?_
    refine s6_13 F hw tw_609 dX6_readsTicket_17 (fun H locs hw => ?_)
    obtain ⟨M2, eM2, hf⟩ := lt_elim hf
    rw [← eM2] at hw
    refine lv_aload_n hx hb dX6_readsTicket_20 rfl (lv_at hl 0 rfl) ?_
    refine lv_iconst (v := 0) hx hb dX6_readsTicket_21 (by decide) ?_
    refine lv_aload_n hx hb dX6_readsTicket_22 rfl (lv_at hl 0 rfl) ?_
    refine g6_16 F hw tw_684 dX6_readsTicket_23 ?_
    refine lv_iconst (v := 1) hx hb dX6_readsTicket_26 (by decide) ?_
    refine lv_isub hx hb dX6_readsTicket_27 ?_
    refine lv_bipush (v := (-9)) hx hb dX6_readsTicket_28 (by decide) ?_
    obtain ⟨r5, M4, hc3, hf⟩ := bd_some hf
    refine x_aftI hw (x_runV (rest := []) F hw hl.1 vw_RX6_123 (sM) rfl (c6_figure 0 ((M2.1 0 16) - 1) (-9) hc3) rfl rfl (Nat.le_of_ble_eq_true rfl) ⟨Nat.le_of_ble_eq_true rfl, Nat.le_of_ble_eq_true rfl⟩ dX6_readsTicket_30) (fun H locs hw => ?_)
    refine lv_istore_n (lv' := [(1, .int r5), (0, .ref (G.2.1 0))]) hx hb dX6_readsTicket_33 rfl hl (by decide) rfl (fun ls hl => ?_)
    refine lv_iload_n hx hb dX6_readsTicket_34 rfl (lv_at hl 0 rfl) ?_
    refine lv_bipush (v := (-9)) hx hb dX6_readsTicket_35 (by decide) ?_
    refine lv_icmp_ne (tgt := 42) hx hb dX6_readsTicket_37 (by decide) (fun c6 => ?_) (fun c6 => ?_)
    · have hf := it_f hf c6
      refine lv_aload_n hx hb dX6_readsTicket_42 rfl (lv_at hl 1 rfl) ?_
      refine g6_15 F hw tw_685 dX6_readsTicket_43 ?_
      refine lv_iconst (v := 5) hx hb dX6_readsTicket_46 (by decide) ?_
      refine lv_iload_n hx hb dX6_readsTicket_47 rfl (lv_at hl 0 rfl) ?_
      refine lv_imul hx hb dX6_readsTicket_48 ?_
      refine lv_iconst (v := 3) hx hb dX6_readsTicket_49 (by decide) ?_
      refine lv_iadd hx hb dX6_readsTicket_50 ?_
      obtain ⟨g7, hf⟩ := gd_some hf
      refine x_iald F hw sM8 g7 dX6_readsTicket_51 ?_
      refine lv_bipush (v := (-9)) hx hb dX6_readsTicket_52 (by decide) ?_
      refine lv_icmp_eq (tgt := 69) hx hb dX6_readsTicket_54 (by decide) (fun c8 => ?_) (fun c8 => ?_)
      · have hf := it_t hf c8
        refine lv_aload_n hx hb dX6_readsTicket_69 rfl (lv_at hl 1 rfl) ?_
        refine lv_iconst (v := 0) hx hb dX6_readsTicket_70 (by decide) ?_
        refine lv_aload_n hx hb dX6_readsTicket_71 rfl (lv_at hl 1 rfl) ?_
        refine g6_16 F hw tw_684 dX6_readsTicket_72 ?_
        refine lv_iconst (v := 1) hx hb dX6_readsTicket_75 (by decide) ?_
        refine lv_isub hx hb dX6_readsTicket_76 ?_
        refine lv_iload_n hx hb dX6_readsTicket_77 rfl (lv_at hl 0 rfl) ?_
        obtain ⟨r11, M10, hc9, hf⟩ := bd_some hf
        refine x_aftI hw (x_runV (rest := []) F hw hl.1 vw_RX6_123 (sM) rfl (c6_figure 0 ((M4.1 0 16) - 1) r5 hc9) rfl rfl (Nat.le_of_ble_eq_true rfl) ⟨Nat.le_of_ble_eq_true rfl, Nat.le_of_ble_eq_true rfl⟩ dX6_readsTicket_78) (fun H locs hw => ?_)
        refine lv_istore_n (lv' := [(2, .int r11), (1, .int r5), (0, .ref (G.2.1 0))]) hx hb dX6_readsTicket_81 rfl hl (by decide) rfl (fun ls hl => ?_)
        refine lv_iload_n hx hb dX6_readsTicket_82 rfl (lv_at hl 0 rfl) ?_
        refine lv_bipush (v := (-9)) hx hb dX6_readsTicket_83 (by decide) ?_
        refine lv_icmp_ne (tgt := 93) hx hb dX6_readsTicket_85 (by decide) (fun c12 => ?_) (fun c12 => ?_)
        · have hf := it_f hf c12
          refine lv_aload_n hx hb dX6_readsTicket_93 rfl (lv_at hl 2 rfl) ?_
          refine lv_iconst (v := 1) hx hb dX6_readsTicket_94 (by decide) ?_
          refine lv_bipush (v := 9) hx hb dX6_readsTicket_95 (by decide) ?_
          refine lv_bipush (v := (-9)) hx hb dX6_readsTicket_97 (by decide) ?_
          obtain ⟨r15, M14, hc13, hf⟩ := bd_some hf
          refine x_aftI hw (x_runV (rest := []) F hw hl.1 vw_RX6_123 (sM) rfl (c6_figure 1 9 (-9) hc13) rfl rfl (Nat.le_of_ble_eq_true rfl) ⟨Nat.le_of_ble_eq_true rfl, Nat.le_of_ble_eq_true rfl⟩ dX6_readsTicket_99) (fun H locs hw => ?_)
          exact w6_readsTicket_102 F hr hk r5 r11 r15 M14 _ _ ls hw (lv_sub hl [2, 1, 0] rfl) hf
        · have hf := it_t hf c12
          refine lv_bipush (v := (-9)) hx hb dX6_readsTicket_88 (by decide) ?_
          refine lv_goto (tgt := 102) hx hb dX6_readsTicket_90 (by decide) ?_
          exact w6_readsTicket_102 F hr hk r5 r11 (-9) M10 _ _ ls hw (lv_sub hl [2, 1, 0] rfl) hf
      · have hf := it_f hf c8
        refine lv_aload_n hx hb dX6_readsTicket_57 rfl (lv_at hl 1 rfl) ?_
        refine lv_dup hx hb dX6_readsTicket_58 rfl ?_
        refine g6_13 F hw tw_609 dX6_readsTicket_59 ?_
        refine lv_iconst (v := 1) hx hb dX6_readsTicket_62 (by decide) ?_
        refine lv_isub hx hb dX6_readsTicket_63 ?_
        refine s6_13 F hw tw_609 dX6_readsTicket_64 (fun H locs hw => ?_)
        obtain ⟨M16, eM16, hf⟩ := lt_elim hf
        rw [← eM16] at hw
        refine lv_iconst (v := 0) hx hb dX6_readsTicket_67 (by decide) ?_
        exact x_zret F hw hr hk (by decide) hf dX6_readsTicket_68
    · have hf := it_t hf c6
      refine lv_iconst (v := 0) hx hb dX6_readsTicket_40 (by decide) ?_
      exact x_zret F hw hr hk (by decide) hf dX6_readsTicket_41
  · have hf := it_f hf c1
    refine lv_iconst (v := 0) hx hb dX6_readsTicket_8 (by decide) ?_
    exact x_zret F hw hr hk (by decide) hf dX6_readsTicket_9
theorem dX6_dueTo_0 : decode cX6_dueTo 0 = .ok (.iconst 0, 1) := by decide +kernel
theorem dX6_dueTo_1 : decode cX6_dueTo 1 = .ok (.istore_n 3, 1) := by decide +kernel
theorem dX6_dueTo_2 : decode cX6_dueTo 2 = .ok (.iconst 0, 1) := by decide +kernel
theorem dX6_dueTo_3 : decode cX6_dueTo 3 = .ok (.istore 4, 2) := by decide +kernel
theorem dX6_dueTo_5 : decode cX6_dueTo 5 = .ok (.iload 4, 2) := by decide +kernel
theorem dX6_dueTo_7 : decode cX6_dueTo 7 = .ok (.aload_n 0, 1) := by decide +kernel
theorem dX6_dueTo_8 : decode cX6_dueTo 8 = .ok (.getfield 140, 3) := by decide +kernel
theorem dX6_dueTo_11 : decode cX6_dueTo 11 = .ok (.if_icmp .ge 37, 3) := by decide +kernel
theorem dX6_dueTo_14 : decode cX6_dueTo 14 = .ok (.iload_n 3, 1) := by decide +kernel
theorem dX6_dueTo_15 : decode cX6_dueTo 15 = .ok (.aload_n 0, 1) := by decide +kernel
theorem dX6_dueTo_16 : decode cX6_dueTo 16 = .ok (.getfield 7, 3) := by decide +kernel
theorem dX6_dueTo_19 : decode cX6_dueTo 19 = .ok (.bipush 7, 2) := by decide +kernel
theorem dX6_dueTo_21 : decode cX6_dueTo 21 = .ok (.iload 4, 2) := by decide +kernel
theorem dX6_dueTo_23 : decode cX6_dueTo 23 = .ok (.iadd, 1) := by decide +kernel
theorem dX6_dueTo_24 : decode cX6_dueTo 24 = .ok (.iaload, 1) := by decide +kernel
theorem dX6_dueTo_25 : decode cX6_dueTo 25 = .ok (.iload_n 1, 1) := by decide +kernel
theorem dX6_dueTo_26 : decode cX6_dueTo 26 = .ok (.if_icmp .ne 13, 3) := by decide +kernel
theorem dX6_dueTo_29 : decode cX6_dueTo 29 = .ok (.aload_n 0, 1) := by decide +kernel
theorem dX6_dueTo_30 : decode cX6_dueTo 30 = .ok (.iload 4, 2) := by decide +kernel
theorem dX6_dueTo_32 : decode cX6_dueTo 32 = .ok (.iload_n 2, 1) := by decide +kernel
theorem dX6_dueTo_33 : decode cX6_dueTo 33 = .ok (.invokevirtual 146, 3) := by decide +kernel
theorem dX6_dueTo_36 : decode cX6_dueTo 36 = .ok (.goto 4, 3) := by decide +kernel
theorem dX6_dueTo_39 : decode cX6_dueTo 39 = .ok (.iconst 0, 1) := by decide +kernel
theorem dX6_dueTo_40 : decode cX6_dueTo 40 = .ok (.iadd, 1) := by decide +kernel
theorem dX6_dueTo_41 : decode cX6_dueTo 41 = .ok (.istore_n 3, 1) := by decide +kernel
theorem dX6_dueTo_42 : decode cX6_dueTo 42 = .ok (.iinc 4 1, 3) := by decide +kernel
theorem dX6_dueTo_45 : decode cX6_dueTo 45 = .ok (.goto (-40), 3) := by decide +kernel
theorem dX6_dueTo_48 : decode cX6_dueTo 48 = .ok (.iload_n 3, 1) := by decide +kernel
theorem dX6_dueTo_49 : decode cX6_dueTo 49 = .ok (.ireturn, 1) := by decide +kernel
def p6_dueTo_40 (k5 : Int32 → Int32 → Int32 → Int32 → SX → Option (Int32 × SX)) (v1 : Int32) (v2 : Int32) (v4 : Int32) (t0 : Int32) (t1 : Int32) (M : SX) : Option (Int32 × SX) :=
  lt_ (t0 + t1) (fun x1 => lt_ (v4 + 1) (fun x2 => k5 v1 v2 x1 x2 M))
set_option maxHeartbeats 4000000 in
set_option maxRecDepth 100000 in
theorem w6_dueTo_40 {G : XG} {p : Program} {l : Launch} {e : Env} {s : State} {m : MethodId} {args : Array Value} {below : List Frame} {meth : Method} {c : Code} (F : Fx G ZY p m c cX6_dueTo 5 s args RX6) (hr : meth.sig.returnType = some .int) (hk : meth.locks = false) {r : Int32} {M' : SX} (k5 : Int32 → Int32 → Int32 → Int32 → SX → Option (Int32 × SX)) (hk5 : ∀ (v1 : Int32) (v2 : Int32) (v3 : Int32) (v4 : Int32) (M : SX) (H : Heap) (locs : List Loc) (ls : Array Slot), Wld G ZY M s.heap H locs → lv_has ls 5 [(0, .ref (G.2.1 0)), (1, .int v1), (2, .int v2), (3, .int v3), (4, .int v4)] → k5 v1 v2 v3 v4 M = some (r, M') → WXi G ZY p l e 2 s m args below meth c r M' H locs (F0 m 5 ls [])) : ∀ (v1 : Int32) (v2 : Int32) (v4 : Int32) (t0 : Int32) (t1 : Int32) (M : SX) (H : Heap) (locs : List Loc) (ls : Array Slot), Wld G ZY M s.heap H locs → lv_has ls 5 [(0, .ref (G.2.1 0)), (1, .int v1), (2, .int v2), (4, .int v4)] → p6_dueTo_40 k5 v1 v2 v4 t0 t1 M = some (r, M') → WXi G ZY p l e 2 s m args below meth c r M' H locs (F0 m 40 ls [.int t1, .int t0]) := by
  intro v1 v2 v4 t0 t1 M H locs ls hw hl hf
  have hx := F.1.1
  have hb := F.1.2.1
  unfold p6_dueTo_40 at hf
  refine lv_iadd hx hb dX6_dueTo_40 ?_
  obtain ⟨x1, ex1, hf⟩ := lt_elim hf
  refine x_let ex1 ?_
  refine lv_istore_n (lv' := [(3, .int x1), (0, .ref (G.2.1 0)), (1, .int v1), (2, .int v2), (4, .int v4)]) hx hb dX6_dueTo_41 rfl hl (by decide) rfl (fun ls hl => ?_)
  obtain ⟨x2, ex2, hf⟩ := lt_elim hf
  refine lv_iinc (v := x2) (lv' := [(4, .int x2), (3, .int x1), (0, .ref (G.2.1 0)), (1, .int v1), (2, .int v2)]) hx hb dX6_dueTo_42 hl (k := 4) rfl (by rw [ex2]; rfl) (by decide) rfl (fun ls hl => ?_)
  refine lv_goto (tgt := 5) hx hb dX6_dueTo_45 (by decide) ?_
  exact hk5 v1 v2 x1 x2 M _ _ ls hw (lv_sub hl [2, 3, 4, 1, 0] rfl) hf
def p6_dueTo_5 (k5 : Int32 → Int32 → Int32 → Int32 → SX → Option (Int32 × SX)) (v1 : Int32) (v2 : Int32) (v3 : Int32) (v4 : Int32) (M : SX) : Option (Int32 × SX) :=
  if (M.1 0 1) ≤ v4 then (some (v3, M))
  else (gd (bIn (7 + v4) 3964) ( if (M.1 1 (Int32.toNatClampNeg (7 + v4))) = v1 then (bd (p6_dueIn v4 v2 M) (fun r6 M5 => p6_dueTo_40 k5 v1 v2 v4 v3 r6 M5))
  else (p6_dueTo_40 k5 v1 v2 v4 v3 0 M)))
set_option maxHeartbeats 4000000 in
set_option maxRecDepth 100000 in
theorem w6_dueTo_5 {G : XG} {p : Program} {l : Launch} {e : Env} {s : State} {m : MethodId} {args : Array Value} {below : List Frame} {meth : Method} {c : Code} (F : Fx G ZY p m c cX6_dueTo 5 s args RX6) (hr : meth.sig.returnType = some .int) (hk : meth.locks = false) {r : Int32} {M' : SX} (k5 : Int32 → Int32 → Int32 → Int32 → SX → Option (Int32 × SX)) (hk5 : ∀ (v1 : Int32) (v2 : Int32) (v3 : Int32) (v4 : Int32) (M : SX) (H : Heap) (locs : List Loc) (ls : Array Slot), Wld G ZY M s.heap H locs → lv_has ls 5 [(0, .ref (G.2.1 0)), (1, .int v1), (2, .int v2), (3, .int v3), (4, .int v4)] → k5 v1 v2 v3 v4 M = some (r, M') → WXi G ZY p l e 2 s m args below meth c r M' H locs (F0 m 5 ls [])) : ∀ (v1 : Int32) (v2 : Int32) (v3 : Int32) (v4 : Int32) (M : SX) (H : Heap) (locs : List Loc) (ls : Array Slot), Wld G ZY M s.heap H locs → lv_has ls 5 [(0, .ref (G.2.1 0)), (1, .int v1), (2, .int v2), (3, .int v3), (4, .int v4)] → p6_dueTo_5 k5 v1 v2 v3 v4 M = some (r, M') → WXi G ZY p l e 2 s m args below meth c r M' H locs (F0 m 5 ls []) := by
  intro v1 v2 v3 v4 M H locs ls hw hl hf
  have hx := F.1.1
  have hb := F.1.2.1
  unfold p6_dueTo_5 at hf
  refine lv_iload hx hb dX6_dueTo_5 (lv_at hl 4 rfl) ?_
  refine lv_aload_n hx hb dX6_dueTo_7 rfl (lv_at hl 0 rfl) ?_
  refine g6_1 F hw tw_611 dX6_dueTo_8 ?_
  refine lv_icmp_ge (tgt := 48) hx hb dX6_dueTo_11 (by decide) (fun c1 => ?_) (fun c1 => ?_)
  · have hf := it_t hf c1
    refine lv_iload_n hx hb dX6_dueTo_48 rfl (lv_at hl 3 rfl) ?_
    exact x_iret F hw hr hk hf dX6_dueTo_49
  · have hf := it_f hf c1
    refine lv_iload_n hx hb dX6_dueTo_14 rfl (lv_at hl 3 rfl) ?_
    refine lv_aload_n hx hb dX6_dueTo_15 rfl (lv_at hl 0 rfl) ?_
    refine g6_0 F hw tw_610 dX6_dueTo_16 ?_
    refine lv_bipush (v := 7) hx hb dX6_dueTo_19 (by decide) ?_
    refine lv_iload hx hb dX6_dueTo_21 (lv_at hl 4 rfl) ?_
    refine lv_iadd hx hb dX6_dueTo_23 ?_
    obtain ⟨g2, hf⟩ := gd_some hf
    refine x_iald F hw sM1 g2 dX6_dueTo_24 ?_
    refine lv_iload_n hx hb dX6_dueTo_25 rfl (lv_at hl 1 rfl) ?_
    refine lv_icmp_ne (tgt := 39) hx hb dX6_dueTo_26 (by decide) (fun c3 => ?_) (fun c3 => ?_)
    · have hf := it_f hf c3
      refine lv_iconst (v := 0) hx hb dX6_dueTo_39 (by decide) ?_
      exact w6_dueTo_40 F hr hk k5 hk5 v1 v2 v4 v3 0 M _ _ ls hw (lv_sub hl [0, 1, 2, 4] rfl) hf
    · have hf := it_t hf c3
      refine lv_aload_n hx hb dX6_dueTo_29 rfl (lv_at hl 0 rfl) ?_
      refine lv_iload hx hb dX6_dueTo_30 (lv_at hl 4 rfl) ?_
      refine lv_iload_n hx hb dX6_dueTo_32 rfl (lv_at hl 2 rfl) ?_
      obtain ⟨r6, M5, hc4, hf⟩ := bd_some hf
      refine x_aftI hw (x_runV (rest := [.int v3]) F hw hl.1 vw_RX6_146 (sM) rfl (c6_dueIn v4 v2 hc4) rfl rfl (Nat.le_of_ble_eq_true rfl) ⟨Nat.le_of_ble_eq_true rfl, Nat.le_of_ble_eq_true rfl⟩ dX6_dueTo_33) (fun H locs hw => ?_)
      refine lv_goto (tgt := 40) hx hb dX6_dueTo_36 (by decide) ?_
      exact w6_dueTo_40 F hr hk k5 hk5 v1 v2 v4 v3 r6 M5 _ _ ls hw (lv_sub hl [0, 1, 2, 4] rfl) hf
theorem z6_dueTo_5 {G : XG} {p : Program} {l : Launch} {e : Env} {s : State} {m : MethodId} {args : Array Value} {below : List Frame} {meth : Method} {c : Code} (F : Fx G ZY p m c cX6_dueTo 5 s args RX6) (hr : meth.sig.returnType = some .int) (hk : meth.locks = false) {r : Int32} {M' : SX} : ∀ n : Nat, ∀ (v1 : Int32) (v2 : Int32) (v3 : Int32) (v4 : Int32) (M : SX) (H : Heap) (locs : List Loc) (ls : Array Slot), Wld G ZY M s.heap H locs → lv_has ls 5 [(0, .ref (G.2.1 0)), (1, .int v1), (2, .int v2), (3, .int v3), (4, .int v4)] → xlp4 p6_dueTo_5 n v1 v2 v3 v4 M = some (r, M') → WXi G ZY p l e 2 s m args below meth c r M' H locs (F0 m 5 ls []) := by
  intro n
  induction n with
  | zero => intro _ _ _ _ _ _ _ _ _ _ hf; cases hf
  | succ n ih => exact w6_dueTo_5 F hr hk (xlp4 p6_dueTo_5 n) ih
def p6_dueTo (a1 : Int32) (a2 : Int32) (M : SX) : Option (Int32 × SX) :=
  xlp4 p6_dueTo_5 FU a1 a2 0 0 M
set_option maxHeartbeats 4000000 in
set_option maxRecDepth 100000 in
theorem c6_dueTo {l : Launch} {G : XG} {r : Int32} {M' : SX} {M : SX} (a1 : Int32) (a2 : Int32) (hf : p6_dueTo a1 a2 M = some (r, M')) : Met l yX6_dueTo (.code yX6_dueTo cX6_dueTo 5 (some .int) :: TBL) (rmX 2) (xPc G ZY M [.ref (G.2.1 0), .int a1, .int a2]) (xQi G ZY r M') 0 0 (inA G ZY) := by
  refine x_met (cc := cX6_dueTo) (by decide) (Nat.le_of_ble_eq_true rfl) ?_
  intro p e s m below meth c ls F hr hk hl hw
  have F : Fx G ZY p m c cX6_dueTo 5 s [.ref (G.2.1 0), .int a1, .int a2].toArray RX6 := F
  have hl : lv_has ls 5 [(0, .ref (G.2.1 0)), (1, .int a1), (2, .int a2)] := hl
  have hx := F.1.1
  have hb := F.1.2.1
  unfold p6_dueTo at hf
  refine lv_iconst (v := 0) hx hb dX6_dueTo_0 (by decide) ?_
  refine lv_istore_n (lv' := [(3, .int 0), (0, .ref (G.2.1 0)), (1, .int a1), (2, .int a2)]) hx hb dX6_dueTo_1 rfl hl (by decide) rfl (fun ls hl => ?_)
  refine lv_iconst (v := 0) hx hb dX6_dueTo_2 (by decide) ?_
  refine lv_istore (lv' := [(4, .int 0), (3, .int 0), (0, .ref (G.2.1 0)), (1, .int a1), (2, .int a2)]) hx hb dX6_dueTo_3 hl (by decide) rfl (fun ls hl => ?_)
  exact z6_dueTo_5 F hr hk FU a1 a2 0 0 M _ _ ls hw (lv_sub hl [2, 3, 4, 1, 0] rfl) hf
theorem dX6_toldOf_0 : decode cX6_toldOf 0 = .ok (.iload_n 2, 1) := by decide +kernel
theorem dX6_toldOf_1 : decode cX6_toldOf 1 = .ok (.tableswitch 92 0 5 #[39, 46, 55, 65, 75, 82], 39) := by decide +kernel
theorem dX6_toldOf_40 : decode cX6_toldOf 40 = .ok (.aload_n 0, 1) := by decide +kernel
theorem dX6_toldOf_41 : decode cX6_toldOf 41 = .ok (.getfield 13, 3) := by decide +kernel
theorem dX6_toldOf_44 : decode cX6_toldOf 44 = .ok (.iload_n 1, 1) := by decide +kernel
theorem dX6_toldOf_45 : decode cX6_toldOf 45 = .ok (.iaload, 1) := by decide +kernel
theorem dX6_toldOf_46 : decode cX6_toldOf 46 = .ok (.ireturn, 1) := by decide +kernel
theorem dX6_toldOf_47 : decode cX6_toldOf 47 = .ok (.aload_n 0, 1) := by decide +kernel
theorem dX6_toldOf_48 : decode cX6_toldOf 48 = .ok (.getfield 7, 3) := by decide +kernel
theorem dX6_toldOf_51 : decode cX6_toldOf 51 = .ok (.iconst 1, 1) := by decide +kernel
theorem dX6_toldOf_52 : decode cX6_toldOf 52 = .ok (.iload_n 1, 1) := by decide +kernel
theorem dX6_toldOf_53 : decode cX6_toldOf 53 = .ok (.iadd, 1) := by decide +kernel
theorem dX6_toldOf_54 : decode cX6_toldOf 54 = .ok (.iaload, 1) := by decide +kernel
theorem dX6_toldOf_55 : decode cX6_toldOf 55 = .ok (.ireturn, 1) := by decide +kernel
theorem dX6_toldOf_56 : decode cX6_toldOf 56 = .ok (.aload_n 0, 1) := by decide +kernel
theorem dX6_toldOf_57 : decode cX6_toldOf 57 = .ok (.getfield 7, 3) := by decide +kernel
theorem dX6_toldOf_60 : decode cX6_toldOf 60 = .ok (.bipush 25, 2) := by decide +kernel
theorem dX6_toldOf_62 : decode cX6_toldOf 62 = .ok (.iload_n 1, 1) := by decide +kernel
theorem dX6_toldOf_63 : decode cX6_toldOf 63 = .ok (.iadd, 1) := by decide +kernel
theorem dX6_toldOf_64 : decode cX6_toldOf 64 = .ok (.iaload, 1) := by decide +kernel
theorem dX6_toldOf_65 : decode cX6_toldOf 65 = .ok (.ireturn, 1) := by decide +kernel
theorem dX6_toldOf_66 : decode cX6_toldOf 66 = .ok (.aload_n 0, 1) := by decide +kernel
theorem dX6_toldOf_67 : decode cX6_toldOf 67 = .ok (.getfield 7, 3) := by decide +kernel
theorem dX6_toldOf_70 : decode cX6_toldOf 70 = .ok (.bipush 7, 2) := by decide +kernel
theorem dX6_toldOf_72 : decode cX6_toldOf 72 = .ok (.iload_n 1, 1) := by decide +kernel
theorem dX6_toldOf_73 : decode cX6_toldOf 73 = .ok (.iadd, 1) := by decide +kernel
theorem dX6_toldOf_74 : decode cX6_toldOf 74 = .ok (.iaload, 1) := by decide +kernel
theorem dX6_toldOf_75 : decode cX6_toldOf 75 = .ok (.ireturn, 1) := by decide +kernel
theorem dX6_toldOf_76 : decode cX6_toldOf 76 = .ok (.aload_n 0, 1) := by decide +kernel
theorem dX6_toldOf_77 : decode cX6_toldOf 77 = .ok (.iload_n 1, 1) := by decide +kernel
theorem dX6_toldOf_78 : decode cX6_toldOf 78 = .ok (.iconst 0, 1) := by decide +kernel
theorem dX6_toldOf_79 : decode cX6_toldOf 79 = .ok (.invokevirtual 146, 3) := by decide +kernel
theorem dX6_toldOf_82 : decode cX6_toldOf 82 = .ok (.ireturn, 1) := by decide +kernel
theorem dX6_toldOf_83 : decode cX6_toldOf 83 = .ok (.aload_n 0, 1) := by decide +kernel
theorem dX6_toldOf_84 : decode cX6_toldOf 84 = .ok (.getfield 7, 3) := by decide +kernel
theorem dX6_toldOf_87 : decode cX6_toldOf 87 = .ok (.bipush 19, 2) := by decide +kernel
theorem dX6_toldOf_89 : decode cX6_toldOf 89 = .ok (.iload_n 1, 1) := by decide +kernel
theorem dX6_toldOf_90 : decode cX6_toldOf 90 = .ok (.iadd, 1) := by decide +kernel
theorem dX6_toldOf_91 : decode cX6_toldOf 91 = .ok (.iaload, 1) := by decide +kernel
theorem dX6_toldOf_92 : decode cX6_toldOf 92 = .ok (.ireturn, 1) := by decide +kernel
theorem dX6_toldOf_93 : decode cX6_toldOf 93 = .ok (.aload_n 0, 1) := by decide +kernel
theorem dX6_toldOf_94 : decode cX6_toldOf 94 = .ok (.iload_n 1, 1) := by decide +kernel
theorem dX6_toldOf_95 : decode cX6_toldOf 95 = .ok (.invokevirtual 149, 3) := by decide +kernel
theorem dX6_toldOf_98 : decode cX6_toldOf 98 = .ok (.ireturn, 1) := by decide +kernel
def p6_toldOf (a1 : Int32) (a2 : Int32) (M : SX) : Option (Int32 × SX) :=
  if a2 = 0 then (gd (bIn a1 6) ( some (M.1 2 (Int32.toNatClampNeg a1), M)))
  else (if a2 = 1 then (gd (bIn (1 + a1) 3964) ( some (M.1 1 (Int32.toNatClampNeg (1 + a1)), M)))
  else (if a2 = 2 then (gd (bIn (25 + a1) 3964) ( some (M.1 1 (Int32.toNatClampNeg (25 + a1)), M)))
  else (if a2 = 3 then (gd (bIn (7 + a1) 3964) ( some (M.1 1 (Int32.toNatClampNeg (7 + a1)), M)))
  else (if a2 = 4 then (bd (p6_dueIn a1 0 M) (fun r12 M11 => some (r12, M11)))
  else (if a2 = 5 then (gd (bIn (19 + a1) 3964) ( some (M.1 1 (Int32.toNatClampNeg (19 + a1)), M)))
  else (bd (p6_heldBy a1 M) (fun r17 M16 => some (r17, M16))))))))
set_option maxHeartbeats 4000000 in
set_option maxRecDepth 100000 in
theorem c6_toldOf {l : Launch} {G : XG} {r : Int32} {M' : SX} {M : SX} (a1 : Int32) (a2 : Int32) (hf : p6_toldOf a1 a2 M = some (r, M')) : Met l yX6_toldOf (.code yX6_toldOf cX6_toldOf 3 (some .int) :: TBL) (rmX 2) (xPc G ZY M [.ref (G.2.1 0), .int a1, .int a2]) (xQi G ZY r M') 0 0 (inA G ZY) := by
  refine x_met (cc := cX6_toldOf) (by decide) (Nat.le_of_ble_eq_true rfl) ?_
  intro p e s m below meth c ls F hr hk hl hw
  have F : Fx G ZY p m c cX6_toldOf 3 s [.ref (G.2.1 0), .int a1, .int a2].toArray RX6 := F
  have hl : lv_has ls 3 [(0, .ref (G.2.1 0)), (1, .int a1), (2, .int a2)] := hl
  have hx := F.1.1
  have hb := F.1.2.1
  unfold p6_toldOf at hf
  refine lv_iload_n hx hb dX6_toldOf_0 rfl (lv_at hl 2 rfl) ?_
  by_cases c1 : a2 = 0
  · have hf := it_t hf c1
    refine lv_tableIn (tgt := 40) hx hb dX6_toldOf_1 (by rw [c1]; decide) (by rw [c1]; decide) (by rw [c1]; rfl) (by decide) ?_
    refine lv_aload_n hx hb dX6_toldOf_40 rfl (lv_at hl 0 rfl) ?_
    refine g6_2 F hw tw_612 dX6_toldOf_41 ?_
    refine lv_iload_n hx hb dX6_toldOf_44 rfl (lv_at hl 1 rfl) ?_
    obtain ⟨g2, hf⟩ := gd_some hf
    refine x_iald F hw sM2 g2 dX6_toldOf_45 ?_
    exact x_iret F hw hr hk hf dX6_toldOf_46
  · have hf := it_f hf c1
    by_cases c3 : a2 = 1
    · have hf := it_t hf c3
      refine lv_tableIn (tgt := 47) hx hb dX6_toldOf_1 (by rw [c3]; decide) (by rw [c3]; decide) (by rw [c3]; rfl) (by decide) ?_
      refine lv_aload_n hx hb dX6_toldOf_47 rfl (lv_at hl 0 rfl) ?_
      refine g6_0 F hw tw_610 dX6_toldOf_48 ?_
      refine lv_iconst (v := 1) hx hb dX6_toldOf_51 (by decide) ?_
      refine lv_iload_n hx hb dX6_toldOf_52 rfl (lv_at hl 1 rfl) ?_
      refine lv_iadd hx hb dX6_toldOf_53 ?_
      obtain ⟨g4, hf⟩ := gd_some hf
      refine x_iald F hw sM1 g4 dX6_toldOf_54 ?_
      exact x_iret F hw hr hk hf dX6_toldOf_55
    · have hf := it_f hf c3
      by_cases c5 : a2 = 2
      · have hf := it_t hf c5
        refine lv_tableIn (tgt := 56) hx hb dX6_toldOf_1 (by rw [c5]; decide) (by rw [c5]; decide) (by rw [c5]; rfl) (by decide) ?_
        refine lv_aload_n hx hb dX6_toldOf_56 rfl (lv_at hl 0 rfl) ?_
        refine g6_0 F hw tw_610 dX6_toldOf_57 ?_
        refine lv_bipush (v := 25) hx hb dX6_toldOf_60 (by decide) ?_
        refine lv_iload_n hx hb dX6_toldOf_62 rfl (lv_at hl 1 rfl) ?_
        refine lv_iadd hx hb dX6_toldOf_63 ?_
        obtain ⟨g6, hf⟩ := gd_some hf
        refine x_iald F hw sM1 g6 dX6_toldOf_64 ?_
        exact x_iret F hw hr hk hf dX6_toldOf_65
      · have hf := it_f hf c5
        by_cases c7 : a2 = 3
        · have hf := it_t hf c7
          refine lv_tableIn (tgt := 66) hx hb dX6_toldOf_1 (by rw [c7]; decide) (by rw [c7]; decide) (by rw [c7]; rfl) (by decide) ?_
          refine lv_aload_n hx hb dX6_toldOf_66 rfl (lv_at hl 0 rfl) ?_
          refine g6_0 F hw tw_610 dX6_toldOf_67 ?_
          refine lv_bipush (v := 7) hx hb dX6_toldOf_70 (by decide) ?_
          refine lv_iload_n hx hb dX6_toldOf_72 rfl (lv_at hl 1 rfl) ?_
          refine lv_iadd hx hb dX6_toldOf_73 ?_
          obtain ⟨g8, hf⟩ := gd_some hf
          refine x_iald F hw sM1 g8 dX6_toldOf_74 ?_
          exact x_iret F hw hr hk hf dX6_toldOf_75
        · have hf := it_f hf c7
          by_cases c9 : a2 = 4
          · have hf := it_t hf c9
            refine lv_tableIn (tgt := 76) hx hb dX6_toldOf_1 (by rw [c9]; decide) (by rw [c9]; decide) (by rw [c9]; rfl) (by decide) ?_
            refine lv_aload_n hx hb dX6_toldOf_76 rfl (lv_at hl 0 rfl) ?_
            refine lv_iload_n hx hb dX6_toldOf_77 rfl (lv_at hl 1 rfl) ?_
            refine lv_iconst (v := 0) hx hb dX6_toldOf_78 (by decide) ?_
            obtain ⟨r12, M11, hc10, hf⟩ := bd_some hf
            refine x_aftI hw (x_runV (rest := []) F hw hl.1 vw_RX6_146 (sM) rfl (c6_dueIn a1 0 hc10) rfl rfl (Nat.le_of_ble_eq_true rfl) ⟨Nat.le_of_ble_eq_true rfl, Nat.le_of_ble_eq_true rfl⟩ dX6_toldOf_79) (fun H locs hw => ?_)
            exact x_iret F hw hr hk hf dX6_toldOf_82
          · have hf := it_f hf c9
            by_cases c13 : a2 = 5
            · have hf := it_t hf c13
              refine lv_tableIn (tgt := 83) hx hb dX6_toldOf_1 (by rw [c13]; decide) (by rw [c13]; decide) (by rw [c13]; rfl) (by decide) ?_
              refine lv_aload_n hx hb dX6_toldOf_83 rfl (lv_at hl 0 rfl) ?_
              refine g6_0 F hw tw_610 dX6_toldOf_84 ?_
              refine lv_bipush (v := 19) hx hb dX6_toldOf_87 (by decide) ?_
              refine lv_iload_n hx hb dX6_toldOf_89 rfl (lv_at hl 1 rfl) ?_
              refine lv_iadd hx hb dX6_toldOf_90 ?_
              obtain ⟨g14, hf⟩ := gd_some hf
              refine x_iald F hw sM1 g14 dX6_toldOf_91 ?_
              exact x_iret F hw hr hk hf dX6_toldOf_92
            · have hf := it_f hf c13
              have nc1 := x_ne (k := 0) (0) rfl c1
              have nc3 := x_ne (k := 1) (1) rfl c3
              have nc5 := x_ne (k := 2) (2) rfl c5
              have nc7 := x_ne (k := 3) (3) rfl c7
              have nc9 := x_ne (k := 4) (4) rfl c9
              have nc13 := x_ne (k := 5) (5) rfl c13
              refine lv_tableOut (tgt := 93) hx hb dX6_toldOf_1 (by omega) (by decide) ?_
              refine lv_aload_n hx hb dX6_toldOf_93 rfl (lv_at hl 0 rfl) ?_
              refine lv_iload_n hx hb dX6_toldOf_94 rfl (lv_at hl 1 rfl) ?_
              obtain ⟨r17, M16, hc15, hf⟩ := bd_some hf
              refine x_aftI hw (x_runV (rest := []) F hw hl.1 vw_RX6_149 (sM) rfl (c6_heldBy a1 hc15) rfl rfl (Nat.le_of_ble_eq_true rfl) ⟨Nat.le_of_ble_eq_true rfl, Nat.le_of_ble_eq_true rfl⟩ dX6_toldOf_95) (fun H locs hw => ?_)
              exact x_iret F hw hr hk hf dX6_toldOf_98
theorem dX6_canNow_0 : decode cX6_canNow 0 = .ok (.iconst 0, 1) := by decide +kernel
theorem dX6_canNow_1 : decode cX6_canNow 1 = .ok (.istore_n 1, 1) := by decide +kernel
theorem dX6_canNow_2 : decode cX6_canNow 2 = .ok (.iconst 0, 1) := by decide +kernel
theorem dX6_canNow_3 : decode cX6_canNow 3 = .ok (.istore_n 2, 1) := by decide +kernel
theorem dX6_canNow_4 : decode cX6_canNow 4 = .ok (.iload_n 2, 1) := by decide +kernel
theorem dX6_canNow_5 : decode cX6_canNow 5 = .ok (.aload_n 0, 1) := by decide +kernel
theorem dX6_canNow_6 : decode cX6_canNow 6 = .ok (.getfield 140, 3) := by decide +kernel
theorem dX6_canNow_9 : decode cX6_canNow 9 = .ok (.if_icmp .ge 44, 3) := by decide +kernel
theorem dX6_canNow_12 : decode cX6_canNow 12 = .ok (.iload_n 1, 1) := by decide +kernel
theorem dX6_canNow_13 : decode cX6_canNow 13 = .ok (.aload_n 0, 1) := by decide +kernel
theorem dX6_canNow_14 : decode cX6_canNow 14 = .ok (.iload_n 2, 1) := by decide +kernel
theorem dX6_canNow_15 : decode cX6_canNow 15 = .ok (.invokevirtual 143, 3) := by decide +kernel
theorem dX6_canNow_18 : decode cX6_canNow 18 = .ok (.ifCond .eq 26, 3) := by decide +kernel
theorem dX6_canNow_21 : decode cX6_canNow 21 = .ok (.aload_n 0, 1) := by decide +kernel
theorem dX6_canNow_22 : decode cX6_canNow 22 = .ok (.getfield 7, 3) := by decide +kernel
theorem dX6_canNow_25 : decode cX6_canNow 25 = .ok (.iconst 1, 1) := by decide +kernel
theorem dX6_canNow_26 : decode cX6_canNow 26 = .ok (.iload_n 2, 1) := by decide +kernel
theorem dX6_canNow_27 : decode cX6_canNow 27 = .ok (.iadd, 1) := by decide +kernel
theorem dX6_canNow_28 : decode cX6_canNow 28 = .ok (.iaload, 1) := by decide +kernel
theorem dX6_canNow_29 : decode cX6_canNow 29 = .ok (.aload_n 0, 1) := by decide +kernel
theorem dX6_canNow_30 : decode cX6_canNow 30 = .ok (.iload_n 2, 1) := by decide +kernel
theorem dX6_canNow_31 : decode cX6_canNow 31 = .ok (.iconst 0, 1) := by decide +kernel
theorem dX6_canNow_32 : decode cX6_canNow 32 = .ok (.invokevirtual 146, 3) := by decide +kernel
theorem dX6_canNow_35 : decode cX6_canNow 35 = .ok (.if_icmp .lt 9, 3) := by decide +kernel
theorem dX6_canNow_38 : decode cX6_canNow 38 = .ok (.iconst 1, 1) := by decide +kernel
theorem dX6_canNow_39 : decode cX6_canNow 39 = .ok (.iload_n 2, 1) := by decide +kernel
theorem dX6_canNow_40 : decode cX6_canNow 40 = .ok (.ishl, 1) := by decide +kernel
theorem dX6_canNow_41 : decode cX6_canNow 41 = .ok (.goto 4, 3) := by decide +kernel
theorem dX6_canNow_44 : decode cX6_canNow 44 = .ok (.iconst 0, 1) := by decide +kernel
theorem dX6_canNow_45 : decode cX6_canNow 45 = .ok (.ior, 1) := by decide +kernel
theorem dX6_canNow_46 : decode cX6_canNow 46 = .ok (.istore_n 1, 1) := by decide +kernel
theorem dX6_canNow_47 : decode cX6_canNow 47 = .ok (.iinc 2 1, 3) := by decide +kernel
theorem dX6_canNow_50 : decode cX6_canNow 50 = .ok (.goto (-46), 3) := by decide +kernel
theorem dX6_canNow_53 : decode cX6_canNow 53 = .ok (.iload_n 1, 1) := by decide +kernel
theorem dX6_canNow_54 : decode cX6_canNow 54 = .ok (.ireturn, 1) := by decide +kernel
def p6_canNow_45 (k4 : Int32 → Int32 → SX → Option (Int32 × SX)) (v2 : Int32) (t0 : Int32) (t1 : Int32) (M : SX) : Option (Int32 × SX) :=
  lt_ (t0 ||| t1) (fun x1 => lt_ (v2 + 1) (fun x2 => k4 x1 x2 M))
set_option maxHeartbeats 4000000 in
set_option maxRecDepth 100000 in
theorem w6_canNow_45 {G : XG} {p : Program} {l : Launch} {e : Env} {s : State} {m : MethodId} {args : Array Value} {below : List Frame} {meth : Method} {c : Code} (F : Fx G ZY p m c cX6_canNow 3 s args RX6) (hr : meth.sig.returnType = some .int) (hk : meth.locks = false) {r : Int32} {M' : SX} (k4 : Int32 → Int32 → SX → Option (Int32 × SX)) (hk4 : ∀ (v1 : Int32) (v2 : Int32) (M : SX) (H : Heap) (locs : List Loc) (ls : Array Slot), Wld G ZY M s.heap H locs → lv_has ls 3 [(0, .ref (G.2.1 0)), (1, .int v1), (2, .int v2)] → k4 v1 v2 M = some (r, M') → WXi G ZY p l e 2 s m args below meth c r M' H locs (F0 m 4 ls [])) : ∀ (v2 : Int32) (t0 : Int32) (t1 : Int32) (M : SX) (H : Heap) (locs : List Loc) (ls : Array Slot), Wld G ZY M s.heap H locs → lv_has ls 3 [(0, .ref (G.2.1 0)), (2, .int v2)] → p6_canNow_45 k4 v2 t0 t1 M = some (r, M') → WXi G ZY p l e 2 s m args below meth c r M' H locs (F0 m 45 ls [.int t1, .int t0]) := by
  intro v2 t0 t1 M H locs ls hw hl hf
  have hx := F.1.1
  have hb := F.1.2.1
  unfold p6_canNow_45 at hf
  refine lv_ior hx hb dX6_canNow_45 ?_
  obtain ⟨x1, ex1, hf⟩ := lt_elim hf
  refine x_let ex1 ?_
  refine lv_istore_n (lv' := [(1, .int x1), (0, .ref (G.2.1 0)), (2, .int v2)]) hx hb dX6_canNow_46 rfl hl (by decide) rfl (fun ls hl => ?_)
  obtain ⟨x2, ex2, hf⟩ := lt_elim hf
  refine lv_iinc (v := x2) (lv' := [(2, .int x2), (1, .int x1), (0, .ref (G.2.1 0))]) hx hb dX6_canNow_47 hl (k := 2) rfl (by rw [ex2]; rfl) (by decide) rfl (fun ls hl => ?_)
  refine lv_goto (tgt := 4) hx hb dX6_canNow_50 (by decide) ?_
  exact hk4 x1 x2 M _ _ ls hw (lv_sub hl [2, 1, 0] rfl) hf
def p6_canNow_44 (k4 : Int32 → Int32 → SX → Option (Int32 × SX)) (v2 : Int32) (t0 : Int32) (M : SX) : Option (Int32 × SX) :=
  p6_canNow_45 k4 v2 t0 0 M
set_option maxHeartbeats 4000000 in
set_option maxRecDepth 100000 in
theorem w6_canNow_44 {G : XG} {p : Program} {l : Launch} {e : Env} {s : State} {m : MethodId} {args : Array Value} {below : List Frame} {meth : Method} {c : Code} (F : Fx G ZY p m c cX6_canNow 3 s args RX6) (hr : meth.sig.returnType = some .int) (hk : meth.locks = false) {r : Int32} {M' : SX} (k4 : Int32 → Int32 → SX → Option (Int32 × SX)) (hk4 : ∀ (v1 : Int32) (v2 : Int32) (M : SX) (H : Heap) (locs : List Loc) (ls : Array Slot), Wld G ZY M s.heap H locs → lv_has ls 3 [(0, .ref (G.2.1 0)), (1, .int v1), (2, .int v2)] → k4 v1 v2 M = some (r, M') → WXi G ZY p l e 2 s m args below meth c r M' H locs (F0 m 4 ls [])) : ∀ (v2 : Int32) (t0 : Int32) (M : SX) (H : Heap) (locs : List Loc) (ls : Array Slot), Wld G ZY M s.heap H locs → lv_has ls 3 [(0, .ref (G.2.1 0)), (2, .int v2)] → p6_canNow_44 k4 v2 t0 M = some (r, M') → WXi G ZY p l e 2 s m args below meth c r M' H locs (F0 m 44 ls [.int t0]) := by
  intro v2 t0 M H locs ls hw hl hf
  have hx := F.1.1
  have hb := F.1.2.1
  unfold p6_canNow_44 at hf
  refine lv_iconst (v := 0) hx hb dX6_canNow_44 (by decide) ?_
  exact w6_canNow_45 F hr hk k4 hk4 v2 t0 0 M _ _ ls hw (lv_sub hl [0, 1] rfl) hf
def p6_canNow_4 (k4 : Int32 → Int32 → SX → Option (Int32 × SX)) (v1 : Int32) (v2 : Int32) (M : SX) : Option (Int32 × SX) :=
  if (M.1 0 1) ≤ v2 then (some (v1, M))
  else (bd (p6_isPawned v2 M) (fun r4 M3 => if r4 = 0 then (p6_canNow_44 k4 v2 v1 M3)
  else (gd (bIn (1 + v2) 3964) ( bd (p6_dueIn v2 0 M3) (fun r9 M8 => if (M3.1 1 (Int32.toNatClampNeg (1 + v2))) < r9 then (p6_canNow_44 k4 v2 v1 M8)
  else (p6_canNow_45 k4 v2 v1 ((1 : Int32) <<< (v2 &&& 31)) M8))))))
set_option maxHeartbeats 4000000 in
set_option maxRecDepth 100000 in
theorem w6_canNow_4 {G : XG} {p : Program} {l : Launch} {e : Env} {s : State} {m : MethodId} {args : Array Value} {below : List Frame} {meth : Method} {c : Code} (F : Fx G ZY p m c cX6_canNow 3 s args RX6) (hr : meth.sig.returnType = some .int) (hk : meth.locks = false) {r : Int32} {M' : SX} (k4 : Int32 → Int32 → SX → Option (Int32 × SX)) (hk4 : ∀ (v1 : Int32) (v2 : Int32) (M : SX) (H : Heap) (locs : List Loc) (ls : Array Slot), Wld G ZY M s.heap H locs → lv_has ls 3 [(0, .ref (G.2.1 0)), (1, .int v1), (2, .int v2)] → k4 v1 v2 M = some (r, M') → WXi G ZY p l e 2 s m args below meth c r M' H locs (F0 m 4 ls [])) : ∀ (v1 : Int32) (v2 : Int32) (M : SX) (H : Heap) (locs : List Loc) (ls : Array Slot), Wld G ZY M s.heap H locs → lv_has ls 3 [(0, .ref (G.2.1 0)), (1, .int v1), (2, .int v2)] → p6_canNow_4 k4 v1 v2 M = some (r, M') → WXi G ZY p l e 2 s m args below meth c r M' H locs (F0 m 4 ls []) := by
  intro v1 v2 M H locs ls hw hl hf
  have hx := F.1.1
  have hb := F.1.2.1
  unfold p6_canNow_4 at hf
  refine lv_iload_n hx hb dX6_canNow_4 rfl (lv_at hl 2 rfl) ?_
  refine lv_aload_n hx hb dX6_canNow_5 rfl (lv_at hl 0 rfl) ?_
  refine g6_1 F hw tw_611 dX6_canNow_6 ?_
  refine lv_icmp_ge (tgt := 53) hx hb dX6_canNow_9 (by decide) (fun c1 => ?_) (fun c1 => ?_)
  · have hf := it_t hf c1
    refine lv_iload_n hx hb dX6_canNow_53 rfl (lv_at hl 1 rfl) ?_
    exact x_iret F hw hr hk hf dX6_canNow_54
  · have hf := it_f hf c1
    refine lv_iload_n hx hb dX6_canNow_12 rfl (lv_at hl 1 rfl) ?_
    refine lv_aload_n hx hb dX6_canNow_13 rfl (lv_at hl 0 rfl) ?_
    refine lv_iload_n hx hb dX6_canNow_14 rfl (lv_at hl 2 rfl) ?_
    obtain ⟨r4, M3, hc2, hf⟩ := bd_some hf
    refine x_aftI hw (x_runV (rest := [.int v1]) F hw hl.1 vw_RX6_143 (sM) rfl (c6_isPawned v2 hc2) rfl rfl (Nat.le_of_ble_eq_true rfl) ⟨Nat.le_of_ble_eq_true rfl, Nat.le_of_ble_eq_true rfl⟩ dX6_canNow_15) (fun H locs hw => ?_)
    refine lv_if_eq (tgt := 44) hx hb dX6_canNow_18 (by decide) (fun c5 => ?_) (fun c5 => ?_)
    · have hf := it_t hf c5
      exact w6_canNow_44 F hr hk k4 hk4 v2 v1 M3 _ _ ls hw (lv_sub hl [0, 2] rfl) hf
    · have hf := it_f hf c5
      refine lv_aload_n hx hb dX6_canNow_21 rfl (lv_at hl 0 rfl) ?_
      refine g6_0 F hw tw_610 dX6_canNow_22 ?_
      refine lv_iconst (v := 1) hx hb dX6_canNow_25 (by decide) ?_
      refine lv_iload_n hx hb dX6_canNow_26 rfl (lv_at hl 2 rfl) ?_
      refine lv_iadd hx hb dX6_canNow_27 ?_
      obtain ⟨g6, hf⟩ := gd_some hf
      refine x_iald F hw sM1 g6 dX6_canNow_28 ?_
      refine lv_aload_n hx hb dX6_canNow_29 rfl (lv_at hl 0 rfl) ?_
      refine lv_iload_n hx hb dX6_canNow_30 rfl (lv_at hl 2 rfl) ?_
      refine lv_iconst (v := 0) hx hb dX6_canNow_31 (by decide) ?_
      obtain ⟨r9, M8, hc7, hf⟩ := bd_some hf
      refine x_aftI hw (x_runV (rest := [.int (M3.1 1 (Int32.toNatClampNeg (1 + v2))), .int v1]) F hw hl.1 vw_RX6_146 (sM) rfl (c6_dueIn v2 0 hc7) rfl rfl (Nat.le_of_ble_eq_true rfl) ⟨Nat.le_of_ble_eq_true rfl, Nat.le_of_ble_eq_true rfl⟩ dX6_canNow_32) (fun H locs hw => ?_)
      refine lv_icmp_lt (tgt := 44) hx hb dX6_canNow_35 (by decide) (fun c10 => ?_) (fun c10 => ?_)
      · have hf := it_t hf c10
        exact w6_canNow_44 F hr hk k4 hk4 v2 v1 M8 _ _ ls hw (lv_sub hl [0, 2] rfl) hf
      · have hf := it_f hf c10
        refine lv_iconst (v := 1) hx hb dX6_canNow_38 (by decide) ?_
        refine lv_iload_n hx hb dX6_canNow_39 rfl (lv_at hl 2 rfl) ?_
        refine lv_ishl hx hb dX6_canNow_40 ?_
        refine lv_goto (tgt := 45) hx hb dX6_canNow_41 (by decide) ?_
        exact w6_canNow_45 F hr hk k4 hk4 v2 v1 ((1 : Int32) <<< (v2 &&& 31)) M8 _ _ ls hw (lv_sub hl [0, 2] rfl) hf
theorem z6_canNow_4 {G : XG} {p : Program} {l : Launch} {e : Env} {s : State} {m : MethodId} {args : Array Value} {below : List Frame} {meth : Method} {c : Code} (F : Fx G ZY p m c cX6_canNow 3 s args RX6) (hr : meth.sig.returnType = some .int) (hk : meth.locks = false) {r : Int32} {M' : SX} : ∀ n : Nat, ∀ (v1 : Int32) (v2 : Int32) (M : SX) (H : Heap) (locs : List Loc) (ls : Array Slot), Wld G ZY M s.heap H locs → lv_has ls 3 [(0, .ref (G.2.1 0)), (1, .int v1), (2, .int v2)] → xlp2 p6_canNow_4 n v1 v2 M = some (r, M') → WXi G ZY p l e 2 s m args below meth c r M' H locs (F0 m 4 ls []) := by
  intro n
  induction n with
  | zero => intro _ _ _ _ _ _ _ _ hf; cases hf
  | succ n ih => exact w6_canNow_4 F hr hk (xlp2 p6_canNow_4 n) ih
def p6_canNow (M : SX) : Option (Int32 × SX) :=
  xlp2 p6_canNow_4 FU 0 0 M
set_option maxHeartbeats 4000000 in
set_option maxRecDepth 100000 in
theorem c6_canNow {l : Launch} {G : XG} {r : Int32} {M' : SX} {M : SX} (hf : p6_canNow M = some (r, M')) : Met l yX6_canNow (.code yX6_canNow cX6_canNow 3 (some .int) :: TBL) (rmX 2) (xPc G ZY M [.ref (G.2.1 0)]) (xQi G ZY r M') 0 0 (inA G ZY) := by
  refine x_met (cc := cX6_canNow) (by decide) (Nat.le_of_ble_eq_true rfl) ?_
  intro p e s m below meth c ls F hr hk hl hw
  have F : Fx G ZY p m c cX6_canNow 3 s [.ref (G.2.1 0)].toArray RX6 := F
  have hl : lv_has ls 3 [(0, .ref (G.2.1 0))] := hl
  have hx := F.1.1
  have hb := F.1.2.1
  unfold p6_canNow at hf
  refine lv_iconst (v := 0) hx hb dX6_canNow_0 (by decide) ?_
  refine lv_istore_n (lv' := [(1, .int 0), (0, .ref (G.2.1 0))]) hx hb dX6_canNow_1 rfl hl (by decide) rfl (fun ls hl => ?_)
  refine lv_iconst (v := 0) hx hb dX6_canNow_2 (by decide) ?_
  refine lv_istore_n (lv' := [(2, .int 0), (1, .int 0), (0, .ref (G.2.1 0))]) hx hb dX6_canNow_3 rfl hl (by decide) rfl (fun ls hl => ?_)
  exact z6_canNow_4 F hr hk FU 0 0 M _ _ ls hw (lv_sub hl [2, 1, 0] rfl) hf
theorem dX6_stock_0 : decode cX6_stock 0 = .ok (.aload_n 0, 1) := by decide +kernel
theorem dX6_stock_1 : decode cX6_stock 1 = .ok (.iload_n 1, 1) := by decide +kernel
theorem dX6_stock_2 : decode cX6_stock 2 = .ok (.invokevirtual 152, 3) := by decide +kernel
theorem dX6_stock_5 : decode cX6_stock 5 = .ok (.ifCond .eq 15, 3) := by decide +kernel
theorem dX6_stock_8 : decode cX6_stock 8 = .ok (.iload_n 2, 1) := by decide +kernel
theorem dX6_stock_9 : decode cX6_stock 9 = .ok (.i2l, 1) := by decide +kernel
theorem dX6_stock_10 : decode cX6_stock 10 = .ok (.lconst 0, 1) := by decide +kernel
theorem dX6_stock_11 : decode cX6_stock 11 = .ok (.ldc2_w 176, 3) := by decide +kernel
theorem dX6_stock_14 : decode cX6_stock 14 = .ok (.invokestatic 69, 3) := by decide +kernel
theorem dX6_stock_17 : decode cX6_stock 17 = .ok (.ifCond .ne 5, 3) := by decide +kernel
theorem dX6_stock_20 : decode cX6_stock 20 = .ok (.iconst (-1), 1) := by decide +kernel
theorem dX6_stock_21 : decode cX6_stock 21 = .ok (.ireturn, 1) := by decide +kernel
theorem dX6_stock_22 : decode cX6_stock 22 = .ok (.aload_n 0, 1) := by decide +kernel
theorem dX6_stock_23 : decode cX6_stock 23 = .ok (.getfield 7, 3) := by decide +kernel
theorem dX6_stock_26 : decode cX6_stock 26 = .ok (.iconst 0, 1) := by decide +kernel
theorem dX6_stock_27 : decode cX6_stock 27 = .ok (.iaload, 1) := by decide +kernel
theorem dX6_stock_28 : decode cX6_stock 28 = .ok (.ifCond .le 6, 3) := by decide +kernel
theorem dX6_stock_31 : decode cX6_stock 31 = .ok (.bipush (-4), 2) := by decide +kernel
theorem dX6_stock_33 : decode cX6_stock 33 = .ok (.ireturn, 1) := by decide +kernel
theorem dX6_stock_34 : decode cX6_stock 34 = .ok (.aload_n 0, 1) := by decide +kernel
theorem dX6_stock_35 : decode cX6_stock 35 = .ok (.getfield 7, 3) := by decide +kernel
theorem dX6_stock_38 : decode cX6_stock 38 = .ok (.bipush 25, 2) := by decide +kernel
theorem dX6_stock_40 : decode cX6_stock 40 = .ok (.iload_n 1, 1) := by decide +kernel
theorem dX6_stock_41 : decode cX6_stock 41 = .ok (.iadd, 1) := by decide +kernel
theorem dX6_stock_42 : decode cX6_stock 42 = .ok (.iaload, 1) := by decide +kernel
theorem dX6_stock_43 : decode cX6_stock 43 = .ok (.istore_n 3, 1) := by decide +kernel
theorem dX6_stock_44 : decode cX6_stock 44 = .ok (.aload_n 0, 1) := by decide +kernel
theorem dX6_stock_45 : decode cX6_stock 45 = .ok (.getfield 7, 3) := by decide +kernel
theorem dX6_stock_48 : decode cX6_stock 48 = .ok (.bipush 25, 2) := by decide +kernel
theorem dX6_stock_50 : decode cX6_stock 50 = .ok (.iload_n 1, 1) := by decide +kernel
theorem dX6_stock_51 : decode cX6_stock 51 = .ok (.iadd, 1) := by decide +kernel
theorem dX6_stock_52 : decode cX6_stock 52 = .ok (.iload_n 2, 1) := by decide +kernel
theorem dX6_stock_53 : decode cX6_stock 53 = .ok (.iastore, 1) := by decide +kernel
theorem dX6_stock_54 : decode cX6_stock 54 = .ok (.iload_n 3, 1) := by decide +kernel
theorem dX6_stock_55 : decode cX6_stock 55 = .ok (.ireturn, 1) := by decide +kernel
def p6_stock (a1 : Int32) (a2 : Int32) (M : SX) : Option (Int32 × SX) :=
  bd (p6_isShop a1 M) (fun r3 M2 => if r3 = 0 then (some ((-1), M2))
  else (bd (p6_in (Int32.toInt64 a2) 0 9 M2) (fun r7 M6 => if r7 = 0 then (some ((-1), M6))
  else (gd (bIn 0 3964) ( if (M6.1 1 (Int32.toNatClampNeg 0)) ≤ 0 then (gd (bIn (25 + a1) 3964) ( lt_ (M6.1 1 (Int32.toNatClampNeg (25 + a1))) (fun x12 => lt_ (wI M6 1 (Int32.toNatClampNeg (25 + a1)) a2) (fun M13 => some (x12, M13)))))
  else (some ((-4), M6)))))))
set_option maxHeartbeats 4000000 in
set_option maxRecDepth 100000 in
theorem c6_stock {l : Launch} {G : XG} {r : Int32} {M' : SX} {M : SX} (a1 : Int32) (a2 : Int32) (hf : p6_stock a1 a2 M = some (r, M')) : Met l yX6_stock (.code yX6_stock cX6_stock 4 (some .int) :: TBL) (rmX 2) (xPc G ZY M [.ref (G.2.1 0), .int a1, .int a2]) (xQi G ZY r M') 0 0 (inA G ZY) := by
  refine x_met (cc := cX6_stock) (by decide) (Nat.le_of_ble_eq_true rfl) ?_
  intro p e s m below meth c ls F hr hk hl hw
  have F : Fx G ZY p m c cX6_stock 4 s [.ref (G.2.1 0), .int a1, .int a2].toArray RX6 := F
  have hl : lv_has ls 4 [(0, .ref (G.2.1 0)), (1, .int a1), (2, .int a2)] := hl
  have hx := F.1.1
  have hb := F.1.2.1
  unfold p6_stock at hf
  refine lv_aload_n hx hb dX6_stock_0 rfl (lv_at hl 0 rfl) ?_
  refine lv_iload_n hx hb dX6_stock_1 rfl (lv_at hl 1 rfl) ?_
  obtain ⟨r3, M2, hc1, hf⟩ := bd_some hf
  refine x_aftI hw (x_runV (rest := []) F hw hl.1 vw_RX6_152 (sM) rfl (c6_isShop a1 hc1) rfl rfl (Nat.le_of_ble_eq_true rfl) ⟨Nat.le_of_ble_eq_true rfl, Nat.le_of_ble_eq_true rfl⟩ dX6_stock_2) (fun H locs hw => ?_)
  refine lv_if_eq (tgt := 20) hx hb dX6_stock_5 (by decide) (fun c4 => ?_) (fun c4 => ?_)
  · have hf := it_t hf c4
    refine lv_iconst (v := (-1)) hx hb dX6_stock_20 (by decide) ?_
    exact x_iret F hw hr hk hf dX6_stock_21
  · have hf := it_f hf c4
    refine lv_iload_n hx hb dX6_stock_8 rfl (lv_at hl 2 rfl) ?_
    refine lv_i2l (v := Int32.toInt64 a2) hx hb dX6_stock_9 rfl ?_
    refine lv_lconst (v := 0) hx hb dX6_stock_10 (by decide) ?_
    refine lv_ldc2 (v := 9) hx hb F.1.2.2.2.1 (F.1.2.2.2.2 _ tw_711) dX6_stock_11 ?_
    obtain ⟨r7, M6, hc5, hf⟩ := bd_some hf
    refine x_aftI hw (x_runS (rest := []) F hw hl.1 sw_RX6_69 (c6_in (Int32.toInt64 a2) 0 9 hc5) rfl rfl (Nat.le_of_ble_eq_true rfl) ⟨Nat.le_of_ble_eq_true rfl, Nat.le_of_ble_eq_true rfl⟩ dX6_stock_14) (fun H locs hw => ?_)
    refine lv_if_ne (tgt := 22) hx hb dX6_stock_17 (by decide) (fun c8 => ?_) (fun c8 => ?_)
    · have hf := it_f hf c8
      refine lv_aload_n hx hb dX6_stock_22 rfl (lv_at hl 0 rfl) ?_
      refine g6_0 F hw tw_610 dX6_stock_23 ?_
      refine lv_iconst (v := 0) hx hb dX6_stock_26 (by decide) ?_
      obtain ⟨g9, hf⟩ := gd_some hf
      refine x_iald F hw sM1 g9 dX6_stock_27 ?_
      refine lv_if_le (tgt := 34) hx hb dX6_stock_28 (by decide) (fun c10 => ?_) (fun c10 => ?_)
      · have hf := it_t hf c10
        refine lv_aload_n hx hb dX6_stock_34 rfl (lv_at hl 0 rfl) ?_
        refine g6_0 F hw tw_610 dX6_stock_35 ?_
        refine lv_bipush (v := 25) hx hb dX6_stock_38 (by decide) ?_
        refine lv_iload_n hx hb dX6_stock_40 rfl (lv_at hl 1 rfl) ?_
        refine lv_iadd hx hb dX6_stock_41 ?_
        obtain ⟨g11, hf⟩ := gd_some hf
        refine x_iald F hw sM1 g11 dX6_stock_42 ?_
        obtain ⟨x12, ex12, hf⟩ := lt_elim hf
        refine x_let ex12 ?_
        refine lv_istore_n (lv' := [(3, .int x12), (0, .ref (G.2.1 0)), (1, .int a1), (2, .int a2)]) hx hb dX6_stock_43 rfl hl (by decide) rfl (fun ls hl => ?_)
        refine lv_aload_n hx hb dX6_stock_44 rfl (lv_at hl 1 rfl) ?_
        refine g6_0 F hw tw_610 dX6_stock_45 ?_
        refine lv_bipush (v := 25) hx hb dX6_stock_48 (by decide) ?_
        refine lv_iload_n hx hb dX6_stock_50 rfl (lv_at hl 2 rfl) ?_
        refine lv_iadd hx hb dX6_stock_51 ?_
        refine lv_iload_n hx hb dX6_stock_52 rfl (lv_at hl 3 rfl) ?_
        refine x_iast F hw sM1 g11 dX6_stock_53 (fun H locs hw => ?_)
        obtain ⟨M13, eM13, hf⟩ := lt_elim hf
        rw [← eM13] at hw
        refine lv_iload_n hx hb dX6_stock_54 rfl (lv_at hl 0 rfl) ?_
        exact x_iret F hw hr hk hf dX6_stock_55
      · have hf := it_f hf c10
        refine lv_bipush (v := (-4)) hx hb dX6_stock_31 (by decide) ?_
        exact x_iret F hw hr hk hf dX6_stock_33
    · have hf := it_t hf c8
      refine lv_iconst (v := (-1)) hx hb dX6_stock_20 (by decide) ?_
      exact x_iret F hw hr hk hf dX6_stock_21
theorem dX6_doRedeem_0 : decode cX6_doRedeem 0 = .ok (.aload_n 0, 1) := by decide +kernel
theorem dX6_doRedeem_1 : decode cX6_doRedeem 1 = .ok (.invokevirtual 178, 3) := by decide +kernel
theorem dX6_doRedeem_4 : decode cX6_doRedeem 4 = .ok (.aload_n 0, 1) := by decide +kernel
theorem dX6_doRedeem_5 : decode cX6_doRedeem 5 = .ok (.iload_n 1, 1) := by decide +kernel
theorem dX6_doRedeem_6 : decode cX6_doRedeem 6 = .ok (.iconst 0, 1) := by decide +kernel
theorem dX6_doRedeem_7 : decode cX6_doRedeem 7 = .ok (.invokevirtual 146, 3) := by decide +kernel
theorem dX6_doRedeem_10 : decode cX6_doRedeem 10 = .ok (.istore_n 2, 1) := by decide +kernel
theorem dX6_doRedeem_11 : decode cX6_doRedeem 11 = .ok (.aload_n 0, 1) := by decide +kernel
theorem dX6_doRedeem_12 : decode cX6_doRedeem 12 = .ok (.getfield 7, 3) := by decide +kernel
theorem dX6_doRedeem_15 : decode cX6_doRedeem 15 = .ok (.iconst 1, 1) := by decide +kernel
theorem dX6_doRedeem_16 : decode cX6_doRedeem 16 = .ok (.iload_n 1, 1) := by decide +kernel
theorem dX6_doRedeem_17 : decode cX6_doRedeem 17 = .ok (.iadd, 1) := by decide +kernel
theorem dX6_doRedeem_18 : decode cX6_doRedeem 18 = .ok (.dup2, 1) := by decide +kernel
theorem dX6_doRedeem_19 : decode cX6_doRedeem 19 = .ok (.iaload, 1) := by decide +kernel
theorem dX6_doRedeem_20 : decode cX6_doRedeem 20 = .ok (.iload_n 2, 1) := by decide +kernel
theorem dX6_doRedeem_21 : decode cX6_doRedeem 21 = .ok (.isub, 1) := by decide +kernel
theorem dX6_doRedeem_22 : decode cX6_doRedeem 22 = .ok (.iastore, 1) := by decide +kernel
theorem dX6_doRedeem_23 : decode cX6_doRedeem 23 = .ok (.aload_n 0, 1) := by decide +kernel
theorem dX6_doRedeem_24 : decode cX6_doRedeem 24 = .ok (.getfield 7, 3) := by decide +kernel
theorem dX6_doRedeem_27 : decode cX6_doRedeem 27 = .ok (.iconst 1, 1) := by decide +kernel
theorem dX6_doRedeem_28 : decode cX6_doRedeem 28 = .ok (.aload_n 0, 1) := by decide +kernel
theorem dX6_doRedeem_29 : decode cX6_doRedeem 29 = .ok (.getfield 7, 3) := by decide +kernel
theorem dX6_doRedeem_32 : decode cX6_doRedeem 32 = .ok (.bipush 7, 2) := by decide +kernel
theorem dX6_doRedeem_34 : decode cX6_doRedeem 34 = .ok (.iload_n 1, 1) := by decide +kernel
theorem dX6_doRedeem_35 : decode cX6_doRedeem 35 = .ok (.iadd, 1) := by decide +kernel
theorem dX6_doRedeem_36 : decode cX6_doRedeem 36 = .ok (.iaload, 1) := by decide +kernel
theorem dX6_doRedeem_37 : decode cX6_doRedeem 37 = .ok (.iadd, 1) := by decide +kernel
theorem dX6_doRedeem_38 : decode cX6_doRedeem 38 = .ok (.dup2, 1) := by decide +kernel
theorem dX6_doRedeem_39 : decode cX6_doRedeem 39 = .ok (.iaload, 1) := by decide +kernel
theorem dX6_doRedeem_40 : decode cX6_doRedeem 40 = .ok (.iload_n 2, 1) := by decide +kernel
theorem dX6_doRedeem_41 : decode cX6_doRedeem 41 = .ok (.iadd, 1) := by decide +kernel
theorem dX6_doRedeem_42 : decode cX6_doRedeem 42 = .ok (.iastore, 1) := by decide +kernel
theorem dX6_doRedeem_43 : decode cX6_doRedeem 43 = .ok (.aload_n 0, 1) := by decide +kernel
theorem dX6_doRedeem_44 : decode cX6_doRedeem 44 = .ok (.getfield 7, 3) := by decide +kernel
theorem dX6_doRedeem_47 : decode cX6_doRedeem 47 = .ok (.bipush 7, 2) := by decide +kernel
theorem dX6_doRedeem_49 : decode cX6_doRedeem 49 = .ok (.iload_n 1, 1) := by decide +kernel
theorem dX6_doRedeem_50 : decode cX6_doRedeem 50 = .ok (.iadd, 1) := by decide +kernel
theorem dX6_doRedeem_51 : decode cX6_doRedeem 51 = .ok (.bipush (-9), 2) := by decide +kernel
theorem dX6_doRedeem_53 : decode cX6_doRedeem 53 = .ok (.iastore, 1) := by decide +kernel
theorem dX6_doRedeem_54 : decode cX6_doRedeem 54 = .ok (.aload_n 0, 1) := by decide +kernel
theorem dX6_doRedeem_55 : decode cX6_doRedeem 55 = .ok (.getfield 7, 3) := by decide +kernel
theorem dX6_doRedeem_58 : decode cX6_doRedeem 58 = .ok (.bipush 13, 2) := by decide +kernel
theorem dX6_doRedeem_60 : decode cX6_doRedeem 60 = .ok (.iload_n 1, 1) := by decide +kernel
theorem dX6_doRedeem_61 : decode cX6_doRedeem 61 = .ok (.iadd, 1) := by decide +kernel
theorem dX6_doRedeem_62 : decode cX6_doRedeem 62 = .ok (.iconst 0, 1) := by decide +kernel
theorem dX6_doRedeem_63 : decode cX6_doRedeem 63 = .ok (.iastore, 1) := by decide +kernel
theorem dX6_doRedeem_64 : decode cX6_doRedeem 64 = .ok (.aload_n 0, 1) := by decide +kernel
theorem dX6_doRedeem_65 : decode cX6_doRedeem 65 = .ok (.getfield 7, 3) := by decide +kernel
theorem dX6_doRedeem_68 : decode cX6_doRedeem 68 = .ok (.bipush 19, 2) := by decide +kernel
theorem dX6_doRedeem_70 : decode cX6_doRedeem 70 = .ok (.iload_n 1, 1) := by decide +kernel
theorem dX6_doRedeem_71 : decode cX6_doRedeem 71 = .ok (.iadd, 1) := by decide +kernel
theorem dX6_doRedeem_72 : decode cX6_doRedeem 72 = .ok (.iconst 0, 1) := by decide +kernel
theorem dX6_doRedeem_73 : decode cX6_doRedeem 73 = .ok (.iastore, 1) := by decide +kernel
theorem dX6_doRedeem_74 : decode cX6_doRedeem 74 = .ok (.iload_n 2, 1) := by decide +kernel
theorem dX6_doRedeem_75 : decode cX6_doRedeem 75 = .ok (.ireturn, 1) := by decide +kernel
def p6_doRedeem (a1 : Int32) (M : SX) : Option (Int32 × SX) :=
  bv (p6_keepPast M) (fun M2 => bd (p6_dueIn a1 0 M2) (fun r5 M4 => gd (bIn (1 + a1) 3964) ( lt_ (wI M4 1 (Int32.toNatClampNeg (1 + a1)) ((M4.1 1 (Int32.toNatClampNeg (1 + a1))) - r5)) (fun M7 => gd (bIn (7 + a1) 3964) ( gd (bIn (1 + (M7.1 1 (Int32.toNatClampNeg (7 + a1)))) 3964) ( lt_ (wI M7 1 (Int32.toNatClampNeg (1 + (M7.1 1 (Int32.toNatClampNeg (7 + a1))))) ((M7.1 1 (Int32.toNatClampNeg (1 + (M7.1 1 (Int32.toNatClampNeg (7 + a1)))))) + r5)) (fun M10 => lt_ (wI M10 1 (Int32.toNatClampNeg (7 + a1)) (-9)) (fun M11 => gd (bIn (13 + a1) 3964) ( lt_ (wI M11 1 (Int32.toNatClampNeg (13 + a1)) 0) (fun M13 => gd (bIn (19 + a1) 3964) ( lt_ (wI M13 1 (Int32.toNatClampNeg (19 + a1)) 0) (fun M15 => some (r5, M15)))))))))))))
set_option maxHeartbeats 4000000 in
set_option maxRecDepth 100000 in
theorem c6_doRedeem {l : Launch} {G : XG} {r : Int32} {M' : SX} {M : SX} (a1 : Int32) (hf : p6_doRedeem a1 M = some (r, M')) : Met l yX6_doRedeem (.code yX6_doRedeem cX6_doRedeem 3 (some .int) :: TBL) (rmX 2) (xPc G ZY M [.ref (G.2.1 0), .int a1]) (xQi G ZY r M') 0 0 (inA G ZY) := by
  refine x_met (cc := cX6_doRedeem) (by decide) (Nat.le_of_ble_eq_true rfl) ?_
  intro p e s m below meth c ls F hr hk hl hw
  have F : Fx G ZY p m c cX6_doRedeem 3 s [.ref (G.2.1 0), .int a1].toArray RX6 := F
  have hl : lv_has ls 3 [(0, .ref (G.2.1 0)), (1, .int a1)] := hl
  have hx := F.1.1
  have hb := F.1.2.1
  unfold p6_doRedeem at hf
  refine lv_aload_n hx hb dX6_doRedeem_0 rfl (lv_at hl 0 rfl) ?_
  obtain ⟨M2, hc1, hf⟩ := bv_some hf
  refine x_aftV hw (x_runV (rest := []) F hw hl.1 vw_RX6_178 (sM) rfl (c6_keepPast hc1) rfl rfl (Nat.le_of_ble_eq_true rfl) ⟨Nat.le_of_ble_eq_true rfl, Nat.le_of_ble_eq_true rfl⟩ dX6_doRedeem_1) (fun H locs hw => ?_)
  refine lv_aload_n hx hb dX6_doRedeem_4 rfl (lv_at hl 0 rfl) ?_
  refine lv_iload_n hx hb dX6_doRedeem_5 rfl (lv_at hl 1 rfl) ?_
  refine lv_iconst (v := 0) hx hb dX6_doRedeem_6 (by decide) ?_
  obtain ⟨r5, M4, hc3, hf⟩ := bd_some hf
  refine x_aftI hw (x_runV (rest := []) F hw hl.1 vw_RX6_146 (sM) rfl (c6_dueIn a1 0 hc3) rfl rfl (Nat.le_of_ble_eq_true rfl) ⟨Nat.le_of_ble_eq_true rfl, Nat.le_of_ble_eq_true rfl⟩ dX6_doRedeem_7) (fun H locs hw => ?_)
  refine lv_istore_n (lv' := [(2, .int r5), (0, .ref (G.2.1 0)), (1, .int a1)]) hx hb dX6_doRedeem_10 rfl hl (by decide) rfl (fun ls hl => ?_)
  refine lv_aload_n hx hb dX6_doRedeem_11 rfl (lv_at hl 1 rfl) ?_
  refine g6_0 F hw tw_610 dX6_doRedeem_12 ?_
  refine lv_iconst (v := 1) hx hb dX6_doRedeem_15 (by decide) ?_
  refine lv_iload_n hx hb dX6_doRedeem_16 rfl (lv_at hl 2 rfl) ?_
  refine lv_iadd hx hb dX6_doRedeem_17 ?_
  refine lv_dup2_11 hx hb dX6_doRedeem_18 rfl rfl ?_
  obtain ⟨g6, hf⟩ := gd_some hf
  refine x_iald F hw sM1 g6 dX6_doRedeem_19 ?_
  refine lv_iload_n hx hb dX6_doRedeem_20 rfl (lv_at hl 0 rfl) ?_
  refine lv_isub hx hb dX6_doRedeem_21 ?_
  refine x_iast F hw sM1 g6 dX6_doRedeem_22 (fun H locs hw => ?_)
  obtain ⟨M7, eM7, hf⟩ := lt_elim hf
  rw [← eM7] at hw
  refine lv_aload_n hx hb dX6_doRedeem_23 rfl (lv_at hl 1 rfl) ?_
  refine g6_0 F hw tw_610 dX6_doRedeem_24 ?_
  refine lv_iconst (v := 1) hx hb dX6_doRedeem_27 (by decide) ?_
  refine lv_aload_n hx hb dX6_doRedeem_28 rfl (lv_at hl 1 rfl) ?_
  refine g6_0 F hw tw_610 dX6_doRedeem_29 ?_
  refine lv_bipush (v := 7) hx hb dX6_doRedeem_32 (by decide) ?_
  refine lv_iload_n hx hb dX6_doRedeem_34 rfl (lv_at hl 2 rfl) ?_
  refine lv_iadd hx hb dX6_doRedeem_35 ?_
  obtain ⟨g8, hf⟩ := gd_some hf
  refine x_iald F hw sM1 g8 dX6_doRedeem_36 ?_
  refine lv_iadd hx hb dX6_doRedeem_37 ?_
  refine lv_dup2_11 hx hb dX6_doRedeem_38 rfl rfl ?_
  obtain ⟨g9, hf⟩ := gd_some hf
  refine x_iald F hw sM1 g9 dX6_doRedeem_39 ?_
  refine lv_iload_n hx hb dX6_doRedeem_40 rfl (lv_at hl 0 rfl) ?_
  refine lv_iadd hx hb dX6_doRedeem_41 ?_
  refine x_iast F hw sM1 g9 dX6_doRedeem_42 (fun H locs hw => ?_)
  obtain ⟨M10, eM10, hf⟩ := lt_elim hf
  rw [← eM10] at hw
  refine lv_aload_n hx hb dX6_doRedeem_43 rfl (lv_at hl 1 rfl) ?_
  refine g6_0 F hw tw_610 dX6_doRedeem_44 ?_
  refine lv_bipush (v := 7) hx hb dX6_doRedeem_47 (by decide) ?_
  refine lv_iload_n hx hb dX6_doRedeem_49 rfl (lv_at hl 2 rfl) ?_
  refine lv_iadd hx hb dX6_doRedeem_50 ?_
  refine lv_bipush (v := (-9)) hx hb dX6_doRedeem_51 (by decide) ?_
  refine x_iast F hw sM1 g8 dX6_doRedeem_53 (fun H locs hw => ?_)
  obtain ⟨M11, eM11, hf⟩ := lt_elim hf
  rw [← eM11] at hw
  refine lv_aload_n hx hb dX6_doRedeem_54 rfl (lv_at hl 1 rfl) ?_
  refine g6_0 F hw tw_610 dX6_doRedeem_55 ?_
  refine lv_bipush (v := 13) hx hb dX6_doRedeem_58 (by decide) ?_
  refine lv_iload_n hx hb dX6_doRedeem_60 rfl (lv_at hl 2 rfl) ?_
  refine lv_iadd hx hb dX6_doRedeem_61 ?_
  refine lv_iconst (v := 0) hx hb dX6_doRedeem_62 (by decide) ?_
  obtain ⟨g12, hf⟩ := gd_some hf
  refine x_iast F hw sM1 g12 dX6_doRedeem_63 (fun H locs hw => ?_)
  obtain ⟨M13, eM13, hf⟩ := lt_elim hf
  rw [← eM13] at hw
  refine lv_aload_n hx hb dX6_doRedeem_64 rfl (lv_at hl 1 rfl) ?_
  refine g6_0 F hw tw_610 dX6_doRedeem_65 ?_
  refine lv_bipush (v := 19) hx hb dX6_doRedeem_68 (by decide) ?_
  refine lv_iload_n hx hb dX6_doRedeem_70 rfl (lv_at hl 2 rfl) ?_
  refine lv_iadd hx hb dX6_doRedeem_71 ?_
  refine lv_iconst (v := 0) hx hb dX6_doRedeem_72 (by decide) ?_
  obtain ⟨g14, hf⟩ := gd_some hf
  refine x_iast F hw sM1 g14 dX6_doRedeem_73 (fun H locs hw => ?_)
  obtain ⟨M15, eM15, hf⟩ := lt_elim hf
  rw [← eM15] at hw
  refine lv_iload_n hx hb dX6_doRedeem_74 rfl (lv_at hl 0 rfl) ?_
  exact x_iret F hw hr hk hf dX6_doRedeem_75
theorem dX6_pawn_0 : decode cX6_pawn 0 = .ok (.aload_n 0, 1) := by decide +kernel
theorem dX6_pawn_1 : decode cX6_pawn 1 = .ok (.iload_n 1, 1) := by decide +kernel
theorem dX6_pawn_2 : decode cX6_pawn 2 = .ok (.invokevirtual 152, 3) := by decide +kernel
theorem dX6_pawn_5 : decode cX6_pawn 5 = .ok (.ifCond .eq 28, 3) := by decide +kernel
theorem dX6_pawn_8 : decode cX6_pawn 8 = .ok (.aload_n 0, 1) := by decide +kernel
theorem dX6_pawn_9 : decode cX6_pawn 9 = .ok (.iload_n 2, 1) := by decide +kernel
theorem dX6_pawn_10 : decode cX6_pawn 10 = .ok (.invokevirtual 152, 3) := by decide +kernel
theorem dX6_pawn_13 : decode cX6_pawn 13 = .ok (.ifCond .eq 20, 3) := by decide +kernel
theorem dX6_pawn_16 : decode cX6_pawn 16 = .ok (.iload_n 1, 1) := by decide +kernel
theorem dX6_pawn_17 : decode cX6_pawn 17 = .ok (.iload_n 2, 1) := by decide +kernel
theorem dX6_pawn_18 : decode cX6_pawn 18 = .ok (.if_icmp .eq 15, 3) := by decide +kernel
theorem dX6_pawn_21 : decode cX6_pawn 21 = .ok (.iload_n 3, 1) := by decide +kernel
theorem dX6_pawn_22 : decode cX6_pawn 22 = .ok (.i2l, 1) := by decide +kernel
theorem dX6_pawn_23 : decode cX6_pawn 23 = .ok (.lconst 1, 1) := by decide +kernel
theorem dX6_pawn_24 : decode cX6_pawn 24 = .ok (.ldc2_w 176, 3) := by decide +kernel
theorem dX6_pawn_27 : decode cX6_pawn 27 = .ok (.invokestatic 69, 3) := by decide +kernel
theorem dX6_pawn_30 : decode cX6_pawn 30 = .ok (.ifCond .ne 5, 3) := by decide +kernel
theorem dX6_pawn_33 : decode cX6_pawn 33 = .ok (.iconst (-1), 1) := by decide +kernel
theorem dX6_pawn_34 : decode cX6_pawn 34 = .ok (.ireturn, 1) := by decide +kernel
theorem dX6_pawn_35 : decode cX6_pawn 35 = .ok (.aload_n 0, 1) := by decide +kernel
theorem dX6_pawn_36 : decode cX6_pawn 36 = .ok (.iload_n 1, 1) := by decide +kernel
theorem dX6_pawn_37 : decode cX6_pawn 37 = .ok (.invokevirtual 143, 3) := by decide +kernel
theorem dX6_pawn_40 : decode cX6_pawn 40 = .ok (.ifCond .ne 15, 3) := by decide +kernel
theorem dX6_pawn_43 : decode cX6_pawn 43 = .ok (.aload_n 0, 1) := by decide +kernel
theorem dX6_pawn_44 : decode cX6_pawn 44 = .ok (.getfield 7, 3) := by decide +kernel
theorem dX6_pawn_47 : decode cX6_pawn 47 = .ok (.iconst 1, 1) := by decide +kernel
theorem dX6_pawn_48 : decode cX6_pawn 48 = .ok (.iload_n 2, 1) := by decide +kernel
theorem dX6_pawn_49 : decode cX6_pawn 49 = .ok (.iadd, 1) := by decide +kernel
theorem dX6_pawn_50 : decode cX6_pawn 50 = .ok (.iaload, 1) := by decide +kernel
theorem dX6_pawn_51 : decode cX6_pawn 51 = .ok (.iload_n 3, 1) := by decide +kernel
theorem dX6_pawn_52 : decode cX6_pawn 52 = .ok (.if_icmp .ge 6, 3) := by decide +kernel
theorem dX6_pawn_55 : decode cX6_pawn 55 = .ok (.bipush (-4), 2) := by decide +kernel
theorem dX6_pawn_57 : decode cX6_pawn 57 = .ok (.ireturn, 1) := by decide +kernel
theorem dX6_pawn_58 : decode cX6_pawn 58 = .ok (.aload_n 0, 1) := by decide +kernel
theorem dX6_pawn_59 : decode cX6_pawn 59 = .ok (.getfield 7, 3) := by decide +kernel
theorem dX6_pawn_62 : decode cX6_pawn 62 = .ok (.iconst 0, 1) := by decide +kernel
theorem dX6_pawn_63 : decode cX6_pawn 63 = .ok (.iaload, 1) := by decide +kernel
theorem dX6_pawn_64 : decode cX6_pawn 64 = .ok (.bipush 40, 2) := by decide +kernel
theorem dX6_pawn_66 : decode cX6_pawn 66 = .ok (.if_icmp .ne 6, 3) := by decide +kernel
theorem dX6_pawn_69 : decode cX6_pawn 69 = .ok (.bipush (-2), 2) := by decide +kernel
theorem dX6_pawn_71 : decode cX6_pawn 71 = .ok (.ireturn, 1) := by decide +kernel
theorem dX6_pawn_72 : decode cX6_pawn 72 = .ok (.aload_n 0, 1) := by decide +kernel
theorem dX6_pawn_73 : decode cX6_pawn 73 = .ok (.iload_n 1, 1) := by decide +kernel
theorem dX6_pawn_74 : decode cX6_pawn 74 = .ok (.iload_n 2, 1) := by decide +kernel
theorem dX6_pawn_75 : decode cX6_pawn 75 = .ok (.iload_n 3, 1) := by decide +kernel
theorem dX6_pawn_76 : decode cX6_pawn 76 = .ok (.invokevirtual 187, 3) := by decide +kernel
theorem dX6_pawn_79 : decode cX6_pawn 79 = .ok (.aload_n 0, 1) := by decide +kernel
theorem dX6_pawn_80 : decode cX6_pawn 80 = .ok (.invokevirtual 191, 3) := by decide +kernel
theorem dX6_pawn_83 : decode cX6_pawn 83 = .ok (.invokestatic 170, 3) := by decide +kernel
theorem dX6_pawn_86 : decode cX6_pawn 86 = .ok (.ireturn, 1) := by decide +kernel
def p6_pawn (a1 : Int32) (a2 : Int32) (a3 : Int32) (M : SX) : Option (Int32 × SX) :=
  bd (p6_isShop a1 M) (fun r3 M2 => if r3 = 0 then (some ((-1), M2))
  else (bd (p6_isShop a2 M2) (fun r7 M6 => if r7 = 0 then (some ((-1), M6))
  else (if a1 = a2 then (some ((-1), M6))
  else (bd (p6_in (Int32.toInt64 a3) 1 9 M6) (fun r12 M11 => if r12 = 0 then (some ((-1), M11))
  else (bd (p6_isPawned a1 M11) (fun r16 M15 => if r16 = 0 then (gd (bIn (1 + a2) 3964) ( if a3 ≤ (M15.1 1 (Int32.toNatClampNeg (1 + a2))) then (gd (bIn 0 3964) ( if (M15.1 1 (Int32.toNatClampNeg 0)) = (40 : Int32) then (some ((-2), M15))
  else (bv (p6_doPawn a1 a2 a3 M15) (fun M23 => bd (p6_pawned M23) (fun r26 M25 => bd (p6_bits r26 M25) (fun r29 M28 => some (r29, M28)))))))
  else (some ((-4), M15))))
  else (some ((-4), M15))))))))))
set_option maxHeartbeats 4000000 in
set_option maxRecDepth 100000 in
theorem c6_pawn {l : Launch} {G : XG} {r : Int32} {M' : SX} {M : SX} (a1 : Int32) (a2 : Int32) (a3 : Int32) (hf : p6_pawn a1 a2 a3 M = some (r, M')) : Met l yX6_pawn (.code yX6_pawn cX6_pawn 4 (some .int) :: TBL) (rmX 2) (xPc G ZY M [.ref (G.2.1 0), .int a1, .int a2, .int a3]) (xQi G ZY r M') 0 0 (inA G ZY) := by
  refine x_met (cc := cX6_pawn) (by decide) (Nat.le_of_ble_eq_true rfl) ?_
  intro p e s m below meth c ls F hr hk hl hw
  have F : Fx G ZY p m c cX6_pawn 4 s [.ref (G.2.1 0), .int a1, .int a2, .int a3].toArray RX6 := F
  have hl : lv_has ls 4 [(0, .ref (G.2.1 0)), (1, .int a1), (2, .int a2), (3, .int a3)] := hl
  have hx := F.1.1
  have hb := F.1.2.1
  unfold p6_pawn at hf
  refine lv_aload_n hx hb dX6_pawn_0 rfl (lv_at hl 0 rfl) ?_
  refine lv_iload_n hx hb dX6_pawn_1 rfl (lv_at hl 1 rfl) ?_
  obtain ⟨r3, M2, hc1, hf⟩ := bd_some hf
  refine x_aftI hw (x_runV (rest := []) F hw hl.1 vw_RX6_152 (sM) rfl (c6_isShop a1 hc1) rfl rfl (Nat.le_of_ble_eq_true rfl) ⟨Nat.le_of_ble_eq_true rfl, Nat.le_of_ble_eq_true rfl⟩ dX6_pawn_2) (fun H locs hw => ?_)
  refine lv_if_eq (tgt := 33) hx hb dX6_pawn_5 (by decide) (fun c4 => ?_) (fun c4 => ?_)
  · have hf := it_t hf c4
    refine lv_iconst (v := (-1)) hx hb dX6_pawn_33 (by decide) ?_
    exact x_iret F hw hr hk hf dX6_pawn_34
  · have hf := it_f hf c4
    refine lv_aload_n hx hb dX6_pawn_8 rfl (lv_at hl 0 rfl) ?_
    refine lv_iload_n hx hb dX6_pawn_9 rfl (lv_at hl 2 rfl) ?_
    obtain ⟨r7, M6, hc5, hf⟩ := bd_some hf
    refine x_aftI hw (x_runV (rest := []) F hw hl.1 vw_RX6_152 (sM) rfl (c6_isShop a2 hc5) rfl rfl (Nat.le_of_ble_eq_true rfl) ⟨Nat.le_of_ble_eq_true rfl, Nat.le_of_ble_eq_true rfl⟩ dX6_pawn_10) (fun H locs hw => ?_)
    refine lv_if_eq (tgt := 33) hx hb dX6_pawn_13 (by decide) (fun c8 => ?_) (fun c8 => ?_)
    · have hf := it_t hf c8
      refine lv_iconst (v := (-1)) hx hb dX6_pawn_33 (by decide) ?_
      exact x_iret F hw hr hk hf dX6_pawn_34
    · have hf := it_f hf c8
      refine lv_iload_n hx hb dX6_pawn_16 rfl (lv_at hl 1 rfl) ?_
      refine lv_iload_n hx hb dX6_pawn_17 rfl (lv_at hl 2 rfl) ?_
      refine lv_icmp_eq (tgt := 33) hx hb dX6_pawn_18 (by decide) (fun c9 => ?_) (fun c9 => ?_)
      · have hf := it_t hf c9
        refine lv_iconst (v := (-1)) hx hb dX6_pawn_33 (by decide) ?_
        exact x_iret F hw hr hk hf dX6_pawn_34
      · have hf := it_f hf c9
        refine lv_iload_n hx hb dX6_pawn_21 rfl (lv_at hl 3 rfl) ?_
        refine lv_i2l (v := Int32.toInt64 a3) hx hb dX6_pawn_22 rfl ?_
        refine lv_lconst (v := 1) hx hb dX6_pawn_23 (by decide) ?_
        refine lv_ldc2 (v := 9) hx hb F.1.2.2.2.1 (F.1.2.2.2.2 _ tw_711) dX6_pawn_24 ?_
        obtain ⟨r12, M11, hc10, hf⟩ := bd_some hf
        refine x_aftI hw (x_runS (rest := []) F hw hl.1 sw_RX6_69 (c6_in (Int32.toInt64 a3) 1 9 hc10) rfl rfl (Nat.le_of_ble_eq_true rfl) ⟨Nat.le_of_ble_eq_true rfl, Nat.le_of_ble_eq_true rfl⟩ dX6_pawn_27) (fun H locs hw => ?_)
        refine lv_if_ne (tgt := 35) hx hb dX6_pawn_30 (by decide) (fun c13 => ?_) (fun c13 => ?_)
        · have hf := it_f hf c13
          refine lv_aload_n hx hb dX6_pawn_35 rfl (lv_at hl 0 rfl) ?_
          refine lv_iload_n hx hb dX6_pawn_36 rfl (lv_at hl 1 rfl) ?_
          obtain ⟨r16, M15, hc14, hf⟩ := bd_some hf
          refine x_aftI hw (x_runV (rest := []) F hw hl.1 vw_RX6_143 (sM) rfl (c6_isPawned a1 hc14) rfl rfl (Nat.le_of_ble_eq_true rfl) ⟨Nat.le_of_ble_eq_true rfl, Nat.le_of_ble_eq_true rfl⟩ dX6_pawn_37) (fun H locs hw => ?_)
          refine lv_if_ne (tgt := 55) hx hb dX6_pawn_40 (by decide) (fun c17 => ?_) (fun c17 => ?_)
          · have hf := it_f hf c17
            refine lv_bipush (v := (-4)) hx hb dX6_pawn_55 (by decide) ?_
            exact x_iret F hw hr hk hf dX6_pawn_57
          · have hf := it_t hf c17
            refine lv_aload_n hx hb dX6_pawn_43 rfl (lv_at hl 0 rfl) ?_
            refine g6_0 F hw tw_610 dX6_pawn_44 ?_
            refine lv_iconst (v := 1) hx hb dX6_pawn_47 (by decide) ?_
            refine lv_iload_n hx hb dX6_pawn_48 rfl (lv_at hl 2 rfl) ?_
            refine lv_iadd hx hb dX6_pawn_49 ?_
            obtain ⟨g18, hf⟩ := gd_some hf
            refine x_iald F hw sM1 g18 dX6_pawn_50 ?_
            refine lv_iload_n hx hb dX6_pawn_51 rfl (lv_at hl 3 rfl) ?_
            refine lv_icmp_ge (tgt := 58) hx hb dX6_pawn_52 (by decide) (fun c19 => ?_) (fun c19 => ?_)
            · have hf := it_t hf c19
              refine lv_aload_n hx hb dX6_pawn_58 rfl (lv_at hl 0 rfl) ?_
              refine g6_0 F hw tw_610 dX6_pawn_59 ?_
              refine lv_iconst (v := 0) hx hb dX6_pawn_62 (by decide) ?_
              obtain ⟨g20, hf⟩ := gd_some hf
              refine x_iald F hw sM1 g20 dX6_pawn_63 ?_
              refine lv_bipush (v := 40) hx hb dX6_pawn_64 (by decide) ?_
              refine lv_icmp_ne (tgt := 72) hx hb dX6_pawn_66 (by decide) (fun c21 => ?_) (fun c21 => ?_)
              · have hf := it_f hf c21
                refine lv_aload_n hx hb dX6_pawn_72 rfl (lv_at hl 0 rfl) ?_
                refine lv_iload_n hx hb dX6_pawn_73 rfl (lv_at hl 1 rfl) ?_
                refine lv_iload_n hx hb dX6_pawn_74 rfl (lv_at hl 2 rfl) ?_
                refine lv_iload_n hx hb dX6_pawn_75 rfl (lv_at hl 3 rfl) ?_
                obtain ⟨M23, hc22, hf⟩ := bv_some hf
                refine x_aftV hw (x_runV (rest := []) F hw hl.1 vw_RX6_187 (sM) rfl (c6_doPawn a1 a2 a3 hc22) rfl rfl (Nat.le_of_ble_eq_true rfl) ⟨Nat.le_of_ble_eq_true rfl, Nat.le_of_ble_eq_true rfl⟩ dX6_pawn_76) (fun H locs hw => ?_)
                refine lv_aload_n hx hb dX6_pawn_79 rfl (lv_at hl 0 rfl) ?_
                obtain ⟨r26, M25, hc24, hf⟩ := bd_some hf
                refine x_aftI hw (x_runV (rest := []) F hw hl.1 vw_RX6_191 (sM) rfl (c6_pawned hc24) rfl rfl (Nat.le_of_ble_eq_true rfl) ⟨Nat.le_of_ble_eq_true rfl, Nat.le_of_ble_eq_true rfl⟩ dX6_pawn_80) (fun H locs hw => ?_)
                obtain ⟨r29, M28, hc27, hf⟩ := bd_some hf
                refine x_aftI hw (x_runS (rest := []) F hw hl.1 sw_RX6_170 (c6_bits r26 hc27) rfl rfl (Nat.le_of_ble_eq_true rfl) ⟨Nat.le_of_ble_eq_true rfl, Nat.le_of_ble_eq_true rfl⟩ dX6_pawn_83) (fun H locs hw => ?_)
                exact x_iret F hw hr hk hf dX6_pawn_86
              · have hf := it_t hf c21
                refine lv_bipush (v := (-2)) hx hb dX6_pawn_69 (by decide) ?_
                exact x_iret F hw hr hk hf dX6_pawn_71
            · have hf := it_f hf c19
              refine lv_bipush (v := (-4)) hx hb dX6_pawn_55 (by decide) ?_
              exact x_iret F hw hr hk hf dX6_pawn_57
        · have hf := it_t hf c13
          refine lv_iconst (v := (-1)) hx hb dX6_pawn_33 (by decide) ?_
          exact x_iret F hw hr hk hf dX6_pawn_34
theorem dX6_dueInAll_0 : decode cX6_dueInAll 0 = .ok (.iconst 0, 1) := by decide +kernel
theorem dX6_dueInAll_1 : decode cX6_dueInAll 1 = .ok (.istore_n 1, 1) := by decide +kernel
theorem dX6_dueInAll_2 : decode cX6_dueInAll 2 = .ok (.iconst 0, 1) := by decide +kernel
theorem dX6_dueInAll_3 : decode cX6_dueInAll 3 = .ok (.istore_n 2, 1) := by decide +kernel
theorem dX6_dueInAll_4 : decode cX6_dueInAll 4 = .ok (.iload_n 2, 1) := by decide +kernel
theorem dX6_dueInAll_5 : decode cX6_dueInAll 5 = .ok (.aload_n 0, 1) := by decide +kernel
theorem dX6_dueInAll_6 : decode cX6_dueInAll 6 = .ok (.getfield 140, 3) := by decide +kernel
theorem dX6_dueInAll_9 : decode cX6_dueInAll 9 = .ok (.if_icmp .ge 18, 3) := by decide +kernel
theorem dX6_dueInAll_12 : decode cX6_dueInAll 12 = .ok (.iload_n 1, 1) := by decide +kernel
theorem dX6_dueInAll_13 : decode cX6_dueInAll 13 = .ok (.aload_n 0, 1) := by decide +kernel
theorem dX6_dueInAll_14 : decode cX6_dueInAll 14 = .ok (.iload_n 2, 1) := by decide +kernel
theorem dX6_dueInAll_15 : decode cX6_dueInAll 15 = .ok (.iconst 0, 1) := by decide +kernel
theorem dX6_dueInAll_16 : decode cX6_dueInAll 16 = .ok (.invokevirtual 146, 3) := by decide +kernel
theorem dX6_dueInAll_19 : decode cX6_dueInAll 19 = .ok (.iadd, 1) := by decide +kernel
theorem dX6_dueInAll_20 : decode cX6_dueInAll 20 = .ok (.istore_n 1, 1) := by decide +kernel
theorem dX6_dueInAll_21 : decode cX6_dueInAll 21 = .ok (.iinc 2 1, 3) := by decide +kernel
theorem dX6_dueInAll_24 : decode cX6_dueInAll 24 = .ok (.goto (-20), 3) := by decide +kernel
theorem dX6_dueInAll_27 : decode cX6_dueInAll 27 = .ok (.iload_n 1, 1) := by decide +kernel
theorem dX6_dueInAll_28 : decode cX6_dueInAll 28 = .ok (.ireturn, 1) := by decide +kernel
def p6_dueInAll_4 (k4 : Int32 → Int32 → SX → Option (Int32 × SX)) (v1 : Int32) (v2 : Int32) (M : SX) : Option (Int32 × SX) :=
  if (M.1 0 1) ≤ v2 then (some (v1, M))
  else (bd (p6_dueIn v2 0 M) (fun r4 M3 => lt_ (v1 + r4) (fun x5 => lt_ (v2 + 1) (fun x6 => k4 x5 x6 M3))))
set_option maxHeartbeats 4000000 in
set_option maxRecDepth 100000 in
theorem w6_dueInAll_4 {G : XG} {p : Program} {l : Launch} {e : Env} {s : State} {m : MethodId} {args : Array Value} {below : List Frame} {meth : Method} {c : Code} (F : Fx G ZY p m c cX6_dueInAll 3 s args RX6) (hr : meth.sig.returnType = some .int) (hk : meth.locks = false) {r : Int32} {M' : SX} (k4 : Int32 → Int32 → SX → Option (Int32 × SX)) (hk4 : ∀ (v1 : Int32) (v2 : Int32) (M : SX) (H : Heap) (locs : List Loc) (ls : Array Slot), Wld G ZY M s.heap H locs → lv_has ls 3 [(0, .ref (G.2.1 0)), (1, .int v1), (2, .int v2)] → k4 v1 v2 M = some (r, M') → WXi G ZY p l e 2 s m args below meth c r M' H locs (F0 m 4 ls [])) : ∀ (v1 : Int32) (v2 : Int32) (M : SX) (H : Heap) (locs : List Loc) (ls : Array Slot), Wld G ZY M s.heap H locs → lv_has ls 3 [(0, .ref (G.2.1 0)), (1, .int v1), (2, .int v2)] → p6_dueInAll_4 k4 v1 v2 M = some (r, M') → WXi G ZY p l e 2 s m args below meth c r M' H locs (F0 m 4 ls []) := by
  intro v1 v2 M H locs ls hw hl hf
  have hx := F.1.1
  have hb := F.1.2.1
  unfold p6_dueInAll_4 at hf
  refine lv_iload_n hx hb dX6_dueInAll_4 rfl (lv_at hl 2 rfl) ?_
  refine lv_aload_n hx hb dX6_dueInAll_5 rfl (lv_at hl 0 rfl) ?_
  refine g6_1 F hw tw_611 dX6_dueInAll_6 ?_
  refine lv_icmp_ge (tgt := 27) hx hb dX6_dueInAll_9 (by decide) (fun c1 => ?_) (fun c1 => ?_)
  · have hf := it_t hf c1
    refine lv_iload_n hx hb dX6_dueInAll_27 rfl (lv_at hl 1 rfl) ?_
    exact x_iret F hw hr hk hf dX6_dueInAll_28
  · have hf := it_f hf c1
    refine lv_iload_n hx hb dX6_dueInAll_12 rfl (lv_at hl 1 rfl) ?_
    refine lv_aload_n hx hb dX6_dueInAll_13 rfl (lv_at hl 0 rfl) ?_
    refine lv_iload_n hx hb dX6_dueInAll_14 rfl (lv_at hl 2 rfl) ?_
    refine lv_iconst (v := 0) hx hb dX6_dueInAll_15 (by decide) ?_
    obtain ⟨r4, M3, hc2, hf⟩ := bd_some hf
    refine x_aftI hw (x_runV (rest := [.int v1]) F hw hl.1 vw_RX6_146 (sM) rfl (c6_dueIn v2 0 hc2) rfl rfl (Nat.le_of_ble_eq_true rfl) ⟨Nat.le_of_ble_eq_true rfl, Nat.le_of_ble_eq_true rfl⟩ dX6_dueInAll_16) (fun H locs hw => ?_)
    refine lv_iadd hx hb dX6_dueInAll_19 ?_
    obtain ⟨x5, ex5, hf⟩ := lt_elim hf
    refine x_let ex5 ?_
    refine lv_istore_n (lv' := [(1, .int x5), (0, .ref (G.2.1 0)), (2, .int v2)]) hx hb dX6_dueInAll_20 rfl hl (by decide) rfl (fun ls hl => ?_)
    obtain ⟨x6, ex6, hf⟩ := lt_elim hf
    refine lv_iinc (v := x6) (lv' := [(2, .int x6), (1, .int x5), (0, .ref (G.2.1 0))]) hx hb dX6_dueInAll_21 hl (k := 2) rfl (by rw [ex6]; rfl) (by decide) rfl (fun ls hl => ?_)
    refine lv_goto (tgt := 4) hx hb dX6_dueInAll_24 (by decide) ?_
    exact hk4 x5 x6 M3 _ _ ls hw (lv_sub hl [2, 1, 0] rfl) hf
theorem z6_dueInAll_4 {G : XG} {p : Program} {l : Launch} {e : Env} {s : State} {m : MethodId} {args : Array Value} {below : List Frame} {meth : Method} {c : Code} (F : Fx G ZY p m c cX6_dueInAll 3 s args RX6) (hr : meth.sig.returnType = some .int) (hk : meth.locks = false) {r : Int32} {M' : SX} : ∀ n : Nat, ∀ (v1 : Int32) (v2 : Int32) (M : SX) (H : Heap) (locs : List Loc) (ls : Array Slot), Wld G ZY M s.heap H locs → lv_has ls 3 [(0, .ref (G.2.1 0)), (1, .int v1), (2, .int v2)] → xlp2 p6_dueInAll_4 n v1 v2 M = some (r, M') → WXi G ZY p l e 2 s m args below meth c r M' H locs (F0 m 4 ls []) := by
  intro n
  induction n with
  | zero => intro _ _ _ _ _ _ _ _ hf; cases hf
  | succ n ih => exact w6_dueInAll_4 F hr hk (xlp2 p6_dueInAll_4 n) ih
def p6_dueInAll (M : SX) : Option (Int32 × SX) :=
  xlp2 p6_dueInAll_4 FU 0 0 M
set_option maxHeartbeats 4000000 in
set_option maxRecDepth 100000 in
theorem c6_dueInAll {l : Launch} {G : XG} {r : Int32} {M' : SX} {M : SX} (hf : p6_dueInAll M = some (r, M')) : Met l yX6_dueInAll (.code yX6_dueInAll cX6_dueInAll 3 (some .int) :: TBL) (rmX 2) (xPc G ZY M [.ref (G.2.1 0)]) (xQi G ZY r M') 0 0 (inA G ZY) := by
  refine x_met (cc := cX6_dueInAll) (by decide) (Nat.le_of_ble_eq_true rfl) ?_
  intro p e s m below meth c ls F hr hk hl hw
  have F : Fx G ZY p m c cX6_dueInAll 3 s [.ref (G.2.1 0)].toArray RX6 := F
  have hl : lv_has ls 3 [(0, .ref (G.2.1 0))] := hl
  have hx := F.1.1
  have hb := F.1.2.1
  unfold p6_dueInAll at hf
  refine lv_iconst (v := 0) hx hb dX6_dueInAll_0 (by decide) ?_
  refine lv_istore_n (lv' := [(1, .int 0), (0, .ref (G.2.1 0))]) hx hb dX6_dueInAll_1 rfl hl (by decide) rfl (fun ls hl => ?_)
  refine lv_iconst (v := 0) hx hb dX6_dueInAll_2 (by decide) ?_
  refine lv_istore_n (lv' := [(2, .int 0), (1, .int 0), (0, .ref (G.2.1 0))]) hx hb dX6_dueInAll_3 rfl hl (by decide) rfl (fun ls hl => ?_)
  exact z6_dueInAll_4 F hr hk FU 0 0 M _ _ ls hw (lv_sub hl [2, 1, 0] rfl) hf
