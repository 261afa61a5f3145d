set_option maxHeartbeats 4000000 in
set_option maxRecDepth 100000 in
theorem law_loop {p : Program} {l : Launch} {e : Env} {s : State} {m : MethodId} {below : List Frame} {meth : Method} {c : Code} {b L : Nat} {xs : Nat → Int32} {GX GY : XG} (C0 : lw_At p s m meth c b L xs) (E : LEnv GX GY s) (hL : L ≤ 384) : ∀ (n i : Nat) (x3 : Int32), i ≤ L → L + 1 ≤ i + n → x3 = nI i → ∀ (MX MY : SX) (H : Heap) (locs : List Loc) (ls : Array Slot), Rel MX MY → LWd GX GY MX MY H → va_S (fun q : Nat => s.heap.size ≤ q) s.heap H locs → lv_has ls 4 [(0, .ref b), (1, .ref (GX.2.1 0)), (2, .ref (GY.2.1 0)), (3, .int x3)] → WL p l e s m b below meth c H locs (F0 m 18 ls []) := by
  obtain ⟨hx, hb, hr, hml, hown, hts, hX, hbl, hlocks, hgv⟩ := id C0
  have hbA : ¬ (fun q : Nat => s.heap.size ≤ q) b := Nat.not_le.mpr hbl
  intro n
  induction n with
  | zero =>
    intro i x3 h1 h2
    exact absurd h2 (by omega)
  | succ n ih =>
    intro i x3 hi hn ex3 MX MY H locs ls hR hP hS hl
    refine lv_iload_n hx hb dL_law_18 rfl (lv_at hl 3 rfl) ?_
    refine lv_aload_n hx hb dL_law_19 rfl (lv_at hl 0 rfl) ?_
    refine va_slen hx hb hX hbl hbA hS dL_law_20 ?_
    refine lv_bipush (v := 6) hx hb dL_law_21 (by decide) ?_
    refine lv_isub hx hb dL_law_23 ?_
    refine lv_icmp_gt (tgt := 1396) hx hb dL_law_24 (by decide) (fun cc0 => ?_) (fun cc0 => ?_)
    · refine lv_iconst (v := 1) hx hb dL_law_1396 (by decide) ?_
      refine va_forget (fun q hq => hS.2.2 q hq) ?_
      refine W.widen (k := 600000) (n := 7302250) (Nat.le_of_ble_eq_true rfl) (Nat.le_of_ble_eq_true rfl) ?_
      exact lw_ret hx hb hr hlocks dL_law_1397
    · have h6 : i + 6 ≤ L := by
        rcases Nat.lt_or_ge L (i + 6) with q | q
        · exfalso
          apply cc0
          rw [ex3]
          show nI L - nI 6 < nI i
          rw [Int32.lt_iff_toInt_lt, pk_sub_toInt (by omega) (by omega), nI_toInt (by omega)]
          omega
        · exact q
      have hin : ∀ k : Int32, 0 ≤ k → k ≤ 5 → vp_in (x3 + k) L := by
        intro k h0 h5
        obtain ⟨j, hj, rfl⟩ := nI_of2 (x := k) (M := 5) (n := 5) rfl (Int32.not_lt.mpr h0) h5
        rw [ex3, nI_add]
        exact vp_in_nI (by omega) (by omega)
      have hin0 : vp_in x3 L := by
        rw [ex3]
        exact vp_in_nI (by omega) (by omega)
      have next : ∀ (MX MY : SX) (H : Heap) (locs : List Loc) (ls : Array Slot), Rel MX MY → LWd GX GY MX MY H → va_S (fun q : Nat => s.heap.size ≤ q) s.heap H locs → lv_has ls 4 [(0, .ref b), (1, .ref (GX.2.1 0)), (2, .ref (GY.2.1 0)), (3, .int x3)] → WL p l e s m b below meth c H locs (F0 m 1390 ls []) := by
        intro MX MY H locs ls hR hP hS hl
        obtain ⟨y3, ey3⟩ : ∃ y : Int32, y = x3 + 6 := ⟨_, rfl⟩
        refine lv_iinc (v := y3) (lv' := [(3, .int y3), (0, .ref b), (1, .ref (GX.2.1 0)), (2, .ref (GY.2.1 0))]) hx hb dL_law_1390 hl (k := 3) rfl (by rw [ey3]; rfl) (by decide) rfl (fun ls hl => ?_)
        refine lv_goto (tgt := 18) hx hb dL_law_1393 (by decide) ?_
        exact ih (i + 6) y3 (by omega) (by omega) (by rw [ey3, ex3]; exact nI_add i 6) MX MY H locs ls hR hP hS (lv_sub hl [1, 2, 3, 0] rfl)
      refine lv_aload_n hx hb dL_law_27 rfl (lv_at hl 0 rfl) ?_
      refine lv_iload_n hx hb dL_law_28 rfl (lv_at hl 3 rfl) ?_
      refine va_sld hx hb hX hbl hbA hS hin0 dL_law_29 ?_
      refine lv_bipush (v := 63) hx hb dL_law_30 (by decide) ?_
      refine lv_iand hx hb dL_law_32 ?_
      by_cases c0 : xs x3.toNatClampNeg &&& 63 = 0
      · refine lv_tableIn (tgt := 236) hx hb dL_law_33 (by rw [c0]; decide) (by rw [c0]; decide) (by rw [c0]; rfl) (by decide) ?_
        exact law_c0 C0 E x3 hin MX MY H locs ls hR hP hS hl next
      by_cases c1 : xs x3.toNatClampNeg &&& 63 = 1
      · refine lv_tableIn (tgt := 269) hx hb dL_law_33 (by rw [c1]; decide) (by rw [c1]; decide) (by rw [c1]; rfl) (by decide) ?_
        exact law_c1 C0 E x3 hin MX MY H locs ls hR hP hS hl next
      by_cases c2 : xs x3.toNatClampNeg &&& 63 = 2
      · refine lv_tableIn (tgt := 312) hx hb dL_law_33 (by rw [c2]; decide) (by rw [c2]; decide) (by rw [c2]; rfl) (by decide) ?_
        exact law_c2 C0 E x3 hin MX MY H locs ls hR hP hS hl next
      by_cases c3 : xs x3.toNatClampNeg &&& 63 = 3
      · refine lv_tableIn (tgt := 345) hx hb dL_law_33 (by rw [c3]; decide) (by rw [c3]; decide) (by rw [c3]; rfl) (by decide) ?_
        exact law_c3 C0 E x3 hin MX MY H locs ls hR hP hS hl next
      by_cases c4 : xs x3.toNatClampNeg &&& 63 = 4
      · refine lv_tableIn (tgt := 368) hx hb dL_law_33 (by rw [c4]; decide) (by rw [c4]; decide) (by rw [c4]; rfl) (by decide) ?_
        exact law_c4 C0 E x3 hin MX MY H locs ls hR hP hS hl next
      by_cases c5 : xs x3.toNatClampNeg &&& 63 = 5
      · refine lv_tableIn (tgt := 431) hx hb dL_law_33 (by rw [c5]; decide) (by rw [c5]; decide) (by rw [c5]; rfl) (by decide) ?_
        exact law_c5 C0 E x3 hin MX MY H locs ls hR hP hS hl next
      by_cases c6 : xs x3.toNatClampNeg &&& 63 = 6
      · refine lv_tableIn (tgt := 454) hx hb dL_law_33 (by rw [c6]; decide) (by rw [c6]; decide) (by rw [c6]; rfl) (by decide) ?_
        exact law_c6 C0 E x3 hin MX MY H locs ls hR hP hS hl next
      by_cases c7 : xs x3.toNatClampNeg &&& 63 = 7
      · refine lv_tableIn (tgt := 487) hx hb dL_law_33 (by rw [c7]; decide) (by rw [c7]; decide) (by rw [c7]; rfl) (by decide) ?_
        exact law_c7 C0 E x3 hin MX MY H locs ls hR hP hS hl next
      by_cases c8 : xs x3.toNatClampNeg &&& 63 = 8
      · refine lv_tableIn (tgt := 530) hx hb dL_law_33 (by rw [c8]; decide) (by rw [c8]; decide) (by rw [c8]; rfl) (by decide) ?_
        exact law_c8 C0 E x3 hin MX MY H locs ls hR hP hS hl next
      by_cases c9 : xs x3.toNatClampNeg &&& 63 = 9
      · refine lv_tableIn (tgt := 553) hx hb dL_law_33 (by rw [c9]; decide) (by rw [c9]; decide) (by rw [c9]; rfl) (by decide) ?_
        exact law_c9 C0 E x3 hin MX MY H locs ls hR hP hS hl next
      by_cases c10 : xs x3.toNatClampNeg &&& 63 = 10
      · refine lv_tableIn (tgt := 576) hx hb dL_law_33 (by rw [c10]; decide) (by rw [c10]; decide) (by rw [c10]; rfl) (by decide) ?_
        exact law_c10 C0 E x3 hin MX MY H locs ls hR hP hS hl next
      by_cases c11 : xs x3.toNatClampNeg &&& 63 = 11
      · refine lv_tableIn (tgt := 609) hx hb dL_law_33 (by rw [c11]; decide) (by rw [c11]; decide) (by rw [c11]; rfl) (by decide) ?_
        exact law_c11 C0 E x3 hin MX MY H locs ls hR hP hS hl next
      by_cases c12 : xs x3.toNatClampNeg &&& 63 = 12
      · refine lv_tableIn (tgt := 642) hx hb dL_law_33 (by rw [c12]; decide) (by rw [c12]; decide) (by rw [c12]; rfl) (by decide) ?_
        exact law_c12 C0 E x3 hin MX MY H locs ls hR hP hS hl next
      by_cases c13 : xs x3.toNatClampNeg &&& 63 = 13
      · refine lv_tableIn (tgt := 675) hx hb dL_law_33 (by rw [c13]; decide) (by rw [c13]; decide) (by rw [c13]; rfl) (by decide) ?_
        exact law_c13 C0 E x3 hin MX MY H locs ls hR hP hS hl next
      by_cases c14 : xs x3.toNatClampNeg &&& 63 = 14
      · refine lv_tableIn (tgt := 698) hx hb dL_law_33 (by rw [c14]; decide) (by rw [c14]; decide) (by rw [c14]; rfl) (by decide) ?_
        exact law_c14 C0 E x3 hin MX MY H locs ls hR hP hS hl next
      by_cases c15 : xs x3.toNatClampNeg &&& 63 = 15
      · refine lv_tableIn (tgt := 741) hx hb dL_law_33 (by rw [c15]; decide) (by rw [c15]; decide) (by rw [c15]; rfl) (by decide) ?_
        exact law_c15 C0 E x3 hin MX MY H locs ls hR hP hS hl next
      by_cases c16 : xs x3.toNatClampNeg &&& 63 = 16
      · refine lv_tableIn (tgt := 754) hx hb dL_law_33 (by rw [c16]; decide) (by rw [c16]; decide) (by rw [c16]; rfl) (by decide) ?_
        exact law_c16 C0 E x3 hin MX MY H locs ls hR hP hS hl next
      by_cases c17 : xs x3.toNatClampNeg &&& 63 = 17
      · refine lv_tableIn (tgt := 787) hx hb dL_law_33 (by rw [c17]; decide) (by rw [c17]; decide) (by rw [c17]; rfl) (by decide) ?_
        exact law_c17 C0 E x3 hin MX MY H locs ls hR hP hS hl next
      by_cases c18 : xs x3.toNatClampNeg &&& 63 = 18
      · refine lv_tableIn (tgt := 810) hx hb dL_law_33 (by rw [c18]; decide) (by rw [c18]; decide) (by rw [c18]; rfl) (by decide) ?_
        exact law_c18 C0 E x3 hin MX MY H locs ls hR hP hS hl next
      by_cases c19 : xs x3.toNatClampNeg &&& 63 = 19
      · refine lv_tableIn (tgt := 833) hx hb dL_law_33 (by rw [c19]; decide) (by rw [c19]; decide) (by rw [c19]; rfl) (by decide) ?_
        exact law_c19 C0 E x3 hin MX MY H locs ls hR hP hS hl next
      by_cases c20 : xs x3.toNatClampNeg &&& 63 = 20
      · refine lv_tableIn (tgt := 856) hx hb dL_law_33 (by rw [c20]; decide) (by rw [c20]; decide) (by rw [c20]; rfl) (by decide) ?_
        exact law_c20 C0 E x3 hin MX MY H locs ls hR hP hS hl next
      by_cases c21 : xs x3.toNatClampNeg &&& 63 = 21
      · refine lv_tableIn (tgt := 879) hx hb dL_law_33 (by rw [c21]; decide) (by rw [c21]; decide) (by rw [c21]; rfl) (by decide) ?_
        exact law_c21 C0 E x3 hin MX MY H locs ls hR hP hS hl next
      by_cases c22 : xs x3.toNatClampNeg &&& 63 = 22
      · refine lv_tableIn (tgt := 902) hx hb dL_law_33 (by rw [c22]; decide) (by rw [c22]; decide) (by rw [c22]; rfl) (by decide) ?_
        exact law_c22 C0 E x3 hin MX MY H locs ls hR hP hS hl next
      by_cases c23 : xs x3.toNatClampNeg &&& 63 = 23
      · refine lv_tableIn (tgt := 915) hx hb dL_law_33 (by rw [c23]; decide) (by rw [c23]; decide) (by rw [c23]; rfl) (by decide) ?_
        exact law_c23 C0 E x3 hin MX MY H locs ls hR hP hS hl next
      by_cases c24 : xs x3.toNatClampNeg &&& 63 = 24
      · refine lv_tableIn (tgt := 938) hx hb dL_law_33 (by rw [c24]; decide) (by rw [c24]; decide) (by rw [c24]; rfl) (by decide) ?_
        exact law_c24 C0 E x3 hin MX MY H locs ls hR hP hS hl next
      by_cases c25 : xs x3.toNatClampNeg &&& 63 = 25
      · refine lv_tableIn (tgt := 951) hx hb dL_law_33 (by rw [c25]; decide) (by rw [c25]; decide) (by rw [c25]; rfl) (by decide) ?_
        exact law_c25 C0 E x3 hin MX MY H locs ls hR hP hS hl next
      by_cases c26 : xs x3.toNatClampNeg &&& 63 = 26
      · refine lv_tableIn (tgt := 974) hx hb dL_law_33 (by rw [c26]; decide) (by rw [c26]; decide) (by rw [c26]; rfl) (by decide) ?_
        exact law_c26 C0 E x3 hin MX MY H locs ls hR hP hS hl next
      by_cases c27 : xs x3.toNatClampNeg &&& 63 = 27
      · refine lv_tableIn (tgt := 1007) hx hb dL_law_33 (by rw [c27]; decide) (by rw [c27]; decide) (by rw [c27]; rfl) (by decide) ?_
        exact law_c27 C0 E x3 hin MX MY H locs ls hR hP hS hl next
      by_cases c28 : xs x3.toNatClampNeg &&& 63 = 28
      · refine lv_tableIn (tgt := 1020) hx hb dL_law_33 (by rw [c28]; decide) (by rw [c28]; decide) (by rw [c28]; rfl) (by decide) ?_
        exact law_c28 C0 E x3 hin MX MY H locs ls hR hP hS hl next
      by_cases c29 : xs x3.toNatClampNeg &&& 63 = 29
      · refine lv_tableIn (tgt := 1043) hx hb dL_law_33 (by rw [c29]; decide) (by rw [c29]; decide) (by rw [c29]; rfl) (by decide) ?_
        exact law_c29 C0 E x3 hin MX MY H locs ls hR hP hS hl next
      by_cases c30 : xs x3.toNatClampNeg &&& 63 = 30
      · refine lv_tableIn (tgt := 1056) hx hb dL_law_33 (by rw [c30]; decide) (by rw [c30]; decide) (by rw [c30]; rfl) (by decide) ?_
        exact law_c30 C0 E x3 hin MX MY H locs ls hR hP hS hl next
      by_cases c31 : xs x3.toNatClampNeg &&& 63 = 31
      · refine lv_tableIn (tgt := 1069) hx hb dL_law_33 (by rw [c31]; decide) (by rw [c31]; decide) (by rw [c31]; rfl) (by decide) ?_
        exact law_c31 C0 E x3 hin MX MY H locs ls hR hP hS hl next
      by_cases c32 : xs x3.toNatClampNeg &&& 63 = 32
      · refine lv_tableIn (tgt := 1082) hx hb dL_law_33 (by rw [c32]; decide) (by rw [c32]; decide) (by rw [c32]; rfl) (by decide) ?_
        exact law_c32 C0 E x3 hin MX MY H locs ls hR hP hS hl next
      by_cases c33 : xs x3.toNatClampNeg &&& 63 = 33
      · refine lv_tableIn (tgt := 1115) hx hb dL_law_33 (by rw [c33]; decide) (by rw [c33]; decide) (by rw [c33]; rfl) (by decide) ?_
        exact law_c33 C0 E x3 hin MX MY H locs ls hR hP hS hl next
      by_cases c34 : xs x3.toNatClampNeg &&& 63 = 34
      · refine lv_tableIn (tgt := 1128) hx hb dL_law_33 (by rw [c34]; decide) (by rw [c34]; decide) (by rw [c34]; rfl) (by decide) ?_
        exact law_c34 C0 E x3 hin MX MY H locs ls hR hP hS hl next
      by_cases c35 : xs x3.toNatClampNeg &&& 63 = 35
      · refine lv_tableIn (tgt := 1151) hx hb dL_law_33 (by rw [c35]; decide) (by rw [c35]; decide) (by rw [c35]; rfl) (by decide) ?_
        exact law_c35 C0 E x3 hin MX MY H locs ls hR hP hS hl next
      by_cases c36 : xs x3.toNatClampNeg &&& 63 = 36
      · refine lv_tableIn (tgt := 1174) hx hb dL_law_33 (by rw [c36]; decide) (by rw [c36]; decide) (by rw [c36]; rfl) (by decide) ?_
        exact law_c36 C0 E x3 hin MX MY H locs ls hR hP hS hl next
      by_cases c37 : xs x3.toNatClampNeg &&& 63 = 37
      · refine lv_tableIn (tgt := 1197) hx hb dL_law_33 (by rw [c37]; decide) (by rw [c37]; decide) (by rw [c37]; rfl) (by decide) ?_
        exact law_c37 C0 E x3 hin MX MY H locs ls hR hP hS hl next
      by_cases c38 : xs x3.toNatClampNeg &&& 63 = 38
      · refine lv_tableIn (tgt := 1220) hx hb dL_law_33 (by rw [c38]; decide) (by rw [c38]; decide) (by rw [c38]; rfl) (by decide) ?_
        exact law_c38 C0 E x3 hin MX MY H locs ls hR hP hS hl next
      by_cases c39 : xs x3.toNatClampNeg &&& 63 = 39
      · refine lv_tableIn (tgt := 1243) hx hb dL_law_33 (by rw [c39]; decide) (by rw [c39]; decide) (by rw [c39]; rfl) (by decide) ?_
        exact law_c39 C0 E x3 hin MX MY H locs ls hR hP hS hl next
      by_cases c40 : xs x3.toNatClampNeg &&& 63 = 40
      · refine lv_tableIn (tgt := 1276) hx hb dL_law_33 (by rw [c40]; decide) (by rw [c40]; decide) (by rw [c40]; rfl) (by decide) ?_
        exact law_c40 C0 E x3 hin MX MY H locs ls hR hP hS hl next
      by_cases c41 : xs x3.toNatClampNeg &&& 63 = 41
      · refine lv_tableIn (tgt := 1289) hx hb dL_law_33 (by rw [c41]; decide) (by rw [c41]; decide) (by rw [c41]; rfl) (by decide) ?_
        exact law_c41 C0 E x3 hin MX MY H locs ls hR hP hS hl next
      by_cases c42 : xs x3.toNatClampNeg &&& 63 = 42
      · refine lv_tableIn (tgt := 1303) hx hb dL_law_33 (by rw [c42]; decide) (by rw [c42]; decide) (by rw [c42]; rfl) (by decide) ?_
        exact law_c42 C0 E x3 hin MX MY H locs ls hR hP hS hl next
      by_cases c43 : xs x3.toNatClampNeg &&& 63 = 43
      · refine lv_tableIn (tgt := 1317) hx hb dL_law_33 (by rw [c43]; decide) (by rw [c43]; decide) (by rw [c43]; rfl) (by decide) ?_
        exact law_c43 C0 E x3 hin MX MY H locs ls hR hP hS hl next
      by_cases c44 : xs x3.toNatClampNeg &&& 63 = 44
      · refine lv_tableIn (tgt := 1340) hx hb dL_law_33 (by rw [c44]; decide) (by rw [c44]; decide) (by rw [c44]; rfl) (by decide) ?_
        exact law_c44 C0 E x3 hin MX MY H locs ls hR hP hS hl next
      by_cases c45 : xs x3.toNatClampNeg &&& 63 = 45
      · refine lv_tableIn (tgt := 1353) hx hb dL_law_33 (by rw [c45]; decide) (by rw [c45]; decide) (by rw [c45]; rfl) (by decide) ?_
        exact law_c45 C0 E x3 hin MX MY H locs ls hR hP hS hl next
      by_cases c46 : xs x3.toNatClampNeg &&& 63 = 46
      · refine lv_tableIn (tgt := 1376) hx hb dL_law_33 (by rw [c46]; decide) (by rw [c46]; decide) (by rw [c46]; rfl) (by decide) ?_
        exact law_c46 C0 E x3 hin MX MY H locs ls hR hP hS hl next
      have n0 := x_ne (k := 0) 0 rfl c0
      have n1 := x_ne (k := 1) 1 rfl c1
      have n2 := x_ne (k := 2) 2 rfl c2
      have n3 := x_ne (k := 3) 3 rfl c3
      have n4 := x_ne (k := 4) 4 rfl c4
      have n5 := x_ne (k := 5) 5 rfl c5
      have n6 := x_ne (k := 6) 6 rfl c6
      have n7 := x_ne (k := 7) 7 rfl c7
      have n8 := x_ne (k := 8) 8 rfl c8
      have n9 := x_ne (k := 9) 9 rfl c9
      have n10 := x_ne (k := 10) 10 rfl c10
      have n11 := x_ne (k := 11) 11 rfl c11
      have n12 := x_ne (k := 12) 12 rfl c12
      have n13 := x_ne (k := 13) 13 rfl c13
      have n14 := x_ne (k := 14) 14 rfl c14
      have n15 := x_ne (k := 15) 15 rfl c15
      have n16 := x_ne (k := 16) 16 rfl c16
      have n17 := x_ne (k := 17) 17 rfl c17
      have n18 := x_ne (k := 18) 18 rfl c18
      have n19 := x_ne (k := 19) 19 rfl c19
      have n20 := x_ne (k := 20) 20 rfl c20
      have n21 := x_ne (k := 21) 21 rfl c21
      have n22 := x_ne (k := 22) 22 rfl c22
      have n23 := x_ne (k := 23) 23 rfl c23
      have n24 := x_ne (k := 24) 24 rfl c24
      have n25 := x_ne (k := 25) 25 rfl c25
      have n26 := x_ne (k := 26) 26 rfl c26
      have n27 := x_ne (k := 27) 27 rfl c27
      have n28 := x_ne (k := 28) 28 rfl c28
      have n29 := x_ne (k := 29) 29 rfl c29
      have n30 := x_ne (k := 30) 30 rfl c30
      have n31 := x_ne (k := 31) 31 rfl c31
      have n32 := x_ne (k := 32) 32 rfl c32
      have n33 := x_ne (k := 33) 33 rfl c33
      have n34 := x_ne (k := 34) 34 rfl c34
      have n35 := x_ne (k := 35) 35 rfl c35
      have n36 := x_ne (k := 36) 36 rfl c36
      have n37 := x_ne (k := 37) 37 rfl c37
      have n38 := x_ne (k := 38) 38 rfl c38
      have n39 := x_ne (k := 39) 39 rfl c39
      have n40 := x_ne (k := 40) 40 rfl c40
      have n41 := x_ne (k := 41) 41 rfl c41
      have n42 := x_ne (k := 42) 42 rfl c42
      have n43 := x_ne (k := 43) 43 rfl c43
      have n44 := x_ne (k := 44) 44 rfl c44
      have n45 := x_ne (k := 45) 45 rfl c45
      have n46 := x_ne (k := 46) 46 rfl c46
      refine lv_tableOut (tgt := 1390) hx hb dL_law_33 (by omega) (by decide) ?_
      exact next MX MY H locs ls hR hP hS hl
