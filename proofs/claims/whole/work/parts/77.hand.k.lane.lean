/-! a lane by a text -/
def st5 (N : SX) (s : Nat) (a b c d e : Int32) : SX := wI (wI (wI (wI (wI N 2 s a) 1 (1 + s) b) 1 (25 + s) c) 1 (7 + s) d) 1 (13 + s) e
theorem st5_1 (N : SX) (s : Nat) (a b c d e : Int32) (j : Nat) : (st5 N s a b c d e).1 1 j = if j = 13 + s then e else if j = 7 + s then d else if j = 25 + s then c else if j = 1 + s then b else N.1 1 j := by
  unfold st5
  rw [wI_k, wI_k, wI_k, wI_k, wI_nk (by decide)]
theorem st5_2 (N : SX) (s : Nat) (a b c d e : Int32) (u : Nat) : (st5 N s a b c d e).1 2 u = if u = s then a else N.1 2 u := by
  unfold st5
  rw [wI_nk (by decide), wI_nk (by decide), wI_nk (by decide), wI_nk (by decide), wI_k]
theorem st5_nk (N : SX) (s : Nat) (a b c d e : Int32) {k : Nat} (h1 : k ≠ 1) (h2 : k ≠ 2) : (st5 N s a b c d e).1 k = N.1 k := by
  unfold st5
  rw [wI_nk h1, wI_nk h1, wI_nk h1, wI_nk h1, wI_nk h2]
theorem l88a {N : SX} {s : Nat} (hs : s < 6) (rc : Int32 → SX → Option (Int32 × SX)) : p6_lane_88 rc (nI s) 0 N = rc (nI (s + 1)) (st5 N s 0 0 0 (-9) 0) := by
  rw [p6_lane_88, if_pos rfl, p6_lane_110, gd_of (bIn_nI hs (by decide)), nI_clamp (by omega), lt_v, if_pos rfl, p6_lane_136, gd_of (ix1 hs).1, (ix1 hs).2, lt_v, if_pos rfl, p6_lane_163, gd_of (ix25 hs).1, (ix25 hs).2, lt_v, if_pos rfl, p6_lane_191, gd_of (ix7 hs).1, (ix7 hs).2, lt_v, if_pos rfl, p6_lane_218, gd_of (ix13 hs).1, (ix13 hs).2, lt_v, lt_v, nI_1]
  rfl
theorem l88b {N : SX} {s : Nat} (hs : s < 6) (rc : Int32 → SX → Option (Int32 × SX)) : p6_lane_88 rc (nI s) 1 N = rc (nI (s + 1)) (st5 N s (N.1 8 (5 * s)) (N.1 8 (5 * s + 1)) (N.1 8 (5 * s + 2)) (N.1 8 (5 * s + 3)) (N.1 8 (5 * s + 4))) := by
  have m : (5 : Int32) * nI s = nI (5 * s) := pk_mul 5 s
  have m1 : nI (5 * s) + 1 = nI (5 * s + 1) := nI_add (5 * s) 1
  have m2 : nI (5 * s) + 2 = nI (5 * s + 2) := nI_add (5 * s) 2
  have m3 : nI (5 * s) + 3 = nI (5 * s + 3) := nI_add (5 * s) 3
  have m4 : nI (5 * s) + 4 = nI (5 * s + 4) := nI_add (5 * s) 4
  rw [p6_lane_88, if_neg i10, m, gd_of (bIn_nI (by omega) (by decide)), nI_clamp (by omega), p6_lane_110, gd_of (bIn_nI hs (by decide)), nI_clamp (by omega), lt_v, if_neg i10, m, m1, gd_of (bIn_nI (by omega) (by decide)), nI_clamp (by omega), wI_nk (by decide),
    p6_lane_136, gd_of (ix1 hs).1, (ix1 hs).2, lt_v, if_neg i10, m, m2, gd_of (bIn_nI (by omega) (by decide)), nI_clamp (by omega), wI_nk (by decide), wI_nk (by decide),
    p6_lane_163, gd_of (ix25 hs).1, (ix25 hs).2, lt_v, if_neg i10, m, m3, gd_of (bIn_nI (by omega) (by decide)), nI_clamp (by omega), wI_nk (by decide), wI_nk (by decide), wI_nk (by decide),
    p6_lane_191, gd_of (ix7 hs).1, (ix7 hs).2, lt_v, if_neg i10, m, m4, gd_of (bIn_nI (by omega) (by decide)), nI_clamp (by omega), wI_nk (by decide), wI_nk (by decide), wI_nk (by decide), wI_nk (by decide),
    p6_lane_218, gd_of (ix13 hs).1, (ix13 hs).2, lt_v, lt_v, nI_1]
  rfl
/-- the last loop: kept lanes go -/
theorem laneY3 (M : SX) : ∃ M', xlp1 p6_lane_227 FU 1 M = some (M.1 0 1, M') ∧ (∀ c, c ≠ 1 → M'.1 c = M.1 c) ∧ M'.2 = M.2 ∧ (∀ j, j < 991 → M'.1 1 j = M.1 1 j) ∧ ∀ j, j < 3 → M'.1 1 (991 * (1 + j)) = -1 := by
  refine lp1_inv (body := p6_lane_227) (fun v => nI (1 + v)) (fun v N => (∀ c, c ≠ 1 → N.1 c = M.1 c) ∧ N.2 = M.2 ∧ (∀ j, j < 991 → N.1 1 j = M.1 1 j) ∧ ∀ j, j < v → N.1 1 (991 * (1 + j)) = -1) 3 (by omega) (fun x => ∃ M', x = some (M.1 0 1, M') ∧ (∀ c, c ≠ 1 → M'.1 c = M.1 c) ∧ M'.2 = M.2 ∧ (∀ j, j < 991 → M'.1 1 j = M.1 1 j) ∧ ∀ j, j < 3 → M'.1 1 (991 * (1 + j)) = -1) ?_ ?_ M ⟨fun _ _ => rfl, rfl, fun _ _ => rfl, fun j hj => absurd hj (Nat.not_lt_zero j)⟩
  · rintro v hv0 N ⟨u1, u2, u3, u4⟩ rc
    refine ⟨wI N 1 (991 * (1 + v)) (-1), ?_, fun c hc => by rw [wI_nk hc]; exact u1 c hc, u2, fun j hj => ?_, fun j hj => ?_⟩
    · rw [p6_lane_227, if_neg (show ¬ (4 : Int32) ≤ nI (1 + v) from nI_ge (b := 4) (by omega) (by decide)), show (991 : Int32) * nI (1 + v) = nI (991 * (1 + v)) from pk_mul 991 (1 + v), add0, gd_of (bIn_nI (by omega) (by decide)), nI_clamp (by omega), lt_v, lt_v, nI_1]
      rfl
    · rw [wI_k, if_neg (by omega)]; exact u3 j hj
    · rw [wI_k]
      by_cases c : j = v
      · rw [c, if_pos rfl]
      · rw [if_neg (by omega)]; exact u4 j (by omega)
  · rintro N ⟨u1, u2, u3, u4⟩ rc
    refine ⟨N, ?_, u1, u2, u3, u4⟩
    rw [p6_lane_227, if_pos (by decide), u1 0 (by decide)]
/-- the shops -/
def LN (M : SX) (k : Nat) (σ : LV) (M' : SX) (i : Nat) : Prop := (∀ c, c ≠ 1 → c ≠ 2 → M'.1 c = M.1 c) ∧ M'.2 = M.2 ∧ M'.1 1 0 = 0 ∧ (∀ u, u < 6 → M'.1 1 (19 + u) = 0) ∧ ∀ u, u < i → u < k → M'.1 2 u = nI (σ 0 u) ∧ M'.1 1 (1 + u) = nI (σ 1 u) ∧ M'.1 1 (25 + u) = nI (σ 2 u) ∧ M'.1 1 (7 + u) = hv (σ 3 u) ∧ M'.1 1 (13 + u) = nI (σ 4 u)
theorem LN_st {M N : SX} {k i : Nat} {σ : LV} (h : LN M k σ N i) (hi : i < 6) {a b c d e : Int32} (hv0 : i < k → a = nI (σ 0 i) ∧ b = nI (σ 1 i) ∧ c = nI (σ 2 i) ∧ d = hv (σ 3 i) ∧ e = nI (σ 4 i)) : LN M k σ (st5 N i a b c d e) (i + 1) := by
  obtain ⟨u1, u2, u3, u4, u5⟩ := h
  refine ⟨fun c h1 h2 => by rw [st5_nk N i _ _ _ _ _ h1 h2]; exact u1 c h1 h2, u2, ?_, fun u hu => ?_, fun u hu huk => ?_⟩
  · rw [st5_1, if_neg (by omega), if_neg (by omega), if_neg (by omega), if_neg (by omega)]; exact u3
  · rw [st5_1, if_neg (by omega), if_neg (by omega), if_neg (by omega), if_neg (by omega)]; exact u4 u hu
  · by_cases z : u = i
    · subst z
      obtain ⟨rfl, rfl, rfl, rfl, rfl⟩ := hv0 huk
      refine ⟨?_, ?_, ?_, ?_, ?_⟩
      · rw [st5_2, if_pos rfl]
      · rw [st5_1, if_neg (by omega), if_neg (by omega), if_neg (by omega), if_pos rfl]
      · rw [st5_1, if_neg (by omega), if_neg (by omega), if_pos rfl]
      · rw [st5_1, if_neg (by omega), if_pos rfl]
      · rw [st5_1, if_pos rfl]
    · have := u5 u (by omega) huk
      refine ⟨?_, ?_, ?_, ?_, ?_⟩
      · rw [st5_2, if_neg z]; exact this.1
      · rw [st5_1, if_neg (by omega), if_neg (by omega), if_neg (by omega), if_neg (by omega)]; exact this.2.1
      · rw [st5_1, if_neg (by omega), if_neg (by omega), if_neg (by omega), if_neg (by omega)]; exact this.2.2.1
      · rw [st5_1, if_neg (by omega), if_neg (by omega), if_neg (by omega), if_neg (by omega)]; exact this.2.2.2.1
      · rw [st5_1, if_neg (by omega), if_neg (by omega), if_neg (by omega), if_neg (by omega)]; exact this.2.2.2.2
def LE (M : SX) (k : Nat) (σ : LV) (x : Option (Int32 × SX)) : Prop := ∃ M', x = some (nI k, M') ∧ LN M k σ M' 6 ∧ ∀ j, j < 3 → M'.1 1 (991 * (1 + j)) = -1
theorem laneY2 {M N0 : SX} {k : Nat} {σ : LV} (hk : k ≤ 6) (h1 : M.1 0 1 = nI k) (hF : YF M k σ) (h0 : LN M k σ N0 0) : LE M k σ (xlp1 p6_lane_69 FU 0 N0) := by
  refine lp1_inv (body := p6_lane_69) (fun v => nI v) (fun v N => LN M k σ N v) 6 (by omega) (LE M k σ) ?_ ?_ N0 h0
  · rintro v hv0 N hN rc
    have e1 : N.1 0 1 = nI k := by rw [hN.1 0 (by decide) (by decide)]; exact h1
    have e8 : N.1 8 = M.1 8 := hN.1 8 (by decide) (by decide)
    rw [p6_lane_69, if_neg (show ¬ (6 : Int32) ≤ nI v from nI_ge (b := 6) hv0 (by decide)), e1]
    by_cases c : v < k
    · rw [if_neg (nI_ge c (by omega)), l88b hv0]
      refine ⟨_, rfl, LN_st hN hv0 (fun _ => ?_)⟩
      rw [e8]
      exact hF v c
    · rw [if_pos (nI_le (by omega) (by omega)), l88a hv0]
      exact ⟨_, rfl, LN_st hN hv0 (fun z => absurd z c)⟩
  · rintro N hN rc
    have e1 : N.1 0 1 = nI k := by rw [hN.1 0 (by decide) (by decide)]; exact h1
    rw [p6_lane_69, if_pos (by decide)]
    obtain ⟨M', q1, q2, q3, q4, q5⟩ := laneY3 N
    rw [q1, e1]
    obtain ⟨u1, u2, u3, u4, u5⟩ := hN
    refine ⟨M', rfl, ⟨fun c h1 h2 => by rw [q2 c h1]; exact u1 c h1 h2, q3.trans u2, by rw [q4 0 (by omega)]; exact u3, fun u hu => by rw [q4 (19 + u) (by omega)]; exact u4 u hu, fun u hu huk => ?_⟩, q5⟩
    rw [q2 2 (by decide), q4 (1 + u) (by omega), q4 (25 + u) (by omega), q4 (7 + u) (by omega), q4 (13 + u) (by omega)]
    exact u5 u hu huk
theorem laneY {M : SX} {k : Nat} {σ : LV} (hk : k ≤ 6) (h1 : M.1 0 1 = nI k) (hF : YF M k σ) : LE M k σ (xlp1 p6_lane_47 FU 0 M) := by
  refine lp1_inv (body := p6_lane_47) (fun v => nI v) (fun v N => (∀ c, c ≠ 1 → N.1 c = M.1 c) ∧ N.2 = M.2 ∧ ∀ j, j < v → N.1 1 j = 0) 991 (by omega) (LE M k σ) ?_ ?_ M ⟨fun _ _ => rfl, rfl, fun j hj => absurd hj (Nat.not_lt_zero j)⟩
  · rintro v hv0 N ⟨u1, u2, u3⟩ rc
    refine ⟨wI N 1 v 0, ?_, fun c hc => by rw [wI_nk hc]; exact u1 c hc, u2, fun j hj => ?_⟩
    · rw [p6_lane_47, if_neg (show ¬ (991 : Int32) ≤ nI v from nI_ge (b := 991) hv0 (by omega)), gd_of (bIn_nI (by omega) (by decide)), nI_clamp (by omega), lt_v, lt_v, nI_1]
    · rw [wI_k]
      by_cases c : j = v
      · rw [if_pos c]
      · rw [if_neg c]; exact u3 j (by omega)
  · rintro N ⟨u1, u2, u3⟩ rc
    rw [p6_lane_47, if_pos (by decide)]
    exact laneY2 hk h1 hF ⟨fun c hc _ => u1 c hc, u2, u3 0 (by omega), fun u hu => u3 (19 + u) (by omega), fun u hu => absurd hu (Nat.not_lt_zero u)⟩
/-- kept lanes go (the class) -/
theorem laneX (M : SX) : ∃ M', xlp1 p5_lane_52 FU 0 M = some (M.1 17 0, M') ∧ (∀ c, (c < 27 ∨ 54 ≤ c) → M'.1 c = M.1 c) ∧ M'.2 = M.2 ∧ ∀ j, j < 3 → M'.1 (27 + 9 * j) 0 = 0 := by
  refine lp1_inv (body := p5_lane_52) (fun v => nI v) (fun v N => (∀ c, (c < 27 ∨ 54 ≤ c) → N.1 c = M.1 c) ∧ N.2 = M.2 ∧ ∀ j, j < v → N.1 (27 + 9 * j) 0 = 0) 3 (by omega) (fun x => ∃ M', x = some (M.1 17 0, M') ∧ (∀ c, (c < 27 ∨ 54 ≤ c) → M'.1 c = M.1 c) ∧ M'.2 = M.2 ∧ ∀ j, j < 3 → M'.1 (27 + 9 * j) 0 = 0) ?_ ?_ M ⟨fun _ _ => rfl, rfl, fun j hj => absurd hj (Nat.not_lt_zero j)⟩
  · rintro v hv0 N ⟨u1, u2, u3⟩ rc
    refine ⟨wI (wI N (27 + 9 * v) 0 0) (27 + 9 * v + 7) 1 0, ?_, fun c hc => by rw [wI_nk (by omega), wI_nk (by omega)]; exact u1 c hc, u2, fun j hj => ?_⟩
    · rw [p5_lane_52, if_neg (show ¬ (3 : Int32) ≤ nI v from nI_ge (b := 3) hv0 (by decide)), gd_of (bIn_nI hv0 (by decide)), nI_clamp (by omega), p1_clear, lt_v, lt_v, bv_s, lt_v, nI_1]
    · rw [wI_nk (by omega)]
      by_cases c : j = v
      · rw [c, wI_k, if_pos rfl]
      · rw [wI_nk (by omega)]; exact u3 j (by omega)
  · rintro N ⟨u1, u2, u3⟩ rc
    refine ⟨N, ?_, u1, u2, u3⟩
    rw [p5_lane_52, if_pos (by decide), u1 17 (by omega)]
theorem ag_lane (a1 : Int32) (MX MY : SX) (hR : Rel MX MY) : Ag (p5_lane a1 MX) (p6_lane a1 MY) := by
  rw [p5_lane, p6_lane, isText_Y, bd_s, it01]
  rcases four (a := a1) with ⟨q1, q2⟩ | ⟨t, ht, rfl⟩
  · rw [sheet_X0 (Or.inr rfl) q1, bd_s, if_neg (by decide), if_neg q2]
    exact ag_no hR _
  · rw [if_pos (fourI ht).2, gd_of (bIn_nI ht (by decide)), nI_clamp (by omega)]
    rcases txtThere hR ht with ⟨a, b⟩ | ⟨len, hl, a, b, hy⟩
    · rw [sheet_X1 (Or.inr rfl) ht a, bd_s, if_neg (by decide), b, if_neg m1_neg, find_Y 1 (by decide), bd_s]
      exact ag_findg 1 (by decide) hR
    · rw [sheet_X (Or.inr rfl) ht a (by omega), bd_s, if_pos rfl, b, if_pos (nI_pos' (by omega))]
      obtain ⟨r, A, B, e1, e2, s1, s2, hq⟩ := faultOf_sim hR ht hl a b (fun i hi => (hy i hi).1)
      rw [e1, e2, bd_s, bd_s]
      by_cases hr : r = -9
      · obtain ⟨k, σ, hk2, hD, hX8, h15, h16, hF⟩ := hq hr
        have hk6 := hD.1
        rw [if_pos hr, if_pos hr, h16, lt_v]
        obtain ⟨MX2, eX2, cX⟩ := becomeLike_X 17 8 (by omega) A
        obtain ⟨MX3, eX3, x1, x2, x3⟩ := laneX MX2
        have hX2 : XRep 17 MX2 k σ := by
          refine ⟨by rw [cX.2.2.1]; exact hX8.1, fun s hs => ?_⟩
          rw [cX.2.2.2.1 1 (by omega) (by omega) s (by omega), cX.2.2.2.1 2 (by omega) (by omega) s (by omega), cX.2.2.2.1 3 (by omega) (by omega) s (by omega), cX.2.2.2.1 4 (by omega) (by omega) s (by omega), cX.2.2.2.1 5 (by omega) (by omega) s (by omega), cX.2.2.2.1 6 (by omega) (by omega) s (by omega)]
          exact hX8.2 s hs
        obtain ⟨MY3, eY3, ⟨y1, y2, y3, y4, y5⟩, y6⟩ := laneY (M := wI B 0 1 (nI k)) hk6 (by rw [wI_k, if_pos rfl]) (hF.nk (wI_nk (by decide)))
        rw [eX2, bv_s, eX3, eY3, hX2.1]
        have kx : ∀ c, (c < 7 ∨ 59 ≤ c) → MX3.1 c = MX.1 c := fun c hc => by
          rw [x1 c (by omega), cX.1 c (by omega), s1.1 c (by omega)]
        have kx2 : MX3.2 = MX.2 := by rw [x2, cX.2.1, s1.2]
        have ky : ∀ c, 3 ≤ c → c ≤ 7 → MY3.1 c = MY.1 c := fun c h3 h7 => by
          rw [y1 c (by omega) (by omega), wI_nk (by omega), s2.1 c (by omega) h7]
        have ky0 : ∀ j, 2 ≤ j → j ≤ 10 → MY3.1 0 j = MY.1 0 j := fun j h2 h10 => by
          rw [y1 0 (by decide) (by decide), wI_k, if_neg (by omega), s2.2.1 j h10]
        have ky2 : MY3.2 0 = MY.2 0 := by rw [y2]; exact s2.2.2
        obtain ⟨hr0, htx, htl, _⟩ := hR
        refine ⟨nI k, MX3, MY3, rfl, rfl, hr0.to (kx 1 (by omega)) (kx 2 (by omega)) (kx 3 (by omega)) (ky 3 (by omega) (by omega)) (ky 4 (by omega) (by omega)), htx.to (kx 4 (by omega)) (kx 5 (by omega)) (kx 6 (by omega)) (ky 5 (by omega) (by omega)) (ky 6 (by omega) (by omega)), htl.to (by rw [kx 0 (by omega)]) (by rw [kx 0 (by omega)]) (by rw [kx2]) (kx 59 (by omega)) (ky0 7 (by omega) (by omega)) (ky0 10 (by omega) (by omega)) ky2 (ky 7 (by omega) (by omega)), k, Or.inr ⟨hk2, hk6⟩, by rw [y1 0 (by decide) (by decide), wI_k, if_pos rfl], ⟨0, fun _ => σ, fun _ => rfl, ?_⟩, fun j hj => Or.inl ⟨x3 j hj, y6 j hj⟩⟩
        refine ⟨by omega, hX2.to (fun c h1 h2 => x1 c (by omega)), ?_, fun s hs => ?_, y3, fun i hi => absurd hi (Nat.not_lt_zero i), fun i hi => ?_⟩
        · rw [x1 (17 + 7) (by omega), cX.2.2.2.2.1, h15]; rfl
        · obtain ⟨z1, z2, z3, z4, z5⟩ := y5 s (by omega) hs
          have h19 := y4 s (by omega)
          simp only [Nat.zero_add]
          refine ⟨z1, z2, z3, z4, z5, ?_⟩
          rw [h19, (hD.2 s hs).2.2.2.2.2.2.1]; rfl
        · have : i = 0 := by omega
          subst this
          exact hD.valid
      · rw [if_neg hr, if_neg hr]
        exact ⟨_, A, B, rfl, rfl, rel_same hR s1 s2⟩
