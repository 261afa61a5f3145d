/-! lanes kept -/
theorem va_cpy0 (f g : Nat → Int32) {n k : Nat} (h : k < n) : va_cpy f g (Int32.toNatClampNeg 0) (Int32.toNatClampNeg 0) n k = f k := by
  show (if 0 ≤ k ∧ k < 0 + n then f (0 + (k - 0)) else g k) = f k
  rw [if_pos ⟨Nat.zero_le k, by omega⟩, Nat.zero_add, Nat.sub_zero]
def Cp (b b2 : Nat) (M M' : SX) : Prop := (∀ c, (c < b ∨ b + 9 ≤ c) → M'.1 c = M.1 c) ∧ M'.2 = M.2 ∧ M'.1 b 0 = M.1 b2 0 ∧ (∀ f, 1 ≤ f → f ≤ 6 → ∀ s, s < 6 → M'.1 (b + f) s = M.1 (b2 + f) s) ∧ M'.1 (b + 7) 1 = M.1 (b2 + 7) 1 ∧ ∀ i, i < 40 → M'.1 (b + 8) i = M.1 (b2 + 8) i
theorem six16 {f : Nat} (h : 1 ≤ f) (h2 : f ≤ 6) : f = 1 ∨ f = 2 ∨ f = 3 ∨ f = 4 ∨ f = 5 ∨ f = 6 := by omega
theorem becomeLike_X (b b2 : Nat) (hd : b + 9 ≤ b2 ∨ b2 + 9 ≤ b) (M : SX) : ∃ M', p1_becomeLike b b2 M = some M' ∧ Cp b b2 M M' := by
  rw [p1_becomeLike, lt_v, gd_of (by decide), lt_v, lt_v, lt_v, lt_v, lt_v, lt_v, p0_becomeLike, gd_of (by decide), lt_v, lt_v, bv_s]
  refine ⟨_, rfl, fun c hc => ?_, rfl, ?_, fun f h1 h6 s hs => ?_, ?_, fun i hi => ?_⟩
  · rw [wI_nk (by omega), wR_nk (by omega), wR_nk (by omega), wR_nk (by omega), wR_nk (by omega), wR_nk (by omega), wR_nk (by omega), wR_nk (by omega), wI_nk (by omega)]
  · rw [wI_nk (by omega), wR_nk (by omega), wR_nk (by omega), wR_nk (by omega), wR_nk (by omega), wR_nk (by omega), wR_nk (by omega), wR_nk (by omega), wI_k, if_pos rfl]
  · rcases six16 h1 h6 with rfl | rfl | rfl | rfl | rfl | rfl
    · rw [wI_nk (by omega), wR_nk (by omega), wR_nk (by omega), wR_nk (by omega), wR_nk (by omega), wR_nk (by omega), wR_nk (by omega), wR_self, show Int32.toNatClampNeg 6 = 6 from rfl, va_cpy0 _ _ hs, wI_nk (by omega)]
    · rw [wI_nk (by omega), wR_nk (by omega), wR_nk (by omega), wR_nk (by omega), wR_nk (by omega), wR_nk (by omega), wR_self, show Int32.toNatClampNeg 6 = 6 from rfl, va_cpy0 _ _ hs, wR_nk (by omega), wI_nk (by omega)]
    · rw [wI_nk (by omega), wR_nk (by omega), wR_nk (by omega), wR_nk (by omega), wR_nk (by omega), wR_self, show Int32.toNatClampNeg 6 = 6 from rfl, va_cpy0 _ _ hs, wR_nk (by omega), wR_nk (by omega), wI_nk (by omega)]
    · rw [wI_nk (by omega), wR_nk (by omega), wR_nk (by omega), wR_nk (by omega), wR_self, show Int32.toNatClampNeg 6 = 6 from rfl, va_cpy0 _ _ hs, wR_nk (by omega), wR_nk (by omega), wR_nk (by omega), wI_nk (by omega)]
    · rw [wI_nk (by omega), wR_nk (by omega), wR_nk (by omega), wR_self, show Int32.toNatClampNeg 6 = 6 from rfl, va_cpy0 _ _ hs, wR_nk (by omega), wR_nk (by omega), wR_nk (by omega), wR_nk (by omega), wI_nk (by omega)]
    · rw [wI_nk (by omega), wR_nk (by omega), wR_self, show Int32.toNatClampNeg 6 = 6 from rfl, va_cpy0 _ _ hs, wR_nk (by omega), wR_nk (by omega), wR_nk (by omega), wR_nk (by omega), wR_nk (by omega), wI_nk (by omega)]
  · rw [wI_k, if_pos rfl, wR_nk (by omega), wR_nk (by omega), wR_nk (by omega), wR_nk (by omega), wR_nk (by omega), wR_nk (by omega), wR_nk (by omega), wI_nk (by omega)]
  · rw [wI_nk (by omega), show b + 8 = b + 7 + 1 from rfl, wR_self, show Int32.toNatClampNeg 40 = 40 from rfl, va_cpy0 _ _ hi, wR_nk (by omega), wR_nk (by omega), wR_nk (by omega), wR_nk (by omega), wR_nk (by omega), wR_nk (by omega), wI_nk (by omega)]
def CpY (a b : Nat) (M M' : SX) : Prop := (∀ k, k ≠ 1 → M'.1 k = M.1 k) ∧ M'.2 = M.2 ∧ (∀ j, j < 991 → M'.1 1 (b + j) = M.1 1 (a + j)) ∧ ∀ j, (j < b ∨ b + 991 ≤ j) → M'.1 1 j = M.1 1 j
theorem copyLane_Y (a b : Nat) (ha : a + 991 ≤ 3964) (hb : b + 991 ≤ 3964) (hd : a + 991 ≤ b ∨ b + 991 ≤ a) (M : SX) : ∃ M', p6_copyLane (nI a) (nI b) M = some M' ∧ CpY a b M M' := by
  rw [p6_copyLane]
  refine lp3_inv (fun _ => nI a) (fun _ => nI b) (fun v => nI v) (fun v N => (∀ k, k ≠ 1 → N.1 k = M.1 k) ∧ N.2 = M.2 ∧ (∀ j, j < v → N.1 1 (b + j) = M.1 1 (a + j)) ∧ ∀ j, (j < b ∨ b + v ≤ j) → N.1 1 j = M.1 1 j) 991 (by omega) (fun x => ∃ M', x = some M' ∧ CpY a b M M') ?_ ?_ M ⟨fun _ _ => rfl, rfl, fun j hj => absurd hj (Nat.not_lt_zero j), fun _ _ => rfl⟩
  · rintro v hv0 N ⟨u1, u2, u3, u4⟩ rc
    refine ⟨wI N 1 (b + v) (M.1 1 (a + v)), ?_, fun k hk => by rw [wI_nk hk]; exact u1 k hk, u2, fun j hj => ?_, fun j hj => ?_⟩
    · rw [p6_copyLane_2, if_neg (show ¬ (991 : Int32) ≤ nI v from nI_ge (b := 991) hv0 (by omega)), nI_add, nI_add, gd_of (bIn_nI (by omega) (by decide)), gd_of (bIn_nI (by omega) (by decide)), nI_clamp (by omega), nI_clamp (by omega), u4 (a + v) (by omega), lt_v, lt_v, nI_1]
    · rw [wI_k]
      by_cases c : j = v
      · rw [if_pos (by rw [c]), c]
      · rw [if_neg (by omega)]; exact u3 j (by omega)
    · rw [wI_k, if_neg (by omega)]; exact u4 j (by omega)
  · rintro N hN rc
    rw [p6_copyLane_2, if_pos (by decide)]
    exact ⟨N, rfl, hN⟩
theorem LaneAt.mv {b o b2 o2 : Nat} {MX MY MX' MY' : SX} {n d : Nat} {st : Nat → LV} (h : LaneAt b2 o2 MX MY n d st) (hn : n ≤ 6) (hx : Cp b b2 MX MX') (hy : CpY o2 o MY MY') : LaneAt b o MX' MY' n d st := by
  obtain ⟨g1, g2, g3, g4, g5, g6, g7⟩ := h
  obtain ⟨_, _, x3, x4, x5, x6⟩ := hx
  obtain ⟨y1, _, y3, _⟩ := hy
  refine ⟨g1, ?_, ?_, ?_, ?_, ?_, g7⟩
  · refine XRep_i.mpr ⟨by rw [x3]; exact g2.1, fun f hf s hs => ?_⟩
    have := (XRep_i.mp g2).2 f hf s hs
    rw [show b + 1 + f = b + (1 + f) by omega, x4 (1 + f) (by omega) (by omega) s (by omega), ← Nat.add_assoc]
    exact this
  · rw [x5]; exact g3
  · intro s hs
    have e := g4 s hs
    rw [y1 2 (by omega), show o + 1 + s = o + (1 + s) by omega, y3 (1 + s) (by omega), show o + 25 + s = o + (25 + s) by omega, y3 (25 + s) (by omega), show o + 7 + s = o + (7 + s) by omega, y3 (7 + s) (by omega), show o + 13 + s = o + (13 + s) by omega, y3 (13 + s) (by omega), show o + 19 + s = o + (19 + s) by omega, y3 (19 + s) (by omega)]
    simp only [← Nat.add_assoc]
    exact e
  · have := y3 0 (by omega)
    rw [Nat.add_zero, Nat.add_zero] at this
    rw [this]; exact g5
  · intro i hi
    rw [x6 i (by omega)]
    refine ⟨fun s hs => ?_, (g6 i hi).2⟩
    have e := (g6 i hi).1 s hs
    rw [show o + 31 + 24 * i + s = o + (31 + 24 * i + s) by omega, y3 (31 + 24 * i + s) (by omega), show o + 31 + 24 * i + (6 + s) = o + (31 + 24 * i + (6 + s)) by omega, y3 (31 + 24 * i + (6 + s)) (by omega), show o + 31 + 24 * i + (12 + s) = o + (31 + 24 * i + (12 + s)) by omega, y3 (31 + 24 * i + (12 + s)) (by omega), show o + 31 + 24 * i + (18 + s) = o + (31 + 24 * i + (18 + s)) by omega, y3 (31 + 24 * i + (18 + s)) (by omega)]
    rw [show o2 + (31 + 24 * i + s) = o2 + 31 + 24 * i + s by omega, show o2 + (31 + 24 * i + (6 + s)) = o2 + 31 + 24 * i + (6 + s) by omega, show o2 + (31 + 24 * i + (12 + s)) = o2 + 31 + 24 * i + (12 + s) by omega, show o2 + (31 + 24 * i + (18 + s)) = o2 + 31 + 24 * i + (18 + s) by omega]
    exact e
theorem kIx1 {k : Nat} (h : k < 3) : (991 * (1 + nI k) : Int32) = nI (991 * (1 + k)) := by
  rw [show (1 : Int32) + nI k = nI (1 + k) from nI_add 1 k, show (991 : Int32) * nI (1 + k) = nI (991 * (1 + k)) from pk_mul 991 (1 + k)]
theorem ag_keep (a1 : Int32) (MX MY : SX) (hR : Rel MX MY) : Ag (p5_keep a1 MX) (p6_keep a1 MY) := by
  have hR' := hR
  obtain ⟨hr, ht, hl0, n, hn, h0, ⟨d, st, hz, hl⟩, hkp⟩ := hR
  rw [p5_keep, p6_keep, show p6_in a1.toInt64 0 2 MY = _ from in_YI a1 0 2 MY, bd_s, it01]
  rcases arg3 a1 0 2 (by decide) (by decide) with ⟨q1, q2⟩ | ⟨q1, q2, q3⟩ | ⟨k, _, hk, rfl⟩
  · rw [if_pos (show a1 < 0 from q1), if_neg (show ¬ (0 ≤ a1 ∧ a1 ≤ 2) from q2)]
    exact ag_no hR' _
  · rw [if_neg (show ¬ a1 < 0 from q1), if_neg (show ¬ (0 ≤ a1 ∧ a1 ≤ 2) from q3), if_neg (show ¬ a1 < 3 from fun z => ?_)]
    · exact ag_no hR' _
    · have h4 : (2 : Int32) < a1 := q2
      rw [Int32.lt_iff_toInt_lt] at z h4
      have e1 : (3 : Int32).toInt = 3 := rfl
      have e2 : (2 : Int32).toInt = 2 := rfl
      omega
  · have hk3 : k < 3 := by omega
    rw [if_neg (show ¬ nI k < 0 from nI_pos (by omega)), if_pos (show nI k < 3 from nI_lt (b := 3) hk3 (by decide)), if_pos (show 0 ≤ nI k ∧ nI k ≤ 2 from ⟨nI_pos' (by omega), nI_le (b := 2) hk (by decide)⟩), hl.2.1.1, h0]
    by_cases hn0 : n = 0
    · subst hn0
      rw [if_pos nI_0, if_pos nI_0]
      exact ag_no hR' _
    · have hz0 := nI_ne0 (n := n) (by omega) (by omega)
      obtain ⟨MX', eX, cX⟩ := becomeLike_X (27 + 9 * k) 17 (by omega) MX
      obtain ⟨MY', eY, cY⟩ := copyLane_Y 0 (991 * (1 + k)) (by omega) (by omega) (by omega) MY
      rw [if_neg hz0, if_neg hz0, gd_of (bIn_nI hk3 (by decide)), nI_clamp (by omega), eX, bv_s, kIx1 hk3, show p6_copyLane 0 (nI (991 * (1 + k))) MY = some MY' from eY, bv_s, gd_of bIn0, z0]
      have hmain : LaneAt 17 0 MX' MY' n d st := hl.to2 (by omega) (fun c h1 h2 => cX.1 c (by omega)) (fun j h1 h2 => cY.2.2.2 j (by omega)) (cY.1 2 (by omega))
      refine ⟨_, _, MY', rfl, ?_, ?_⟩
      · rw [show MX'.1 (17 + 7) 1 = nI d from hmain.2.2.1, hmain.2.2.2.2.1]
      · refine ⟨hr.to (cX.1 1 (by omega)) (cX.1 2 (by omega)) (cX.1 3 (by omega)) (cY.1 3 (by omega)) (cY.1 4 (by omega)), ht.to (cX.1 4 (by omega)) (cX.1 5 (by omega)) (cX.1 6 (by omega)) (cY.1 5 (by omega)) (cY.1 6 (by omega)), hl0.to (by rw [cX.1 0 (by omega)]) (by rw [cX.1 0 (by omega)]) (by rw [cX.2.1]) (cX.1 59 (by omega)) (by rw [cY.1 0 (by omega)]) (by rw [cY.1 0 (by omega)]) (by rw [cY.2.1]) (cY.1 7 (by omega)), n, hn, by rw [cY.1 0 (by omega)]; exact h0, ⟨d, st, hz, hmain⟩, fun j hj => ?_⟩
        by_cases c : j = k
        · subst c
          exact Or.inr ⟨by omega, d, st, hl.mv (by omega) cX cY⟩
        · rcases hkp j hj with ⟨a, b⟩ | ⟨a, d2, st2, hl2⟩
          · exact Or.inl ⟨by rw [cX.1 _ (by omega)]; exact a, by rw [cY.2.2.2 _ (by omega)]; exact b⟩
          · exact Or.inr ⟨a, d2, st2, hl2.to2 (by omega) (fun c h1 h2 => cX.1 c (by omega)) (fun i h1 h2 => cY.2.2.2 i (by omega)) (cY.1 2 (by omega))⟩
theorem ag_on (a1 : Int32) (MX MY : SX) (hR : Rel MX MY) : Ag (p5_on a1 MX) (p6_on a1 MY) := by
  have hR' := hR
  obtain ⟨hr, ht, hl0, n, hn, h0, ⟨d, st, hz, hl⟩, hkp⟩ := hR
  rw [p5_on, p6_on, show p6_in a1.toInt64 0 2 MY = _ from in_YI a1 0 2 MY, bd_s, it01]
  rcases arg3 a1 0 2 (by decide) (by decide) with ⟨q1, q2⟩ | ⟨q1, q2, q3⟩ | ⟨k, _, hk, rfl⟩
  · rw [if_pos (show a1 < 0 from q1), if_neg (show ¬ (0 ≤ a1 ∧ a1 ≤ 2) from q2)]
    exact ag_no hR' _
  · rw [if_neg (show ¬ a1 < 0 from q1), if_neg (show ¬ (0 ≤ a1 ∧ a1 ≤ 2) from q3), if_neg (show ¬ a1 < 3 from fun z => ?_)]
    · exact ag_no hR' _
    · have h4 : (2 : Int32) < a1 := q2
      rw [Int32.lt_iff_toInt_lt] at z h4
      have e1 : (3 : Int32).toInt = 3 := rfl
      have e2 : (2 : Int32).toInt = 2 := rfl
      omega
  · have hk3 : k < 3 := by omega
    rw [if_neg (show ¬ nI k < 0 from nI_pos (by omega)), if_pos (show nI k < 3 from nI_lt (b := 3) hk3 (by decide)), if_pos (show 0 ≤ nI k ∧ nI k ≤ 2 from ⟨nI_pos' (by omega), nI_le (b := 2) hk (by decide)⟩), gd_of (bIn_nI hk3 (by decide)), nI_clamp (by omega), kIx hk3, gd_of (bIn_nI (by omega) (by decide)), nI_clamp (by omega)]
    rcases hkp k hk3 with ⟨a, b⟩ | ⟨hn0, d2, st2, hl2⟩
    · rw [a, b, if_pos rfl, if_neg (by decide), found_X 1 (by decide), find_Y 1 (by decide), bd_s, bd_s]
      exact ag_findg 1 (by decide) hR'
    · obtain ⟨MX', eX, cX⟩ := becomeLike_X 17 (27 + 9 * k) (by omega) MX
      obtain ⟨MY', eY, cY⟩ := copyLane_Y (991 * (1 + k)) 0 (by omega) (by omega) (by omega) MY
      have hmain : LaneAt 17 0 MX' MY' n d2 st2 := hl2.mv (by omega) cX cY
      have hz0 := nI_ne0 (n := n) (by omega) (by omega)
      rw [hl2.2.1.1, hl2.2.2.2.2.1, if_neg hz0, if_pos (nI_pos' (by have := hl2.1; omega)), eX, bv_s, kIx1 hk3, show p6_copyLane (nI (991 * (1 + k))) 0 MY = some MY' from eY, bv_s, gd_of bIn0, z0]
      refine ⟨_, _, MY', rfl, ?_, ?_⟩
      · rw [show MX'.1 (17 + 7) 1 = nI d2 from hmain.2.2.1, hmain.2.2.2.2.1]
      · exact rel_lane hR' h0 (by omega) (fun c hc => cX.1 c (by omega)) cX.2.1 cY.1 cY.2.1 (fun j hj => cY.2.2.2 j (by omega)) ⟨d2, st2, fun z => by omega, hmain⟩
