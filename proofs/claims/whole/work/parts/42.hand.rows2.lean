theorem szS_lt {b : Nat} (hb : isS b) : szS b < 2 ^ 31 := by rcases hb with rfl | rfl <;> decide
theorem sheet_X0 {b : Nat} (hb : isS b) {a : Int32} {M : SX} (h : ¬ (0 ≤ a ∧ a < nI (szS b))) : p5_refusalOfSheet b a M = some (-1, M) := by
  rw [p5_refusalOfSheet, isNumber_X b hb, bd_s, it01, if_neg h]
theorem inS {b r : Nat} (hb : isS b) (hr : r < szS b) : 0 ≤ nI r ∧ nI r < nI (szS b) := ⟨nI_pos' (by have := szS_lt hb; omega), nI_lt hr (szS_lt hb)⟩
theorem sheet_X1 {b r : Nat} (hb : isS b) (hr : r < szS b) {M : SX} (hs : M.1 (b + 1) r = -1) : p5_refusalOfSheet b (nI r) M = some (-3, fX 1 M) := by
  have hz := szS_lt hb
  rw [p5_refusalOfSheet, isNumber_X b hb, bd_s, it01, if_pos (inS hb hr), p4_isThere, gd_of (bIn_nI hr hz), nI_clamp (by omega), hs, if_pos rfl, bd_s, if_pos rfl, found_X 1 rfl, bd_s]
theorem sheet_X {b r n : Nat} (hb : isS b) (hr : r < szS b) {M : SX} (hs : M.1 (b + 1) r = nI n) (hn : n ≤ 60) : p5_refusalOfSheet b (nI r) M = some (0, M) := by
  have hz := szS_lt hb
  rw [p5_refusalOfSheet, isNumber_X b hb, bd_s, it01, if_pos (inS hb hr), p4_isThere, gd_of (bIn_nI hr hz), nI_clamp (by omega), hs, if_neg (nI_nm1 (by omega)), bd_s, if_neg (by decide)]
theorem place_X0 {b : Nat} (hb : isS b) {a i : Int32} {M : SX} (h : ¬ (0 ≤ a ∧ a < nI (szS b))) : p5_refusalOfPlace b a i M = some (-1, M) := by
  rw [p5_refusalOfPlace, sheet_X0 hb h, bd_s, if_neg (by decide)]
theorem place_X1 {b r : Nat} (hb : isS b) (hr : r < szS b) {i : Int32} {M : SX} (hs : M.1 (b + 1) r = -1) : p5_refusalOfPlace b (nI r) i M = some (-3, fX 1 M) := by
  rw [p5_refusalOfPlace, sheet_X1 hb hr hs, bd_s, if_neg (by decide)]
theorem nI_sub1 {n : Nat} (h : n < 2 ^ 30) : (nI n - 1).toInt = (n : Int) - 1 := pk_sub_toInt (a := n) (b := 1) h (by decide)
theorem place_X {b r n : Nat} (hb : isS b) (hr : r < szS b) {i : Int32} {M : SX} (hs : M.1 (b + 1) r = nI n) (hn : n ≤ 60) : p5_refusalOfPlace b (nI r) i M = if 0 ≤ i ∧ i < nI n then some (0, M) else some (-3, fX 2 M) := by
  have hz := szS_lt hb
  rw [p5_refusalOfPlace, sheet_X hb hr hs hn, bd_s, if_pos rfl, p4_hasPlaces]
  by_cases h1 : i < 0
  · rw [if_pos h1, bd_s, if_pos rfl, found_X 2 rfl, bd_s, if_neg (fun h => absurd h.1 (Int32.not_le.mpr h1))]
  · rw [if_neg h1, gd_of (bIn_nI hr hz), nI_clamp (by omega), hs]
    by_cases h2 : nI n - 1 < i
    · rw [if_pos h2, bd_s, if_pos rfl, found_X 2 rfl, bd_s, if_neg]
      rintro ⟨-, h⟩
      rw [Int32.lt_iff_toInt_lt] at h h2
      rw [nI_sub1 (by omega)] at h2
      rw [nI_toInt (by omega)] at h
      omega
    · rw [if_neg h2, bd_s, if_neg (by decide), if_pos]
      refine ⟨Int32.not_lt.mp h1, ?_⟩
      rw [Int32.lt_iff_toInt_lt] at h2 ⊢
      rw [nI_sub1 (by omega)] at h2
      rw [nI_toInt (by omega)]
      omega
theorem in_Yn (i : Int32) {n : Nat} (hn : n ≤ 60) (M : SX) : p6_in i.toInt64 0 (nI n - 1).toInt64 M = some (if 0 ≤ i ∧ i < nI n then 1 else 0, M) := by
  rw [show p6_in i.toInt64 0 (nI n - 1).toInt64 M = _ from in_YI i 0 (nI n - 1) M]
  have e : (0 ≤ i ∧ i ≤ nI n - 1) ↔ (0 ≤ i ∧ i < nI n) := by
    rw [Int32.le_iff_toInt_le (x := i), Int32.lt_iff_toInt_lt, nI_sub1 (by omega), nI_toInt (by omega)]
    constructor
    · rintro ⟨a, b⟩; exact ⟨a, by omega⟩
    · rintro ⟨a, b⟩; exact ⟨a, by omega⟩
  by_cases h : 0 ≤ i ∧ i < nI n
  · rw [if_pos h, if_pos (e.mpr h)]
  · rw [if_neg h, if_neg (fun z => h (e.mp z))]
theorem m1_neg : ¬ (0 : Int32) ≤ -1 := by decide
theorem refused_Y0 {a i : Int32} {M : SX} (h : ¬ (0 ≤ a ∧ a ≤ 5)) : p6_refused a i M = some (-1, M) := by
  rw [p6_refused, isRow_Y, bd_s, it01, if_neg h]
theorem refused_Y1 {r : Nat} (hr : r < 6) {i : Int32} {M : SX} (hs : M.1 3 r = -1) : p6_refused (nI r) i M = some (-3, fY 1 M) := by
  rw [p6_refused, isRow_Y, bd_s, it01, if_pos (sixI hr).2, gd_of (bIn_nI hr (by decide)), nI_clamp (by omega), hs, if_neg m1_neg, find_Y 1 rfl, bd_s]
theorem refused_Y {r n : Nat} (hr : r < 6) {i : Int32} {M : SX} (hs : M.1 3 r = nI n) (hn : n ≤ 40) : p6_refused (nI r) i M = if 0 ≤ i ∧ i < nI n then some (0, M) else some (-3, fY 2 M) := by
  rw [p6_refused, isRow_Y, bd_s, it01, if_pos (sixI hr).2, gd_of (bIn_nI hr (by decide)), nI_clamp (by omega), hs, if_pos (nI_pos' (by omega)), in_Yn i (by omega), bd_s, it01, find_Y 2 rfl, bd_s]
/-- rows: refused alike, or there -/
theorem rowThere {MX MY : SX} (hR : Rel MX MY) {r : Nat} (hr : r < 6) : (MX.1 2 r = -1 ∧ MY.1 3 r = -1) ∨ ∃ n, n ≤ 40 ∧ MX.1 2 r = nI n ∧ MY.1 3 r = nI n ∧ ∀ i, i < n → MX.1 3 (40 * r + i) = MY.1 4 (40 * r + i) := by
  obtain ⟨h1, h2⟩ := hR.1.2 r hr
  rcases h2 with h2 | ⟨n, h3, h4, h5⟩
  · exact Or.inl ⟨h2, by rw [← h1]; exact h2⟩
  · exact Or.inr ⟨n, h3, h4, by rw [← h1]; exact h4, h5⟩
theorem placeRow {MX MY : SX} (hR : Rel MX MY) (a i : Int32) : (p5_refusalOfPlace 1 a i MX = some (-1, MX) ∧ p6_refused a i MY = some (-1, MY)) ∨ (∃ f, bIn f 6 = true ∧ p5_refusalOfPlace 1 a i MX = some (-3, fX f MX) ∧ p6_refused a i MY = some (-3, fY f MY)) ∨ ∃ r n j, r < 6 ∧ n ≤ 40 ∧ j < n ∧ a = nI r ∧ i = nI j ∧ MX.1 2 r = nI n ∧ MX.1 3 (40 * r + j) = MY.1 4 (40 * r + j) ∧ p5_refusalOfPlace 1 a i MX = some (0, MX) ∧ p6_refused a i MY = some (0, MY) := by
  rcases six (a := a) with ⟨h1, h2⟩ | ⟨r, hr, rfl⟩
  · exact Or.inl ⟨place_X0 isS_1 h1, refused_Y0 h2⟩
  · rcases rowThere hR hr with ⟨h1, h2⟩ | ⟨n, hn, h1, h2, h3⟩
    · exact Or.inr (Or.inl ⟨1, rfl, place_X1 isS_1 hr h1, refused_Y1 hr h2⟩)
    · have e1 := place_X (i := i) isS_1 (show r < szS 1 from hr) h1 (by omega)
      have e2 := refused_Y (i := i) hr h2 hn
      by_cases h : 0 ≤ i ∧ i < nI n
      · rw [if_pos h] at e1 e2
        obtain ⟨j, hj, rfl⟩ := nI_of (Int32.not_lt.mpr h.1)
        have hjn : j < n := (nI_ltI hj (by omega)).mp h.2
        exact Or.inr (Or.inr ⟨r, n, j, hr, hn, hjn, rfl, rfl, h1, h3 j hjn, e1, e2⟩)
      · rw [if_neg h] at e1 e2
        exact Or.inr (Or.inl ⟨2, rfl, e1, e2⟩)
/-- what is told last is told -/
theorem rel_tell {MX MY : SX} (v : Int32) (hR : Rel MX MY) : Rel (wI MX 0 8 v) (wI MY 0 7 v) := by
  obtain ⟨h1, h2, h3, h4⟩ := hR
  refine ⟨h1.to (wI_nk (by decide)) (wI_nk (by decide)) (wI_nk (by decide)) (wI_nk (by decide)) (wI_nk (by decide)), h2.to (wI_nk (by decide)) (wI_nk (by decide)) (wI_nk (by decide)) (wI_nk (by decide)) (wI_nk (by decide)), ?_, h4.to (fun k a b => wI_nk (by omega)) (by rw [wI_k, if_neg (by decide)]) (wI_nk (by decide)) (wI_nk (by decide))⟩
  obtain ⟨g1, g2, g3, g4, g5⟩ := h3
  refine ⟨by rw [wI_k, wI_k, if_pos rfl, if_pos rfl], by rw [wI_k, wI_k, if_neg (by decide), if_neg (by decide)]; exact g2, g3, g4, fun f hf => by rw [wI_nk (by decide), wI_nk (by decide)]; exact g5 f hf⟩
/-- a place of a row is laid -/
theorem rel_lay {MX MY : SX} {r j n : Nat} (v : Int32) (hr : r < 6) (hn : n ≤ 40) (hj : j < n) (hs : MX.1 2 r = nI n) (hR : Rel MX MY) : Rel (wI MX 3 (40 * r + j) v) (wI MY 4 (40 * r + j) v) := by
  obtain ⟨h1, h2, h3, h4⟩ := hR
  refine ⟨?_, h2.to (wI_nk (by decide)) (wI_nk (by decide)) (wI_nk (by decide)) (wI_nk (by decide)) (wI_nk (by decide)), h3.to (by rw [wI_nk (by decide)]) (by rw [wI_nk (by decide)]) rfl (wI_nk (by decide)) (by rw [wI_nk (by decide)]) (by rw [wI_nk (by decide)]) rfl (wI_nk (by decide)), h4.to (fun k a b => wI_nk (by omega)) (by rw [wI_nk (by decide)]) (wI_nk (by decide)) (wI_nk (by decide))⟩
  obtain ⟨g1, g2⟩ := h1
  refine ⟨by rw [wI_nk (by decide)]; exact g1, fun q hq => ?_⟩
  rw [wI_nk (by decide : (2 : Nat) ≠ 3), wI_nk (by decide : (3 : Nat) ≠ 4)]
  obtain ⟨k1, k2⟩ := g2 q hq
  refine ⟨k1, ?_⟩
  rcases k2 with k2 | ⟨m, k3, k4, k5⟩
  · exact Or.inl k2
  · refine Or.inr ⟨m, k3, k4, fun i hi => ?_⟩
    rw [wI_k, wI_k]
    by_cases e : 40 * q + i = 40 * r + j
    · rw [if_pos e, if_pos e]
    · rw [if_neg e, if_neg e]
      exact k5 i hi
theorem tell_Y (v : Int32) (M : SX) : p6_tell v M = some (1, wI M 0 7 v) := rfl
theorem ag_at (a1 a2 : Int32) (MX MY : SX) (hR : Rel MX MY) : Ag (p5_at a1 a2 MX) (p6_at a1 a2 MY) := by
  rw [p5_at, p6_at]
  rcases placeRow hR a1 a2 with ⟨e1, e2⟩ | ⟨f, hf, e1, e2⟩ | ⟨r, n, j, hr, hn, hj, rfl, rfl, hs, hv, e1, e2⟩
  · rw [e1, e2, bd_s, bd_s, if_neg (by decide), if_neg (by decide)]
    exact ⟨_, _, _, rfl, rfl, hR⟩
  · rw [e1, e2, bd_s, bd_s, if_neg (by decide), if_neg (by decide)]
    exact ag_findg f hf hR
  · rw [e1, e2, bd_s, bd_s, if_pos rfl, if_pos rfl, valueAt_X (w := 40) hR.1.1 (by omega), bd_s, lt_v]
    rw [show (40 : Int32) * nI r + nI j = nI (40 * r + j) from clampIx2 (w := 40), gd_of (bIn_nI (by omega) (by decide)), nI_clamp (by omega), tell_Y, bd_s, ← hv]
    exact ⟨_, _, _, rfl, rfl, rel_tell _ hR⟩
theorem wI_swap (M : SX) {a b : Nat} (h : a ≠ b) (i j : Nat) (v w : Int32) : wI (wI M a i v) b j w = wI (wI M b j w) a i v := by
  apply Prod.ext
  · funext k
    simp only [wI_1]
    by_cases h1 : k = a
    · subst h1
      simp [h, Ne.symm h]
    · by_cases h2 : k = b
      · subst h2
        simp [h, Ne.symm h, h1]
      · simp [h1, h2]
  · rfl
theorem ag_lay (a1 a2 a3 : Int32) (MX MY : SX) (hR : Rel MX MY) : Ag (p5_lay a1 a2 a3 MX) (p6_lay a1 a2 a3 MY) := by
  rw [p5_lay, p6_lay]
  rcases placeRow hR a1 a2 with ⟨e1, e2⟩ | ⟨f, hf, e1, e2⟩ | ⟨r, n, j, hr, hn, hj, rfl, rfl, hs, hv, e1, e2⟩
  · rw [e1, e2, bd_s, bd_s, if_neg (by decide), if_neg (by decide)]
    exact ⟨_, _, _, rfl, rfl, hR⟩
  · rw [e1, e2, bd_s, bd_s, if_neg (by decide), if_neg (by decide)]
    exact ag_findg f hf hR
  · rw [e1, e2, bd_s, bd_s, if_pos rfl, if_pos rfl, valueAt_X (w := 40) hR.1.1 (by omega), bd_s, lt_v, setValue_X (w := 40) (by rw [wI_nk (by decide)]; exact hR.1.1) (by omega), bv_s]
    rw [show (40 : Int32) * nI r + nI j = nI (40 * r + j) from clampIx2 (w := 40), gd_of (bIn_nI (by omega) (by decide)), nI_clamp (by omega), lt_v, lt_v, tell_Y, bd_s, ← hv, wI_swap MX (by decide : (0 : Nat) ≠ 1 + 2)]
    exact ⟨_, _, _, rfl, rfl, rel_tell _ (rel_lay a3 hr hn hj hs hR)⟩
theorem ag_tear (a1 : Int32) (MX MY : SX) (hR : Rel MX MY) : Ag (p5_tear a1 MX) (p6_tear a1 MY) := by
  rw [p5_tear, p6_tear, isRow_Y, bd_s, it01]
  rcases six (a := a1) with ⟨h1, h2⟩ | ⟨r, hr, rfl⟩
  · rw [sheet_X0 isS_1 h1, bd_s, if_neg (by decide), if_neg h2]
    exact ⟨_, _, _, rfl, rfl, hR⟩
  · rw [if_pos (sixI hr).2, gd_of (bIn_nI hr (by decide)), nI_clamp (by omega)]
    rcases rowThere hR hr with ⟨h1, h2⟩ | ⟨n, hn, h1, h2, h3⟩
    · rw [sheet_X1 isS_1 hr h1, bd_s, if_neg (by decide), h2, if_neg m1_neg, find_Y 1 rfl, bd_s]
      exact ag_findg 1 rfl hR
    · rw [sheet_X isS_1 hr h1 (by omega), bd_s, if_pos rfl, h2, if_pos (nI_pos' (by omega)), p4_remove, gd_of (bIn_nI (show r < szS 1 from hr) (by decide)), nI_clamp (by omega), lt_v, lt_v, bv_s]
      refine ⟨_, _, _, rfl, rfl, ?_⟩
      obtain ⟨g1, g2, g3, g4⟩ := hR
      refine ⟨?_, g2.to (wI_nk (by decide)) (wI_nk (by decide)) (wI_nk (by decide)) (wI_nk (by decide)) (wI_nk (by decide)), g3.to (by rw [wI_nk (by decide)]) (by rw [wI_nk (by decide)]) rfl (wI_nk (by decide)) (by rw [wI_nk (by decide)]) (by rw [wI_nk (by decide)]) rfl (wI_nk (by decide)), g4.to (fun k a b => wI_nk (by omega)) (by rw [wI_nk (by decide)]) (wI_nk (by decide)) (wI_nk (by decide))⟩
      refine ⟨by rw [wI_nk (by decide)]; exact g1.1, fun q hq => ?_⟩
      have e1 : (wI MX (1 + 1) r (-1)).1 2 q = if q = r then -1 else MX.1 2 q := wI_k
      have e2 : (wI MY 3 r (-1)).1 3 q = if q = r then -1 else MY.1 3 q := wI_k
      rw [e1, e2, wI_nk (by decide : (3 : Nat) ≠ 1 + 1), wI_nk (by decide : (4 : Nat) ≠ 3)]
      by_cases e : q = r
      · rw [if_pos e, if_pos e]; exact ⟨rfl, Or.inl rfl⟩
      · rw [if_neg e, if_neg e]; exact g1.2 q hq
