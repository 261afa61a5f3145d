/-! rows -/
/-- a row's number: refused alike, or one of six -/
theorem six {a : Int32} : (¬ (0 ≤ a ∧ a < nI (szS 1)) ∧ ¬ (0 ≤ a ∧ a ≤ 5)) ∨ ∃ j, j < 6 ∧ a = nI j := by
  rcases ix3 a 6 (by decide) with h | h | h
  · exact Or.inl ⟨fun z => absurd z.1 (Int32.not_le.mpr h), fun z => absurd z.1 (Int32.not_le.mpr h)⟩
  · exact Or.inl ⟨fun z => absurd z.2 (Int32.not_lt.mpr h), fun z => absurd (Int32.le_trans h z.2) (by decide)⟩
  · exact Or.inr h
theorem four {a : Int32} : (¬ (0 ≤ a ∧ a < nI (szS 4)) ∧ ¬ (0 ≤ a ∧ a ≤ 3)) ∨ ∃ j, j < 4 ∧ a = nI j := by
  rcases ix3 a 4 (by decide) with h | h | h
  · exact Or.inl ⟨fun z => absurd z.1 (Int32.not_le.mpr h), fun z => absurd z.1 (Int32.not_le.mpr h)⟩
  · exact Or.inl ⟨fun z => absurd z.2 (Int32.not_lt.mpr h), fun z => absurd (Int32.le_trans h z.2) (by decide)⟩
  · exact Or.inr h
theorem sixI {j : Nat} (h : j < 6) : (0 ≤ nI j ∧ nI j < nI (szS 1)) ∧ (0 ≤ nI j ∧ nI j ≤ 5) := ⟨⟨nI_pos' (by omega), nI_lt h (by decide)⟩, nI_pos' (by omega), (nI_leI (b := 5) (by omega) (by decide)).mpr (by omega)⟩
theorem fourI {j : Nat} (h : j < 4) : (0 ≤ nI j ∧ nI j < nI (szS 4)) ∧ (0 ≤ nI j ∧ nI j ≤ 3) := ⟨⟨nI_pos' (by omega), nI_lt h (by decide)⟩, nI_pos' (by omega), (nI_leI (b := 3) (by omega) (by decide)).mpr (by omega)⟩
/-- places of a sheet of w places are filled from its beginning on -/
def filled (M : SX) (c at_ n : Nat) (v : Int32) : SX := wR M c (fun i => if at_ ≤ i ∧ i < at_ + n then v else M.1 c i)
theorem filled_0 (M : SX) (c at_ : Nat) (v : Int32) : filled M c at_ 0 v = M := by
  unfold filled
  apply Prod.ext
  · funext a
    rw [wR_1]
    by_cases h : a = c
    · subst h
      rw [if_pos rfl]
      funext i
      rw [if_neg (by omega)]
    · rw [if_neg h]
  · rfl
theorem filled_s (M : SX) (c at_ n : Nat) (v : Int32) : wI (filled M c at_ n v) c (at_ + n) v = filled M c at_ (n + 1) v := by
  unfold filled
  apply Prod.ext
  · funext a
    rw [wI_1, wR_1, wR_1]
    by_cases h : a = c
    · subst h
      rw [if_pos rfl, if_pos rfl, wR_1, if_pos rfl]
      funext i
      unfold upd
      by_cases e : i = at_ + n
      · rw [if_pos e, if_pos (by omega)]
      · rw [if_neg e]
        by_cases g : at_ ≤ i ∧ i < at_ + n
        · show (if at_ ≤ i ∧ i < at_ + n then v else M.1 a i) = _
          rw [if_pos g, if_pos (by omega)]
        · show (if at_ ≤ i ∧ i < at_ + n then v else M.1 a i) = _
          rw [if_neg g, if_neg (by omega)]
    · rw [if_neg h, if_neg h, wR_nk h]
  · rfl
theorem clampIx {w r i : Nat} (h : w * r + i < 2 ^ 31) : (nI r * nI w + nI i) = nI (w * r + i) := by
  rw [pk_mul, nI_add, Nat.mul_comm]
theorem clampIx2 {w r i : Nat} : (nI w * nI r + nI i) = nI (w * r + i) := by
  rw [pk_mul, nI_add]
theorem setValue_X {b : Nat} {r i w : Nat} {v : Int32} {M : SX} (hw : M.1 b 0 = nI w) (h : w * r + i < 240) : p4_setValue b (nI r) (nI i) v M = some (wI M (b + 2) (w * r + i) v) := by
  unfold p4_setValue
  rw [hw, clampIx (by omega), gd_of (bIn_nI h (by decide)), lt_v, nI_clamp (by omega)]
theorem valueAt_X {b : Nat} {r i w : Nat} {M : SX} (hw : M.1 b 0 = nI w) (h : w * r + i < 240) : p4_valueAt b (nI r) (nI i) M = some (M.1 (b + 2) (w * r + i), M) := by
  unfold p4_valueAt
  rw [hw, clampIx (by omega), gd_of (bIn_nI h (by decide)), nI_clamp (by omega)]
theorem begin_loop {b r n w : Nat} {v : Int32} (hn : n ≤ w) (hr : w * r + w ≤ 240) : ∀ (k i : Nat) (M M1 : SX), i ≤ n → n - i < k → M.1 b 0 = nI w → M1 = filled M (b + 2) (w * r) i v → xlp4 (p4_begin_10 b) k (nI r) (nI n) v (nI i) M1 = some (filled M (b + 2) (w * r) n v) := by
  intro k
  induction k with
  | zero => intro i M M1 _ h; omega
  | succ k ih =>
    intro i M M1 hi hk hw e
    show p4_begin_10 b (xlp4 (p4_begin_10 b) k) (nI r) (nI n) v (nI i) M1 = _
    rw [p4_begin_10]
    by_cases hc : i = n
    · subst hc
      rw [if_pos (Int32.le_refl _), e]
    · rw [if_neg (nI_ge (by omega) (by omega))]
      have hw1 : M1.1 b 0 = nI w := by
        rw [e]
        unfold filled
        rw [wR_nk (by omega)]
        exact hw
      rw [setValue_X hw1 (by omega), bv_s, lt_v, nI_1]
      refine ih (i + 1) M _ (by omega) (by omega) hw ?_
      rw [e, filled_s]
theorem begin_X {b r n w : Nat} {v : Int32} {M : SX} (hb : isS b) (hr0 : r < szS b) (hn : n ≤ w) (hr : w * r + w ≤ 240) (hw : M.1 b 0 = nI w) : p4_begin b (nI r) (nI n) v M = some (filled (wI M (b + 1) r (nI n)) (b + 2) (w * r) n v) := by
  unfold p4_begin
  have hz : szS b < 2 ^ 31 := by rcases hb with rfl | rfl <;> decide
  rw [gd_of (bIn_nI hr0 hz), lt_v, nI_clamp (by omega)]
  exact begin_loop hn hr FU 0 (wI M (b + 1) r (nI n)) _ (by omega) (by unfold FU; omega) (by rw [wI_nk (by omega)]; exact hw) (by rw [filled_0])
theorem makeRow_loop {r : Nat} (hr : r < 6) : ∀ (k i : Nat) (M M1 : SX), i ≤ 40 → 40 - i < k → M1 = filled M 4 (40 * r) i 0 → xlp2 p6_makeRow_9 k (nI r) (nI i) M1 = some (filled M 4 (40 * r) 40 0) := by
  intro k
  induction k with
  | zero => intro i M M1 _ h; omega
  | succ k ih =>
    intro i M M1 hi hk e
    show p6_makeRow_9 (xlp2 p6_makeRow_9 k) (nI r) (nI i) M1 = _
    rw [p6_makeRow_9]
    by_cases hc : i = 40
    · subst hc
      rw [if_pos (by decide), e]
    · rw [if_neg (show ¬ (40 : Int32) ≤ nI i from nI_ge (b := 40) (by omega) (by omega))]
      rw [show (40 : Int32) * nI r + nI i = nI (40 * r + i) from clampIx2 (w := 40), gd_of (bIn_nI (by omega) (by decide)), lt_v, lt_v, nI_clamp (by omega), nI_1]
      refine ih (i + 1) M _ (by omega) (by omega) ?_
      rw [e, filled_s]
theorem makeRow_Y {r : Nat} {n : Int32} {M : SX} (hr : r < 6) : p6_makeRow (nI r) n M = some (filled (wI M 3 r n) 4 (40 * r) 40 0) := by
  unfold p6_makeRow
  rw [gd_of (bIn_nI hr (by decide)), lt_v, nI_clamp (by omega)]
  exact makeRow_loop hr FU 0 (wI M 3 r n) _ (by omega) (by unfold FU; omega) (by rw [filled_0])
theorem filled_1 (M : SX) (c at_ n : Nat) (v : Int32) (k : Nat) : (filled M c at_ n v).1 k = if k = c then (fun i => if at_ ≤ i ∧ i < at_ + n then v else M.1 c i) else M.1 k := rfl
/-- a row is made anew on both sides -/
def mkX (M : SX) (r n : Nat) : SX := filled (wI M 2 r (nI n)) 3 (40 * r) n 0
def mkY (M : SX) (r n : Nat) : SX := filled (wI M 3 r (nI n)) 4 (40 * r) 40 0
theorem mkX_nk {M : SX} {r n k : Nat} (h1 : k ≠ 2) (h2 : k ≠ 3) : (mkX M r n).1 k = M.1 k := by unfold mkX; rw [filled_1, if_neg h2, wI_nk h1]
theorem mkY_nk {M : SX} {r n k : Nat} (h1 : k ≠ 3) (h2 : k ≠ 4) : (mkY M r n).1 k = M.1 k := by unfold mkY; rw [filled_1, if_neg h2, wI_nk h1]
theorem rel_mk {MX MY : SX} {r n : Nat} (hr : r < 6) (hn : n ≤ 40) (hR : Rel MX MY) : Rel (mkX MX r n) (mkY MY r n) := by
  obtain ⟨h1, h2, h3, h4⟩ := hR
  refine ⟨?_, h2.to (mkX_nk (by decide) (by decide)) (mkX_nk (by decide) (by decide)) (mkX_nk (by decide) (by decide)) (mkY_nk (by decide) (by decide)) (mkY_nk (by decide) (by decide)), h3.to (by rw [mkX_nk (by decide) (by decide)]) (by rw [mkX_nk (by decide) (by decide)]) rfl (mkX_nk (by decide) (by decide)) (by rw [mkY_nk (by decide) (by decide)]) (by rw [mkY_nk (by decide) (by decide)]) rfl (mkY_nk (by decide) (by decide)), h4.to (fun k a b => mkX_nk (by omega) (by omega)) (by rw [mkY_nk (by decide) (by decide)]) (mkY_nk (by decide) (by decide)) (mkY_nk (by decide) (by decide))⟩
  obtain ⟨g1, g2⟩ := h1
  refine ⟨by rw [mkX_nk (by decide) (by decide)]; exact g1, fun q hq => ?_⟩
  have e2 : (mkX MX r n).1 2 = upd (MX.1 2) r (nI n) := rfl
  have e3 : (mkX MX r n).1 3 = fun i => if 40 * r ≤ i ∧ i < 40 * r + n then 0 else MX.1 3 i := rfl
  have e4 : (mkY MY r n).1 3 = upd (MY.1 3) r (nI n) := rfl
  have e5 : (mkY MY r n).1 4 = fun i => if 40 * r ≤ i ∧ i < 40 * r + 40 then 0 else MY.1 4 i := rfl
  rw [e2, e3, e4, e5]
  by_cases e : q = r
  · subst e
    simp only [upd, if_pos rfl]
    refine ⟨rfl, Or.inr ⟨n, hn, rfl, fun i hi => ?_⟩⟩
    rw [if_pos (by omega), if_pos (by omega)]
  · simp only [upd, if_neg e]
    obtain ⟨k1, k2⟩ := g2 q hq
    refine ⟨k1, ?_⟩
    rcases k2 with k2 | ⟨m, k3, k4, k5⟩
    · exact Or.inl k2
    · refine Or.inr ⟨m, k3, k4, fun i hi => ?_⟩
      rw [if_neg (by omega), if_neg (by omega)]
      exact k5 i hi
theorem ag_row (a1 a2 : Int32) (MX MY : SX) (hR : Rel MX MY) : Ag (p5_row a1 a2 MX) (p6_row a1 a2 MY) := by
  unfold p5_row p6_row
  rw [isNumber_X 1 isS_1, isRow_Y, bd_s, bd_s, it01, it01]
  rcases six (a := a1) with ⟨h1, h2⟩ | ⟨r, hr, rfl⟩
  · rw [if_neg h1, if_neg h2]
    exact ⟨_, _, _, rfl, rfl, hR⟩
  · rw [if_pos (sixI hr).1, if_pos (sixI hr).2]
    by_cases h40 : a2 ≤ 40
    · rw [if_pos h40, if_pos h40]
      by_cases h0 : 0 ≤ a2
      · rw [if_pos h0, if_pos h0]
        obtain ⟨n, hn, rfl⟩ := nI_of2 (M := 40) (n := 40) rfl (Int32.not_lt.mpr h0) h40
        rw [begin_X (w := 40) isS_1 (show r < szS 1 from hr) hn (by omega) hR.1.1, makeRow_Y hr, bv_s, bv_s]
        exact ⟨_, _, _, rfl, rfl, rel_mk hr hn hR⟩
      · rw [if_neg h0, if_neg h0, found_X 5 rfl, find_Y 5 rfl, bd_s, bd_s]
        exact ag_findg 5 rfl hR
    · rw [if_neg h40, if_neg h40]
      exact ⟨_, _, _, rfl, rfl, hR⟩
