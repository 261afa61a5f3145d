/-! texts -/
theorem txtThere {MX MY : SX} (hR : Rel MX MY) {r : Nat} (hr : r < 4) : (MX.1 5 r = -1 ∧ MY.1 5 r = -1) ∨ ∃ n, n ≤ 60 ∧ MX.1 5 r = nI n ∧ MY.1 5 r = nI n ∧ ∀ i, i < n → MX.1 6 (60 * r + i) = MY.1 6 (60 * r + i) ∧ (MX.1 6 (60 * r + i)).toInt8.toInt32 = MX.1 6 (60 * r + i) := by
  obtain ⟨h1, h2⟩ := hR.2.1.2 r hr
  rcases h2 with h2 | ⟨n, h3, h4, h5⟩
  · exact Or.inl ⟨h2, by rw [← h1]; exact h2⟩
  · exact Or.inr ⟨n, h3, h4, by rw [← h1]; exact h4, h5⟩
theorem text_loop {r : Nat} (hr : r < 4) (a2 : Int32) : ∀ (k i : Nat) (M M1 : SX), i ≤ 60 → 60 - i < k → M1 = filled M 6 (60 * r) i 32 → xlp3 p6_text_34 k (nI r) a2 (nI i) M1 = some (a2, filled M 6 (60 * r) 60 32) := by
  intro k
  induction k with
  | zero => intro i M M1 _ h; omega
  | succ k ih =>
    intro i M M1 hi hk e
    show p6_text_34 (xlp3 p6_text_34 k) (nI r) a2 (nI i) M1 = _
    rw [p6_text_34]
    by_cases hc : i = 60
    · subst hc
      rw [if_pos (by decide), e]
    · rw [if_neg (show ¬ (60 : Int32) ≤ nI i from nI_ge (b := 60) (by omega) (by omega))]
      rw [show (60 : Int32) * nI r + nI i = nI (60 * r + i) from clampIx2 (w := 60), gd_of (bIn_nI (by omega) (by decide)), lt_v, lt_v, nI_clamp (by omega), nI_1]
      refine ih (i + 1) M _ (by omega) (by omega) ?_
      rw [e, filled_s]
def mtX (M : SX) (r n : Nat) : SX := filled (wI M 5 r (nI n)) 6 (60 * r) n 32
def mtY (M : SX) (r n : Nat) : SX := filled (wI M 5 r (nI n)) 6 (60 * r) 60 32
theorem mtX_nk {M : SX} {r n k : Nat} (h1 : k ≠ 5) (h2 : k ≠ 6) : (mtX M r n).1 k = M.1 k := by unfold mtX; rw [filled_1, if_neg h2, wI_nk h1]
theorem mtY_nk {M : SX} {r n k : Nat} (h1 : k ≠ 5) (h2 : k ≠ 6) : (mtY M r n).1 k = M.1 k := by unfold mtY; rw [filled_1, if_neg h2, wI_nk h1]
theorem rel_mt {MX MY : SX} {r n : Nat} (hr : r < 4) (hn : n ≤ 60) (hR : Rel MX MY) : Rel (mtX MX r n) (mtY MY r n) := by
  obtain ⟨h1, h2, h3, h4⟩ := hR
  refine ⟨h1.to (mtX_nk (by decide) (by decide)) (mtX_nk (by decide) (by decide)) (mtX_nk (by decide) (by decide)) (mtY_nk (by decide) (by decide)) (mtY_nk (by decide) (by decide)), ?_, h3.to (by rw [mtX_nk (by decide) (by decide)]) (by rw [mtX_nk (by decide) (by decide)]) rfl (mtX_nk (by decide) (by decide)) (by rw [mtY_nk (by decide) (by decide)]) (by rw [mtY_nk (by decide) (by decide)]) rfl (mtY_nk (by decide) (by decide)), h4.to (fun k a b => mtX_nk (by omega) (by omega)) (by rw [mtY_nk (by decide) (by decide)]) (mtY_nk (by decide) (by decide)) (mtY_nk (by decide) (by decide))⟩
  obtain ⟨g1, g2⟩ := h2
  refine ⟨by rw [mtX_nk (by decide) (by decide)]; exact g1, fun q hq => ?_⟩
  have e2 : (mtX MX r n).1 5 = upd (MX.1 5) r (nI n) := rfl
  have e3 : (mtX MX r n).1 6 = fun i => if 60 * r ≤ i ∧ i < 60 * r + n then 32 else MX.1 6 i := rfl
  have e4 : (mtY MY r n).1 5 = upd (MY.1 5) r (nI n) := rfl
  have e5 : (mtY MY r n).1 6 = fun i => if 60 * r ≤ i ∧ i < 60 * r + 60 then 32 else MY.1 6 i := rfl
  rw [e2, e3, e4, e5]
  by_cases e : q = r
  · subst e
    simp only [upd, if_pos rfl]
    refine ⟨rfl, Or.inr ⟨n, hn, rfl, fun i hi => ?_⟩⟩
    rw [if_pos (by omega), if_pos (by omega)]
    exact ⟨rfl, rfl⟩
  · simp only [upd, if_neg e]
    obtain ⟨k1, k2⟩ := g2 q hq
    refine ⟨k1, ?_⟩
    rcases k2 with k2 | ⟨m, k3, k4, k5⟩
    · exact Or.inl k2
    · refine Or.inr ⟨m, k3, k4, fun i hi => ?_⟩
      rw [if_neg (by omega), if_neg (by omega)]
      exact k5 i hi
theorem ag_text (a1 a2 : Int32) (MX MY : SX) (hR : Rel MX MY) : Ag (p5_text a1 a2 MX) (p6_text a1 a2 MY) := by
  rw [p5_text, p6_text, isNumber_X 4 isS_4, isText_Y, bd_s, bd_s, it01, it01]
  rcases four (a := a1) with ⟨h1, h2⟩ | ⟨r, hr, rfl⟩
  · rw [if_neg h1, if_neg h2]
    exact ⟨_, _, _, rfl, rfl, hR⟩
  · rw [if_pos (fourI hr).1, if_pos (fourI hr).2]
    by_cases h40 : a2 ≤ 60
    · rw [if_pos h40, if_pos h40]
      by_cases h0 : 0 ≤ a2
      · rw [if_pos h0, if_pos h0]
        obtain ⟨n, hn, rfl⟩ := nI_of2 (M := 60) (n := 60) rfl (Int32.not_lt.mpr h0) h40
        rw [begin_X (w := 60) isS_4 (show r < szS 4 from hr) hn (by omega) hR.2.1.1, bv_s, gd_of (bIn_nI hr (by decide)), lt_v, nI_clamp (by omega)]
        rw [show xlp3 p6_text_34 FU (nI r) (nI n) 0 (wI MY 5 r (nI n)) = _ from text_loop hr (nI n) FU 0 (wI MY 5 r (nI n)) _ (by omega) (by unfold FU; omega) (by rw [filled_0])]
        exact ⟨_, _, _, rfl, rfl, rel_mt hr hn hR⟩
      · rw [if_neg h0, if_neg h0, found_X 5 rfl, find_Y 5 rfl, bd_s, bd_s]
        exact ag_findg 5 rfl hR
    · rw [if_neg h40, if_neg h40]
      exact ⟨_, _, _, rfl, rfl, hR⟩
theorem rel_put {MX MY : SX} {r j n : Nat} (v : Int32) (hv : v.toInt8.toInt32 = v) (hr : r < 4) (hn : n ≤ 60) (hj : j < n) (hR : Rel MX MY) : Rel (wI MX 6 (60 * r + j) v) (wI MY 6 (60 * r + j) v) := by
  obtain ⟨h1, h2, h3, h4⟩ := hR
  refine ⟨h1.to (wI_nk (by decide)) (wI_nk (by decide)) (wI_nk (by decide)) (wI_nk (by decide)) (wI_nk (by decide)), ?_, h3.to (by rw [wI_nk (by decide)]) (by rw [wI_nk (by decide)]) rfl (wI_nk (by decide)) (by rw [wI_nk (by decide)]) (by rw [wI_nk (by decide)]) rfl (wI_nk (by decide)), h4.to (fun k a b => wI_nk (by omega)) (by rw [wI_nk (by decide)]) (wI_nk (by decide)) (wI_nk (by decide))⟩
  obtain ⟨g1, g2⟩ := h2
  refine ⟨by rw [wI_nk (by decide)]; exact g1, fun q hq => ?_⟩
  rw [wI_nk (by decide : (5 : Nat) ≠ 6), wI_nk (by decide : (5 : Nat) ≠ 6)]
  obtain ⟨k1, k2⟩ := g2 q hq
  refine ⟨k1, ?_⟩
  rcases k2 with k2 | ⟨m, k3, k4, k5⟩
  · exact Or.inl k2
  · refine Or.inr ⟨m, k3, k4, fun i hi => ?_⟩
    rw [wI_k, wI_k]
    by_cases e : 60 * q + i = 60 * r + j
    · rw [if_pos e, if_pos e]
      exact ⟨rfl, hv⟩
    · rw [if_neg e, if_neg e]
      exact k5 i hi
theorem ag_put (a1 a2 a3 : Int32) (MX MY : SX) (hR : Rel MX MY) : Ag (p5_put a1 a2 a3 MX) (p6_put a1 a2 a3 MY) := by
  rw [p5_put, p6_put, isText_Y, bd_s, it01]
  rcases four (a := a1) with ⟨h1, h2⟩ | ⟨r, hr, rfl⟩
  · rw [place_X0 isS_4 h1, bd_s, if_neg (by decide), if_neg h2]
    exact ⟨_, _, _, rfl, rfl, hR⟩
  · rw [if_pos (fourI hr).2, gd_of (bIn_nI hr (by decide)), nI_clamp (by omega)]
    rcases txtThere hR hr with ⟨h1, h2⟩ | ⟨n, hn, h1, h2, h3⟩
    · rw [place_X1 isS_4 hr h1, bd_s, if_neg (by decide), h2, if_neg m1_neg, find_Y 1 rfl, bd_s]
      exact ag_findg 1 rfl hR
    · rw [place_X isS_4 (show r < szS 4 from hr) h1 hn, h2, if_pos (nI_pos' (by omega)), in_Yn a2 hn, bd_s, it01]
      by_cases h : 0 ≤ a2 ∧ a2 < nI n
      · rw [if_pos h, if_pos h, bd_s, if_pos rfl]
        obtain ⟨j, hj, rfl⟩ := nI_of (Int32.not_lt.mpr h.1)
        have hjn : j < n := (nI_ltI hj (by omega)).mp h.2
        rw [valueAt_X (w := 60) hR.2.1.1 (by omega), bd_s, setValue_X (w := 60) hR.2.1.1 (by omega), bv_s]
        rw [show (60 : Int32) * nI r + nI j = nI (60 * r + j) from clampIx2 (w := 60), gd_of (bIn_nI (by omega) (by decide)), nI_clamp (by omega), lt_v, lt_v, ← (h3 j hjn).1]
        exact ⟨_, _, _, rfl, rfl, rel_put _ (fb_byte_twice a3) hr hn hjn hR⟩
      · rw [if_neg h, if_neg h, bd_s, if_neg (by decide), find_Y 2 rfl, bd_s]
        exact ag_findg 2 rfl hR
/-! the mean of a row -/
def sumL (f : Nat → Int32) : Nat → Int64
  | 0 => 0
  | n + 1 => sumL f n + (f n).toInt64
theorem sumL_eq {f g : Nat → Int32} : ∀ {n : Nat}, (∀ i, i < n → f i = g i) → sumL f n = sumL g n
  | 0, _ => rfl
  | n + 1, h => by rw [sumL, sumL, sumL_eq (fun i hi => h i (by omega)), h n (by omega)]
theorem sumOf_loop {r n : Nat} {M : SX} (hr : r < 6) (hn : n ≤ 40) (hs : M.1 2 r = nI n) (hw : M.1 1 0 = nI 40) : ∀ (k i : Nat), i ≤ n → n - i < k → xlp3 (p4_sumOf_5 1) k (nI r) (sumL (fun j => M.1 3 (40 * r + j)) i) (nI i) M = some (sumL (fun j => M.1 3 (40 * r + j)) n, M) := by
  intro k
  induction k with
  | zero => intro i _ h; omega
  | succ k ih =>
    intro i hi hk
    show p4_sumOf_5 1 (xlp3 (p4_sumOf_5 1) k) (nI r) _ (nI i) M = _
    rw [p4_sumOf_5, gd_of (bIn_nI (show r < szS 1 from hr) (by decide)), nI_clamp (by omega), show M.1 (1 + 1) r = nI n from hs]
    by_cases hc : i = n
    · subst hc
      rw [if_pos (Int32.le_refl _)]
    · rw [if_neg (nI_ge (by omega) (by omega)), valueAt_X hw (by omega), bd_s, lt_v, lt_v, nI_1]
      exact ih (i + 1) (by omega) (by omega)
theorem mean_loop {r n : Nat} {M : SX} (hr : r < 6) (hn : n ≤ 40) (h0 : 0 < n) (hs : M.1 3 r = nI n) : ∀ (k i : Nat), i ≤ n → n - i < k → xlp3 p6_mean_44 k (nI r) (sumL (fun j => M.1 4 (40 * r + j)) i) (nI i) M = some (1, wI M 0 7 (sumL (fun j => M.1 4 (40 * r + j)) n / (nI n).toInt64).toInt32) := by
  intro k
  induction k with
  | zero => intro i _ h; omega
  | succ k ih =>
    intro i hi hk
    show p6_mean_44 (xlp3 p6_mean_44 k) (nI r) _ (nI i) M = _
    rw [p6_mean_44, gd_of (bIn_nI hr (by decide)), nI_clamp (by omega), hs]
    by_cases hc : i = n
    · subst hc
      have hz : nzL (nI i).toInt64 = true := by
        rw [nI_l (by omega)]
        simp only [nzL, decide_eq_true_eq]
        intro e
        have := (lN_eq (a := i) (b := 0) (by omega) (by decide)).mp e
        omega
      rw [if_pos (Int32.le_refl _), gd_of hz, tell_Y, bd_s]
    · rw [if_neg (nI_ge (by omega) (by omega)), show (40 : Int32) * nI r + nI i = nI (40 * r + i) from clampIx2 (w := 40), gd_of (bIn_nI (by omega) (by decide)), nI_clamp (by omega), lt_v, lt_v, nI_1]
      exact ih (i + 1) (by omega) (by omega)
theorem ag_mean (a1 : Int32) (MX MY : SX) (hR : Rel MX MY) : Ag (p5_mean a1 MX) (p6_mean a1 MY) := by
  rw [p5_mean, p6_mean, isRow_Y, bd_s, it01]
  rcases six (a := a1) with ⟨h1, h2⟩ | ⟨r, hr, rfl⟩
  · rw [sheet_X0 isS_1 h1, bd_s, if_neg (by decide), if_neg h2]
    exact ⟨_, _, _, rfl, rfl, hR⟩
  · rw [if_pos (sixI hr).2, gd_of (bIn_nI hr (by decide)), nI_clamp (by omega)]
    rcases rowThere hR hr with ⟨h1, h2⟩ | ⟨n, hn, h1, h2, h3⟩
    · rw [sheet_X1 isS_1 hr h1, bd_s, if_neg (by decide), h2, if_neg m1_neg, find_Y 1 rfl, bd_s]
      exact ag_findg 1 rfl hR
    · rw [sheet_X isS_1 hr h1 (by omega), bd_s, if_pos rfl, h2, if_pos (nI_pos' (by omega)), p4_sizeOf, gd_of (bIn_nI (show r < szS 1 from hr) (by decide)), nI_clamp (by omega), show MX.1 (1 + 1) r = nI n from h1, bd_s]
      by_cases h0 : n = 0
      · subst h0
        rw [if_pos nI_0, if_pos nI_0, found_X 4 rfl, find_Y 4 rfl, bd_s, bd_s]
        exact ag_findg 4 rfl hR
      · have hz : nzL (nI n).toInt64 = true := by
          rw [nI_l (by omega)]
          simp only [nzL, decide_eq_true_eq]
          intro e
          have := (lN_eq (a := n) (b := 0) (by omega) (by decide)).mp e
          omega
        rw [if_neg (nI_ne0 (by omega) (by omega)), if_neg (nI_ne0 (by omega) (by omega)), p4_sumOf]
        rw [show xlp3 (p4_sumOf_5 1) FU (nI r) 0 0 MX = _ from sumOf_loop hr hn h1 hR.1.1 FU 0 (by omega) (by unfold FU; omega), bd_s, gd_of hz, lt_v]
        rw [show xlp3 p6_mean_44 FU (nI r) 0 0 MY = _ from mean_loop hr hn (by omega) h2 FU 0 (by omega) (by unfold FU; omega)]
        rw [sumL_eq (fun i hi => (h3 i hi).symm)]
        exact ⟨_, _, _, rfl, rfl, rel_tell _ hR⟩
