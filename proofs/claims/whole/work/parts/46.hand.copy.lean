/-! a stretch of a row is copied -/
def cp (f : Nat → Int32) (S D lo hi : Nat) : Nat → Int32 := fun p => if D + lo ≤ p ∧ p < D + hi then f (S + (p - D)) else f p
theorem cp_0 (f : Nat → Int32) (S D c : Nat) : cp f S D c c = f := by
  funext p
  unfold cp
  rw [if_neg (by omega)]
theorem cp_up {f : Nat → Int32} {S D lo hi : Nat} (h : lo ≤ hi) (hS : ¬ (D + lo ≤ S + hi ∧ S + hi < D + hi)) : upd (cp f S D lo hi) (D + hi) (cp f S D lo hi (S + hi)) = cp f S D lo (hi + 1) := by
  funext p
  unfold upd cp
  rw [if_neg hS]
  by_cases e : p = D + hi
  · rw [if_pos e, if_pos (by omega), e]
    congr 1
    omega
  · rw [if_neg e]
    by_cases g : D + lo ≤ p ∧ p < D + hi
    · rw [if_pos g, if_pos (by omega)]
    · rw [if_neg g, if_neg (by omega)]
theorem cp_dn {f : Nat → Int32} {S D lo hi : Nat} (h : lo < hi) (hS : ¬ (D + (lo + 1) ≤ S + lo ∧ S + lo < D + hi)) : upd (cp f S D (lo + 1) hi) (D + lo) (cp f S D (lo + 1) hi (S + lo)) = cp f S D lo hi := by
  funext p
  unfold upd cp
  rw [if_neg hS]
  by_cases e : p = D + lo
  · rw [if_pos e, if_pos (by omega), e]
    congr 1
    omega
  · rw [if_neg e]
    by_cases g : D + (lo + 1) ≤ p ∧ p < D + hi
    · rw [if_pos g, if_pos (by omega)]
    · rw [if_neg g, if_neg (by omega)]
theorem cp_va (f : Nat → Int32) (S D c : Nat) : va_cpy f f S D c = cp f S D 0 c := by
  funext p
  unfold va_cpy cp
  by_cases g : D ≤ p ∧ p < D + c
  · rw [if_pos g, if_pos (by omega)]
  · rw [if_neg g, if_neg (by omega)]
theorem wR_wI (M : SX) (k j : Nat) (f : Nat → Int32) (v : Int32) : wI (wR M k f) k j v = wR M k (upd f j v) := by
  apply Prod.ext
  · funext a
    rw [wI_1, wR_1, wR_1, wR_1, if_pos rfl]
    by_cases h : a = k
    · rw [if_pos h, if_pos h]
    · rw [if_neg h, if_neg h, if_neg h]
  · rfl
theorem wR_same (M : SX) (k : Nat) : wR M k (M.1 k) = M := by
  apply Prod.ext
  · funext a
    rw [wR_1]
    by_cases h : a = k
    · rw [if_pos h, h]
    · rw [if_neg h]
  · rfl
theorem copyF_loop {r1 r2 i j c : Nat} (h1 : r1 < 6) (h2 : r2 < 6) (hi : i + c ≤ 40) (hj : j + c ≤ 40) (hij : j ≤ i) (M : SX) : ∀ (k t : Nat), t ≤ c → c - t < k → xlp7 p6_copy_96 k (nI r1) (nI i) (nI r2) (nI j) (nI c) 0 (nI t) (wR M 4 (cp (M.1 4) (40 * r1 + i) (40 * r2 + j) 0 t)) = some (1, wR M 4 (cp (M.1 4) (40 * r1 + i) (40 * r2 + j) 0 c)) := by
  intro k
  induction k with
  | zero => intro t _ h; omega
  | succ k ih =>
    intro t ht hk
    show p6_copy_96 (xlp7 p6_copy_96 k) (nI r1) (nI i) (nI r2) (nI j) (nI c) 0 (nI t) _ = _
    rw [p6_copy_96]
    by_cases hc : t = c
    · subst hc
      rw [if_pos (Int32.le_refl _)]
    · rw [if_neg (nI_ge (by omega) (by omega)), if_pos rfl, p6_copy_120]
      rw [show (40 : Int32) * nI r1 + nI i = nI (40 * r1 + i) from clampIx2 (w := 40), show (40 : Int32) * nI r2 + nI j = nI (40 * r2 + j) from clampIx2 (w := 40), nI_add, nI_add, gd_of (bIn_nI (by omega) (by decide)), gd_of (bIn_nI (by omega) (by decide)), lt_v, lt_v, nI_clamp (by omega), nI_clamp (by omega), nI_1, wR_wI, wR_self, cp_up (by omega)]
      · exact ih (t + 1) (by omega) (by omega)
      · rcases Nat.lt_trichotomy r1 r2 with e | e | e
        · omega
        · subst e; omega
        · omega
theorem copyB_loop {r1 r2 i j c : Nat} (h1 : r1 < 6) (h2 : r2 < 6) (hi : i + c ≤ 40) (hj : j + c ≤ 40) (hij : i < j) (M : SX) : ∀ (k t : Nat), t ≤ c → c - t < k → xlp7 p6_copy_96 k (nI r1) (nI i) (nI r2) (nI j) (nI c) 1 (nI t) (wR M 4 (cp (M.1 4) (40 * r1 + i) (40 * r2 + j) (c - t) c)) = some (1, wR M 4 (cp (M.1 4) (40 * r1 + i) (40 * r2 + j) 0 c)) := by
  intro k
  induction k with
  | zero => intro t _ h; omega
  | succ k ih =>
    intro t ht hk
    show p6_copy_96 (xlp7 p6_copy_96 k) (nI r1) (nI i) (nI r2) (nI j) (nI c) 1 (nI t) _ = _
    rw [p6_copy_96]
    by_cases hc : t = c
    · subst hc
      rw [if_pos (Int32.le_refl _), Nat.sub_self]
    · rw [if_neg (nI_ge (by omega) (by omega)), if_neg (by decide), p6_copy_120]
      have e1 : nI c - 1 - nI t = nI (c - 1 - t) := by
        rw [show nI c - 1 = nI (c - 1) from pk_sub (a := c) (b := 1) (by omega), pk_sub (by omega)]
      rw [e1, show (40 : Int32) * nI r1 + nI i = nI (40 * r1 + i) from clampIx2 (w := 40), show (40 : Int32) * nI r2 + nI j = nI (40 * r2 + j) from clampIx2 (w := 40), nI_add, nI_add, gd_of (bIn_nI (by omega) (by decide)), gd_of (bIn_nI (by omega) (by decide)), lt_v, lt_v, nI_clamp (by omega), nI_clamp (by omega), nI_1, wR_wI, wR_self, show c - t = (c - 1 - t) + 1 by omega, cp_dn (by omega)]
      · have := ih (t + 1) (by omega) (by omega)
        rw [show c - (t + 1) = c - 1 - t by omega] at this
        exact this
      · rcases Nat.lt_trichotomy r1 r2 with e | e | e
        · omega
        · subst e; omega
        · omega
theorem hasPlaces_X {r n c : Nat} (hr : r < 6) (hn : n ≤ 40) (hc : c < 2 ^ 31) {i : Int32} {M : SX} (hs : M.1 2 r = nI n) : p4_hasPlaces 1 (nI r) i (nI c) M = some (if 0 ≤ i ∧ i.toInt + c ≤ n then 1 else 0, M) := by
  rw [p4_hasPlaces]
  by_cases h1 : i < 0
  · rw [if_pos h1, if_neg (fun h => absurd h.1 (Int32.not_le.mpr h1))]
  · rw [if_neg h1, gd_of (bIn_nI (show r < szS 1 from hr) (by decide)), nI_clamp (by omega), show M.1 (1 + 1) r = nI n from hs]
    have e : (nI n - nI c).toInt = (n : Int) - c := by
      rw [fb_subI (by rw [nI_toInt (by omega), nI_toInt hc]; omega) (by rw [nI_toInt (by omega), nI_toInt hc]; omega), nI_toInt (by omega), nI_toInt hc]
    by_cases h2 : nI n - nI c < i
    · rw [if_pos h2, if_neg]
      rintro ⟨-, h⟩
      rw [Int32.lt_iff_toInt_lt, e] at h2
      omega
    · rw [if_neg h2, if_pos]
      refine ⟨Int32.not_lt.mp h1, ?_⟩
      rw [Int32.lt_iff_toInt_lt, e] at h2
      omega
theorem isSpan_Y {r n c : Nat} (hr : r < 6) (hn : n ≤ 40) (hc : c < 2 ^ 31) {i : Int32} {M : SX} (hs : M.1 3 r = nI n) : p6_isSpan (nI r) i (nI c) M = some (if 0 ≤ i ∧ i.toInt + c ≤ n then 1 else 0, M) := by
  rw [p6_isSpan]
  by_cases h1 : i < 0
  · rw [if_pos h1, if_neg (fun h => absurd h.1 (Int32.not_le.mpr h1))]
  · rw [if_neg h1, gd_of (bIn_nI hr (by decide)), nI_clamp (by omega), hs]
    have hb := fb_rng i
    have e : (i.toInt64 + (nI c).toInt64).toInt = i.toInt + c := by
      rw [fb_addL (by rw [Int32.toInt_toInt64, Int32.toInt_toInt64, nI_toInt hc]; omega) (by rw [Int32.toInt_toInt64, Int32.toInt_toInt64, nI_toInt hc]; omega), Int32.toInt_toInt64, Int32.toInt_toInt64, nI_toInt hc]
    by_cases h2 : (nI n).toInt64 < i.toInt64 + (nI c).toInt64
    · rw [if_pos h2, if_neg]
      rintro ⟨-, h⟩
      rw [Int64.lt_iff_toInt_lt, e, Int32.toInt_toInt64, nI_toInt (by omega)] at h2
      omega
    · rw [if_neg h2, if_pos]
      refine ⟨Int32.not_lt.mp h1, ?_⟩
      rw [Int64.lt_iff_toInt_lt, e, Int32.toInt_toInt64, nI_toInt (by omega)] at h2
      omega
theorem isThere_X1 {r : Nat} (hr : r < 6) {M : SX} (hs : M.1 2 r = -1) : p4_isThere 1 (nI r) M = some (0, M) := by
  rw [p4_isThere, gd_of (bIn_nI (show r < szS 1 from hr) (by decide)), nI_clamp (by omega), show M.1 (1 + 1) r = -1 from hs, if_pos rfl]
theorem isThere_X {r n : Nat} (hr : r < 6) (hn : n ≤ 40) {M : SX} (hs : M.1 2 r = nI n) : p4_isThere 1 (nI r) M = some (1, M) := by
  rw [p4_isThere, gd_of (bIn_nI (show r < szS 1 from hr) (by decide)), nI_clamp (by omega), show M.1 (1 + 1) r = nI n from hs, if_neg (nI_nm1 (by omega))]
theorem rel_copy {MX MY : SX} {r1 r2 i j c n1 n2 : Nat} (h1 : r1 < 6) (h2 : r2 < 6) (hn1 : n1 ≤ 40) (hn2 : n2 ≤ 40) (hi : i + c ≤ n1) (hj : j + c ≤ n2) (hs1 : MX.1 2 r1 = nI n1) (hs2 : MX.1 2 r2 = nI n2) (hR : Rel MX MY) : Rel (wR MX 3 (cp (MX.1 3) (40 * r1 + i) (40 * r2 + j) 0 c)) (wR MY 4 (cp (MY.1 4) (40 * r1 + i) (40 * r2 + j) 0 c)) := by
  obtain ⟨g1, g2, g3, g4⟩ := hR
  refine ⟨?_, g2.to (wR_nk (by decide)) (wR_nk (by decide)) (wR_nk (by decide)) (wR_nk (by decide)) (wR_nk (by decide)), g3.to (by rw [wR_nk (by decide)]) (by rw [wR_nk (by decide)]) rfl (wR_nk (by decide)) (by rw [wR_nk (by decide)]) (by rw [wR_nk (by decide)]) rfl (wR_nk (by decide)), g4.to (fun k a b => wR_nk (by omega)) (by rw [wR_nk (by decide)]) (wR_nk (by decide)) (wR_nk (by decide))⟩
  refine ⟨by rw [wR_nk (by decide)]; exact g1.1, fun q hq => ?_⟩
  rw [wR_nk (by decide : (2 : Nat) ≠ 3), wR_nk (by decide : (3 : Nat) ≠ 4), wR_self, wR_self]
  obtain ⟨k1, k2⟩ := g1.2 q hq
  refine ⟨k1, ?_⟩
  rcases k2 with k2 | ⟨m, k3, k4, k5⟩
  · exact Or.inl k2
  · refine Or.inr ⟨m, k3, k4, fun t ht => ?_⟩
    unfold cp
    by_cases e : 40 * r2 + j + 0 ≤ 40 * q + t ∧ 40 * q + t < 40 * r2 + j + c
    · rw [if_pos e, if_pos e]
      obtain ⟨-, z⟩ := g1.2 r1 h1
      rcases z with z | ⟨m1, z1, z2, z3⟩
      · exact absurd (hs1.symm.trans z) (nI_nm1 (by omega))
      · have em : m1 = n1 := (nI_eq (by omega) (by omega)).mp (z2.symm.trans hs1)
        subst em
        have := z3 (i + (40 * q + t - (40 * r2 + j))) (by omega)
        rw [show 40 * r1 + i + (40 * q + t - (40 * r2 + j)) = 40 * r1 + (i + (40 * q + t - (40 * r2 + j))) by omega]
        exact this
    · rw [if_neg e, if_neg e]
      exact k5 t ht
theorem nm1_lt0 : (-1 : Int32) < 0 := by decide
theorem ag_copy (a1 a2 a3 a4 a5 : Int32) (MX MY : SX) (hR : Rel MX MY) : Ag (p5_copy a1 a2 a3 a4 a5 MX) (p6_copy a1 a2 a3 a4 a5 MY) := by
  rw [p5_copy, p6_copy, isNumber_X 1 isS_1, isRow_Y, bd_s, bd_s, it01, it01]
  rcases six (a := a1) with ⟨x1, x2⟩ | ⟨r1, h1, rfl⟩
  · rw [if_neg x1, if_neg x2]
    exact ⟨_, _, _, rfl, rfl, hR⟩
  rw [if_pos (sixI h1).1, if_pos (sixI h1).2, isNumber_X 1 isS_1, isRow_Y, bd_s, bd_s, it01, it01]
  rcases six (a := a3) with ⟨x1, x2⟩ | ⟨r2, h2, rfl⟩
  · rw [if_neg x1, if_neg x2]
    exact ⟨_, _, _, rfl, rfl, hR⟩
  rw [if_pos (sixI h2).1, if_pos (sixI h2).2]
  by_cases h5 : 0 ≤ a5
  case neg =>
    rw [if_neg h5, if_neg h5, found_X 5 rfl, find_Y 5 rfl, bd_s, bd_s]
    exact ag_findg 5 rfl hR
  rw [if_pos h5, if_pos h5, gd_of (bIn_nI h1 (by decide)), nI_clamp (by omega), gd_of (bIn_nI h2 (by decide)), nI_clamp (by omega)]
  obtain ⟨c, hc, rfl⟩ := nI_of (Int32.not_lt.mpr h5)
  rcases rowThere hR h1 with ⟨s1, s2⟩ | ⟨n1, hn1, s1, s2, s3⟩
  · rw [isThere_X1 h1 s1, bd_s, if_pos rfl, s2, if_pos nm1_lt0, p5_copy_57, p6_copy_45, found_X 1 rfl, find_Y 1 rfl, bd_s, bd_s]
    exact ag_findg 1 rfl hR
  rw [isThere_X h1 hn1 s1, bd_s, if_neg (by decide), s2, if_neg (nI_pos (by omega))]
  rcases rowThere hR h2 with ⟨q1, q2⟩ | ⟨n2, hn2, q1, q2, q3⟩
  · rw [isThere_X1 h2 q1, bd_s, if_pos rfl, q2, if_neg m1_neg, p5_copy_57, p6_copy_45, found_X 1 rfl, find_Y 1 rfl, bd_s, bd_s]
    exact ag_findg 1 rfl hR
  rw [isThere_X h2 hn2 q1, bd_s, if_neg (by decide), q2, if_pos (nI_pos' (by omega)), hasPlaces_X h1 hn1 hc s1, isSpan_Y h1 hn1 hc s2, bd_s, bd_s, it01, it01]
  by_cases w1 : 0 ≤ a2 ∧ a2.toInt + c ≤ n1
  case neg =>
    rw [if_neg w1, if_neg w1, p5_copy_92, p6_copy_74, found_X 2 rfl, find_Y 2 rfl, bd_s, bd_s]
    exact ag_findg 2 rfl hR
  rw [if_pos w1, if_pos w1, hasPlaces_X h2 hn2 hc q1, isSpan_Y h2 hn2 hc q2, bd_s, bd_s, it01, it01]
  by_cases w2 : 0 ≤ a4 ∧ a4.toInt + c ≤ n2
  case neg =>
    rw [if_neg w2, if_neg w2, p5_copy_92, p6_copy_74, found_X 2 rfl, find_Y 2 rfl, bd_s, bd_s]
    exact ag_findg 2 rfl hR
  rw [if_pos w2, if_pos w2]
  obtain ⟨i, hi, rfl⟩ := nI_of (Int32.not_lt.mpr w1.1)
  obtain ⟨j, hj, rfl⟩ := nI_of (Int32.not_lt.mpr w2.1)
  have w1 : i + c ≤ n1 := by have := w1.2; rw [nI_toInt hi] at this; omega
  have w2 : j + c ≤ n2 := by have := w2.2; rw [nI_toInt hj] at this; omega
  have hcp : cpOk (nI (40 * r1 + i)) (nI (40 * r2 + j)) (nI c) 240 240 = true := by
    simp only [cpOk, decide_eq_true_eq]
    refine ⟨nI_pos' (by omega), nI_pos' (by omega), nI_pos' (by omega), ?_, ?_⟩
    · rw [nI_clamp (by omega), nI_clamp (by omega)]; omega
    · rw [nI_clamp (by omega), nI_clamp (by omega)]; omega
  rw [p4_move, show MX.1 1 0 = nI 40 from hR.1.1, clampIx (by omega), clampIx (by omega), gd_of hcp, lt_v, bv_s, nI_clamp (by omega), nI_clamp (by omega), nI_clamp (by omega), show (1 : Nat) + 2 = 3 from rfl, cp_va]
  have hfin := rel_copy h1 h2 hn1 hn2 w1 w2 s1 q1 hR
  by_cases hij : nI j ≤ nI i
  · have hij2 : j ≤ i := (nI_leI hj hi).mp hij
    have e := copyF_loop h1 h2 (i := i) (j := j) (c := c) (by omega) (by omega) hij2 MY FU 0 (by omega) (by unfold FU; omega)
    rw [cp_0, wR_same] at e
    rw [if_pos hij, p6_copy_91, show xlp7 p6_copy_96 FU (nI r1) (nI i) (nI r2) (nI j) (nI c) 0 0 MY = _ from e]
    exact ⟨_, _, _, rfl, rfl, hfin⟩
  · have hij2 : i < j := by
      rcases Nat.lt_or_ge i j with h | h
      · exact h
      · exact absurd (nI_le h hi) hij
    have e := copyB_loop h1 h2 (i := i) (j := j) (c := c) (by omega) (by omega) hij2 MY FU 0 (by omega) (by unfold FU; omega)
    rw [Nat.sub_zero, cp_0, wR_same] at e
    rw [if_neg hij, p6_copy_91, show xlp7 p6_copy_96 FU (nI r1) (nI i) (nI r2) (nI j) (nI c) 1 0 MY = _ from e]
    exact ⟨_, _, _, rfl, rfl, hfin⟩
