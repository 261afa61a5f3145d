/-! undo agrees -/
theorem deed_02 {n : Nat} {c : Int32} {σ τ : LV} (h : Deed n c σ τ) {g t : Nat} (hg : g = 0 ∨ g = 2) (ht : t < n) : τ g t = σ g t := by
  rcases h with ⟨s, h, hs, hh, e3, hc, ec, hτ⟩ | ⟨s, h, k, hs, hh, hne, hk1, hk9, e3, hc, ec, hτ⟩ | ⟨ec, hτ⟩ | ⟨s, v, hs, hv0, ec, hτ⟩
  · rw [hτ g t ht]
    rcases hg with rfl | rfl <;> simp [redeemed, noTk, setF]
  · rw [hτ g t ht]
    rcases hg with rfl | rfl <;> simp [pawned, setF]
  · rw [hτ g t ht]
    rcases hg with rfl | rfl <;> simp [aged]
  · rw [hτ g t ht]
    rcases hg with rfl | rfl <;> simp [given, setF]
theorem lane_02 {b o : Nat} {MX MY : SX} {n d : Nat} {st : Nat → LV} (hL : LaneAt b o MX MY n d st) {g t : Nat} (hg : g = 0 ∨ g = 2) (ht : t < n) : ∀ j a, a + j = d → st d g t = st a g t
  | 0, a, h => by rw [← h]; rfl
  | j + 1, a, h => by
    rw [lane_02 hL hg ht j (a + 1) (by omega)]
    exact deed_02 (hL.2.2.2.2.2.1 a (by omega)).2 hg ht
theorem ag_undo (a1 : Int32) (MX MY : SX) (hR : Rel MX MY) : Ag (p5_undo a1 MX) (p6_undo a1 MY) := by
  obtain ⟨n, d, st, hn, hz, hL, hH⟩ := rel_main hR
  obtain ⟨hn, hd, h0, hX, hY, hV, h7, h1⟩ := hH
  have hL' := hL
  obtain ⟨g1, g2, g3, g4, g5, g6, g7⟩ := hL
  rw [p5_undo, p6_undo, lt_v, h7, gd_of bIn0, z0, h1, show p6_in a1.toInt64 0 (nI d).toInt64 MY = _ from in_YI a1 0 (nI d) MY, bd_s, it01]
  rcases arg3 a1 0 d (by omega) (by omega) with ⟨q1, q2⟩ | ⟨q1, q2, q3⟩ | ⟨a, _, ha, rfl⟩
  · rw [if_pos (show a1 < 0 from q1), if_neg (show ¬ (0 ≤ a1 ∧ a1 ≤ nI d) from q2)]
    exact ag_no hR _
  · rw [if_neg (show ¬ a1 < 0 from q1), if_neg (show ¬ (0 ≤ a1 ∧ a1 ≤ nI d) from q3), if_neg (Int32.not_le.mpr q2)]
    exact ag_no hR _
  · rw [if_neg (show ¬ nI a < 0 from nI_pos (by omega)), if_pos (nI_le ha (by omega)), if_pos ⟨nI_pos' (by omega), nI_le ha (by omega)⟩, h1, pk_sub ha, lt_v]
    -- the object
    have X1 : ∃ M', xlp3 p5_undo_24 FU (nI a) (nI d) (nI d) MX = some (nI (d - a), M') ∧ UnQ MX M' n a (st a) := by
      refine lp3_inv (fun _ => nI a) (fun _ => nI d) (fun j => nI (d - j)) (fun j N => UnQ MX N n (d - j) (st (d - j))) (d - a) (by omega) (fun x => ∃ M', x = some (nI (d - a), M') ∧ UnQ MX M' n a (st a)) ?_ ?_ MX ⟨hX, h7, fun _ _ => rfl, rfl⟩
      · rintro j hj N ⟨u1, u2, u3, u4⟩ rc
        obtain ⟨i, hi⟩ : ∃ i, d - j = i + 1 := ⟨d - j - 1, by omega⟩
        rw [hi] at u1 u2
        have hDe := (g6 i (by omega)).2
        rw [← u3 (17 + 8) (by omega)] at hDe
        obtain ⟨M', e, w1, w2, w3, w4⟩ := undoLast_X u1 hn u2 (by omega) (g7 i (by omega)) (g7 (i + 1) (by omega)) hDe
        have ei : d - (j + 1) = i := by omega
        refine ⟨M', ?_, ?_⟩
        · rw [hi, ei, p5_undo_24, if_neg (nI_ge (by omega) (by omega)), e, bv_s, lt_v, nI_m1]
        · rw [ei]
          exact ⟨w1, w2, fun c hc => by rw [w3 c hc]; exact u3 c hc, by rw [w4]; exact u4⟩
      · rintro N hN rc
        rw [show d - (d - a) = a by omega] at hN ⊢
        rw [p5_undo_24, if_pos (Int32.le_refl _), pk_sub ha]
        exact ⟨N, rfl, hN⟩
    -- the reference
    have Y1 : ∃ M', xlp3 p6_undo_29 FU (nI a) (nI (d - a)) 0 MY = some (nI (d - a), M') ∧ YRep 0 M' n (st a) ∧ M'.1 1 0 = nI a ∧ (∀ k, k ≠ 1 → M'.1 k = MY.1 k) ∧ M'.2 = MY.2 ∧ ∀ j, 31 ≤ j → M'.1 1 j = MY.1 1 j := by
      by_cases hda : d = a
      · subst hda
        refine ⟨MY, ?_, hY, h1, fun _ _ => rfl, rfl, fun _ _ => rfl⟩
        rw [Nat.sub_self]
        show p6_undo_29 (xlp3 p6_undo_29 1999) (nI d) (nI 0) 0 MY = _
        rw [p6_undo_29, if_neg (by decide), if_pos (by decide), p6_undo_67, gd_of bIn0, z0, lt_v, ← h1, wI_id]
      · refine lp3_inv (fun _ => nI a) (fun _ => nI (d - a)) (fun j => nI j) (fun j N => (∀ k, k ≠ 1 → N.1 k = MY.1 k) ∧ N.2 = MY.2 ∧ ∀ i, N.1 1 i = if 1 ≤ i ∧ i < 1 + j then MY.1 1 (31 + 24 * a + (i - 1)) else MY.1 1 i) 24 (by omega) (fun x => ∃ M', x = some (nI (d - a), M') ∧ YRep 0 M' n (st a) ∧ M'.1 1 0 = nI a ∧ (∀ k, k ≠ 1 → M'.1 k = MY.1 k) ∧ M'.2 = MY.2 ∧ ∀ j, 31 ≤ j → M'.1 1 j = MY.1 1 j) ?_ ?_ MY ⟨fun _ _ => rfl, rfl, fun i => by rw [if_neg (by omega)]⟩
        · rintro j hj N ⟨u1, u2, u3⟩ rc
          refine ⟨wI N 1 (1 + j) (MY.1 1 (31 + 24 * a + j)), ?_, fun k hk => by rw [wI_nk hk]; exact u1 k hk, u2, fun i => ?_⟩
          · rw [p6_undo_29, if_neg (show ¬ (24 : Int32) ≤ nI j from nI_ge (b := 24) hj (by omega)), if_neg (nI_nle (by omega) (by omega)), show (24 : Int32) * nI a = nI (24 * a) from pk_mul 24 a, show (31 : Int32) + nI (24 * a) = nI (31 + 24 * a) from nI_add 31 _, nI_add, gd_of (bIn_nI (by omega) (by decide)), show (1 : Int32) + nI j = nI (1 + j) from nI_add 1 j, gd_of (bIn_nI (by omega) (by decide)), nI_clamp (by omega), nI_clamp (by omega), u3 (31 + 24 * a + j), if_neg (by omega), lt_v, lt_v, nI_1]
          · rw [wI_k]
            by_cases c : i = 1 + j
            · rw [if_pos c, if_pos (by omega), c, show 1 + j - 1 = j by omega]
            · rw [if_neg c, u3 i]
              by_cases c2 : 1 ≤ i ∧ i < 1 + j
              · rw [if_pos c2, if_pos (by omega)]
              · rw [if_neg c2, if_neg (by omega)]
        · rintro N ⟨u1, u2, u3⟩ rc
          rw [p6_undo_29, if_pos (by decide), p6_undo_67, gd_of bIn0, z0, lt_v]
          refine ⟨_, rfl, ?_, ?_, fun k hk => by rw [wI_nk hk]; exact u1 k hk, u2, fun j hj => by rw [wI_k, if_neg (by omega), u3 j, if_neg (by omega)]⟩
          · intro s hs
            have hsn := (g6 a (by omega)).1 s hs
            have hy := hY s hs
            simp only [Nat.zero_add] at hsn hy ⊢
            have r : ∀ i, 1 ≤ i → i < 25 → (wI N 1 0 (nI a)).1 1 i = MY.1 1 (31 + 24 * a + (i - 1)) := fun i h1 h2 => by rw [wI_k, if_neg (by omega), u3 i, if_pos (by omega)]
            refine ⟨?_, ?_, ?_, ?_, ?_, ?_⟩
            · rw [wI_nk (by decide), u1 2 (by decide), hy.1, lane_02 hL' (Or.inl rfl) hs (d - a) a (by omega)]
            · rw [r (1 + s) (by omega) (by omega), show 1 + s - 1 = s by omega]; exact hsn.1
            · rw [wI_k, if_neg (by omega), u3 (25 + s), if_neg (by omega), hy.2.2.1, lane_02 hL' (Or.inr rfl) hs (d - a) a (by omega)]
            · rw [r (7 + s) (by omega) (by omega), show 7 + s - 1 = 6 + s by omega]; exact hsn.2.1
            · rw [r (13 + s) (by omega) (by omega), show 13 + s - 1 = 12 + s by omega]; exact hsn.2.2.1
            · rw [r (19 + s) (by omega) (by omega), show 19 + s - 1 = 18 + s by omega]; exact hsn.2.2.2
          · rw [wI_k, if_pos rfl]
    obtain ⟨MX', eX, x1, x2, x3, x4⟩ := X1
    obtain ⟨MY', eY, y1, y2, y3, y4, y5⟩ := Y1
    rw [eX, eY]
    refine ⟨_, _, _, rfl, rfl, rel_lane hR h0 hn (fun k hk => x3 k (by omega)) x4 y3 y4 (fun j hj => y5 j (by omega)) ⟨a, st, fun z => by have := hz z; omega, by omega, x1, x2, y1, y2, fun i hi => ⟨fun s hs => ?_, ?_⟩, fun i hi => g7 i (by omega)⟩⟩
    · have e := (g6 i (by omega)).1 s hs
      rw [y5 _ (by omega), y5 _ (by omega), y5 _ (by omega), y5 _ (by omega)]
      exact e
    · rw [x3 _ (by omega)]
      exact (g6 i (by omega)).2
