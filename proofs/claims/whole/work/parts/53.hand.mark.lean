/-! who can redeem now; marks -/
theorem tot_zero : ∀ n : Nat, tot n (fun _ => 0) = 0
  | 0 => rfl
  | n + 1 => tot_zero n
theorem cashZ_0 (n : Nat) (H D C : Nat → Nat) (v : Nat) : cashZ n H D C 0 v = (C v : Int) := by
  unfold cashZ
  have e : tot n (fun i => if H i = v + 1 ∧ (0 : Nat).testBit i = true then D i else 0) = tot n (fun _ => 0) := tot_eq (fun k _ => by rw [if_neg (fun z => by rw [Nat.zero_testBit] at z; exact absurd z.2 (by decide))])
  rw [e, tot_zero, Nat.zero_testBit, if_neg (by decide)]
  omega
theorem pawnS_tb {n : Nat} {σ : LV} {v : Nat} (hv0 : v < n) : (pawnS n σ).testBit v = decide (0 < σ 3 v) := by
  unfold pawnS
  rw [bset_tb]
  simp [hv0]
theorem nextS_can (n : Nat) (σ : LV) : nextS n (pawnS n σ) (σ 3) (fun v => due σ v 0) (σ 1) 0 = canS n σ := by
  unfold nextS canS
  refine bset_eq (fun k hk => ?_)
  unfold goB
  rw [cashZ_0, pawnS_tb hk, Nat.zero_testBit, Bool.not_false, Bool.and_true]
  by_cases h1 : 0 < σ 3 k <;> by_cases h2 : due σ k 0 ≤ σ 1 k
  · simp [h1, h2]
  · simp [h1, h2]
  · simp [h1]
  · simp [h1]
theorem ag_can (MX MY : SX) (hR : Rel MX MY) : Ag (p5_can MX) (p6_can MY) := by
  obtain ⟨n, d, σ, hn, hd, h0, hX, hY, hV, h7, h1⟩ := rel_here hR
  obtain ⟨M', e, hs, hO⟩ := lookAt_X hX hn hV hd (w := 0) (by omega)
  rw [p5_can, p6_can, show p2_lookAt 17 0 MX = some M' from e, bv_s, show p2_nextAfter 0 M' = _ from nextAfter_X hO (og_of hn hd hV (by omega)) (S := 0) (by omega), bd_s, canNow_Y h0 hY hn hV hd, bd_s, nextS_can]
  exact ⟨_, _, _, rfl, rfl, rel_same hR hs (SameY.refl _)⟩
def isK (k f : Nat) : Bool := decide (k = f) || (decide (k = 4) && decide (f = 1)) || (decide (k = 5) && decide (f = 2))
theorem six6 {k : Nat} (h : k ≤ 5) : k = 0 ∨ k = 1 ∨ k = 2 ∨ k = 3 ∨ k = 4 ∨ k = 5 := by omega
theorem five15 {k : Nat} (h1 : 1 ≤ k) (h : k ≤ 5) : k = 1 ∨ k = 2 ∨ k = 3 ∨ k = 4 ∨ k = 5 := by omega
theorem isOfKind_X {k f : Nat} (hk : k ≤ 5) (h1 : 1 ≤ f) (h5 : f ≤ 5) (M : SX) : p5_isOfKind (nI k) (nI f) M = some (if isK k f = true then 1 else 0, M) := by
  rcases six6 hk with rfl | rfl | rfl | rfl | rfl | rfl <;> rcases five15 h1 h5 with rfl | rfl | rfl | rfl | rfl <;> rfl
theorem isOf_Y {k f s : Nat} {M : SX} (hs : s < 6) (e : M.1 2 s = nI k) (hk : k ≤ 5) (h1 : 1 ≤ f) (h5 : f ≤ 5) : p6_isOf (nI s) (nI f) M = some (if isK k f = true then 1 else 0, M) := by
  have hb : bIn (nI s) 6 = true := bIn_nI hs (by decide)
  rw [p6_isOf, gd_of hb, nI_clamp (by omega), e]
  unfold p6_isOf_25
  rw [gd_of hb, nI_clamp (by omega), e]
  rcases six6 hk with rfl | rfl | rfl | rfl | rfl | rfl <;> rcases five15 h1 h5 with rfl | rfl | rfl | rfl | rfl <;> rfl
theorem ag_mark (a1 a2 : Int32) (MX MY : SX) (hR : Rel MX MY) : Ag (p5_mark a1 a2 MX) (p6_mark a1 a2 MY) := by
  obtain ⟨n, d, σ, hH⟩ := rel_here hR
  rw [p5_mark, p6_mark]
  refine ag_shopg hR hH a1 (fun s hs e => ?_) (by rw [if_pos rfl]) (by rw [if_pos rfl])
  subst e
  obtain ⟨hn, hd, h0, hX, hY, hV, h7, h1⟩ := hH
  rw [if_neg i10, if_neg i10, show p6_in a2.toInt64 1 5 MY = _ from in_YI a2 1 5 MY, bd_s, it01]
  rcases arg3 a2 1 5 (by decide) (by decide) with ⟨g1, g2⟩ | ⟨g1, g2, g3⟩ | ⟨f, hf1, hf, rfl⟩
  · rw [if_pos (show a2 < 1 from g1), if_neg (show ¬ (1 ≤ a2 ∧ a2 ≤ 5) from g2)]
    exact ag_no hR _
  · rw [if_neg (show ¬ a2 < 1 from g1), if_neg (show ¬ (1 ≤ a2 ∧ a2 ≤ 5) from g3), if_neg (show ¬ a2 ≤ 5 from Int32.not_le.mpr g2)]
    exact ag_no hR _
  · have hk := (hV.2 s hs).1
    have hs6 : s < 6 := by omega
    rw [if_neg (show ¬ nI f < 1 from nI_nlt (b := 1) hf1 (by omega)), if_pos (show nI f ≤ 5 from nI_le (b := 5) hf (by decide)), if_pos (show 1 ≤ nI f ∧ nI f ≤ 5 from ⟨nI_le (a := 1) hf1 (by omega), nI_le (b := 5) hf (by decide)⟩), gd_of (bIn_nI hs6 (by decide)), nI_clamp (by omega), (hX.2 s hs).1, isOfKind_X hk hf1 hf, isOf_Y hs6 (hY s hs).1 hk hf1 hf, bd_s, bd_s, it01, it01]
    by_cases hK : isK (σ 0 s) f = true
    · rw [if_pos hK, if_pos hK]
      have d1 : p1_dueTo 17 (nI s) 1 MX = _ := dueTo_X hX hn hV hd hs (w := 1) (by omega)
      have d0 : p1_dueTo 17 (nI s) 0 MX = _ := dueTo_X hX hn hV hd hs (w := 0) (by omega)
      have e1 : p6_dueTo (nI s) 1 MY = _ := dueTo_Y h0 hY hn hV hd hs (w := 1) (by omega)
      have e0 : p6_dueTo (nI s) 0 MY = _ := dueTo_Y h0 hY hn hV hd hs (w := 0) (by omega)
      rcases five15 hf1 hf with rfl | rfl | rfl | rfl | rfl
      · rw [if_pos (by decide), if_pos (by decide), loansTo_X hX hn hV hs, loansTo_Y h0 hY hn hV hs, bd_s, bd_s]
        exact ag_no hR _
      · rw [if_neg (by decide), if_pos (by decide), if_neg (by decide), if_pos (by decide), d1, bd_s, d0, bd_s, e1, bd_s, e0, bd_s]
        exact ag_no hR _
      · rw [if_neg (by decide), if_neg (by decide), if_pos (by decide), if_neg (by decide), if_neg (by decide), if_pos (by decide), heldBy_X hX hn hV hs, heldBy_Y h0 hY hn hV hs, bd_s, bd_s, bits_X (held_lt hn σ s), bits_Y (held_lt hn σ s), bd_s, bd_s]
        exact ag_no hR _
      · rw [if_neg (by decide), if_neg (by decide), if_neg (by decide), if_pos (by decide), if_neg (by decide), if_neg (by decide), if_neg (by decide), if_pos (by decide), loansTo_X hX hn hV hs, bd_s, d0, bd_s, loansTo_Y h0 hY hn hV hs, bd_s, e0, bd_s]
        exact ag_no hR _
      · obtain ⟨M', e, hsm, hO⟩ := lookAt_X hX hn hV hd (w := 0) (by omega)
        have hl : held n σ s &&& canS n σ < 64 := Nat.lt_of_le_of_lt Nat.and_le_left (held_lt hn σ s)
        rw [if_neg (by decide), if_neg (by decide), if_neg (by decide), if_neg (by decide), if_neg (by decide), if_neg (by decide), if_neg (by decide), if_neg (by decide), show p2_lookAt 17 0 MX = some M' from e, bv_s, heldBy_X (hX.same hsm) hn hV hs, bd_s, show p2_nextAfter 0 M' = _ from nextAfter_X hO (og_of hn hd hV (by omega)) (S := 0) (by omega), bd_s, nextS_can, and_nI, bits_X hl, bd_s, heldBy_Y h0 hY hn hV hs, bd_s, canNow_Y h0 hY hn hV hd, bd_s, and_nI, bits_Y hl, bd_s]
        exact ⟨_, _, _, rfl, rfl, rel_same hR hsm (SameY.refl _)⟩
    · rw [if_neg hK, if_neg hK, found_X 3 (by decide), find_Y 3 (by decide), bd_s, bd_s]
      exact ag_findg 3 (by decide) hR
