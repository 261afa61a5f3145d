/-! deeds agree -/
theorem canS_tb {n : Nat} {σ : LV} {v : Nat} (hv0 : v < n) : (canS n σ).testBit v = decide (0 < σ 3 v ∧ due σ v 0 ≤ σ 1 v) := by
  unfold canS
  rw [bset_tb]
  simp [hv0]
theorem full_Y {d : Nat} (hd : d ≤ 40) : nI d = 40 ↔ ¬ d + 1 ≤ 40 := by
  rw [show nI d = 40 ↔ d = 40 from nI_eq (b := 40) (by omega) (by decide)]
  omega
theorem z0 : (0 : Int32).toNatClampNeg = 0 := rfl
theorem bIn0 : bIn 0 3964 = true := by decide
theorem ag_redeem (a1 : Int32) (MX MY : SX) (hR : Rel MX MY) : Ag (p5_redeem a1 MX) (p6_redeem a1 MY) := by
  obtain ⟨n, d, st, hn, hz, hL, hH⟩ := rel_main hR
  rw [p5_redeem, p6_redeem]
  refine ag_shopg hR hH a1 (fun s hs e => ?_) (by rw [if_pos rfl]) (by rw [if_pos rfl])
  subst e
  have hH' := hH
  obtain ⟨hn, hd, h0, hX, hY, hV, h7, h1⟩ := hH
  have hcl := canS_lt hn (st d)
  rw [if_neg i10, if_neg i10, canRedeem_X hX hn hV hd hs, bd_s, it01, canNow_Y h0 hY hn hV hd, bd_s, has_Y (by omega) (by omega), bd_s, it01, canS_tb hs]
  by_cases c : 0 < st d 3 s ∧ due (st d) s 0 ≤ st d 1 s
  · rw [if_pos c, if_pos (decide_eq_true c), show p0_hasRoom (17 + 7) 1 MX = _ from hasRoom_X (k := 1) h7 hd (by omega), bd_s, it01, gd_of bIn0, z0, h1]
    by_cases f : d + 1 ≤ 40
    · obtain ⟨MX', MY', e1, e2, hR', _⟩ := do_redeem hR hL hH' (by omega) hs c.1 c.2
      rw [if_pos f, if_neg (fun w => (full_Y hd).mp w f), e1, e2, bd_s, bd_s]
      exact ⟨_, _, _, rfl, rfl, hR'⟩
    · rw [if_neg f, if_pos ((full_Y hd).mpr f)]
      exact ag_no hR _
  · rw [if_neg c, if_neg (fun w => c (of_decide_eq_true w))]
    exact ag_no hR _
theorem ag_pawn (a1 a2 a3 : Int32) (MX MY : SX) (hR : Rel MX MY) : Ag (p5_pawn a1 a2 a3 MX) (p6_pawn a1 a2 a3 MY) := by
  obtain ⟨n, d, st, hn, hz, hL, hH⟩ := rel_main hR
  rw [p5_pawn, p6_pawn]
  refine ag_shopg hR hH a1 (fun s hs e => ?_) (by rw [if_pos rfl]) (by rw [if_pos rfl])
  subst e
  rw [if_neg i10, if_neg i10]
  refine ag_shopg hR hH a2 (fun t ht e => ?_) (by rw [if_pos rfl]) (by rw [if_pos rfl])
  subst e
  have hH' := hH
  obtain ⟨hn, hd, h0, hX, hY, hV, h7, h1⟩ := hH
  rw [if_neg i10, if_neg i10]
  by_cases hst : s = t
  · rw [if_pos (by rw [hst]), if_pos (by rw [hst])]
    exact ag_no hR _
  · have hne : ¬ nI s = nI t := fun z => hst ((nI_eq (by omega) (by omega)).mp z)
    rw [if_neg hne, if_neg hne, show p6_in a3.toInt64 1 9 MY = _ from in_YI a3 1 9 MY, bd_s, it01]
    rcases arg3 a3 1 9 (by decide) (by decide) with ⟨g1, g2⟩ | ⟨g1, g2, g3⟩ | ⟨k, hk1, hk, rfl⟩
    · rw [if_pos (show a3 < 1 from g1), if_neg (show ¬ (1 ≤ a3 ∧ a3 ≤ 9) from g2)]
      exact ag_no hR _
    · rw [if_neg (show ¬ a3 < 1 from g1), if_neg (show ¬ (1 ≤ a3 ∧ a3 ≤ 9) from g3), if_neg (show ¬ a3 ≤ 9 from Int32.not_le.mpr g2)]
      exact ag_no hR _
    · have i1 := ix1 (s := t) (by omega)
      have hy := (hY t ht).2.1
      rw [Nat.zero_add] at hy
      have hcl := cash_le hV ht
      rw [if_neg (show ¬ nI k < 1 from nI_nlt (b := 1) hk1 (by omega)), if_pos (show nI k ≤ 9 from nI_le (b := 9) hk (by decide)), if_pos (show 1 ≤ nI k ∧ nI k ≤ 9 from ⟨nI_le (a := 1) hk1 (by omega), nI_le (b := 9) hk (by decide)⟩), canPawn_X hX hn hV hd hs ht hk, bd_s, it01, isPawned_Y hY hn hV hs, bd_s, it01]
      by_cases c : st d 3 s = 0
      · rw [if_neg (show ¬ 0 < st d 3 s by omega), gd_of i1.1, i1.2, hy]
        by_cases c2 : k ≤ st d 1 t
        · rw [if_pos ⟨hst, c, c2⟩, if_pos (nI_le c2 (by omega)), show p0_hasRoom (17 + 7) 1 MX = _ from hasRoom_X (k := 1) h7 hd (by omega), bd_s, it01, gd_of bIn0, z0, h1]
          by_cases f : d + 1 ≤ 40
          · obtain ⟨MX', MY', e1, e2, hR', _⟩ := do_pawn hR hL hH' (by omega) hs ht hst hk1 hk c c2
            obtain ⟨n', d', σ', hn', hd', h0', hX', hY', hV', h7', h1'⟩ := rel_here hR'
            rw [if_pos f, if_neg (fun w => (full_Y hd).mp w f), e1, e2, bv_s, bv_s, pawnedSet_X hX' hn' hV', pawned_Y h0' hY' hn' hV', bd_s, bd_s, bits_X (pawnS_lt hn' σ'), bits_Y (pawnS_lt hn' σ'), bd_s, bd_s]
            exact ag_no hR' _
          · rw [if_neg f, if_pos ((full_Y hd).mpr f)]
            exact ag_no hR _
        · rw [if_neg (fun w => c2 w.2.2), if_neg (fun w => c2 ((nI_leI (by omega) (by omega)).mp w))]
          exact ag_no hR _
      · rw [if_neg (fun w => c w.2.1), if_pos (show 0 < st d 3 s by omega)]
        exact ag_no hR _
theorem ag_give (a1 a2 : Int32) (MX MY : SX) (hR : Rel MX MY) : Ag (p5_give a1 a2 MX) (p6_give a1 a2 MY) := by
  obtain ⟨n, d, st, hn, hz, hL, hH⟩ := rel_main hR
  rw [p5_give, p6_give]
  refine ag_shopg hR hH a1 (fun s hs e => ?_) (by rw [if_pos rfl]) (by rw [if_pos rfl])
  subst e
  have hH' := hH
  obtain ⟨hn, hd, h0, hX, hY, hV, h7, h1⟩ := hH
  rw [if_neg i10, if_neg i10, show p6_in a2.toInt64 1 99 MY = _ from in_YI a2 1 99 MY, bd_s, it01]
  rcases arg3 a2 1 99 (by decide) (by decide) with ⟨g1, g2⟩ | ⟨g1, g2, g3⟩ | ⟨k, hk1, hk, rfl⟩
  · rw [if_pos (show a2 < 1 from g1), if_neg (show ¬ (1 ≤ a2 ∧ a2 ≤ 99) from g2)]
    exact ag_no hR _
  · rw [if_neg (show ¬ a2 < 1 from g1), if_neg (show ¬ (1 ≤ a2 ∧ a2 ≤ 99) from g3), if_neg (show ¬ a2 ≤ 99 from Int32.not_le.mpr g2)]
    exact ag_no hR _
  · have i1 := ix1 (s := s) (by omega)
    have hy := (hY s hs).2.1
    rw [Nat.zero_add] at hy
    rw [if_neg (show ¬ nI k < 1 from nI_nlt (b := 1) hk1 (by omega)), if_pos (show nI k ≤ 99 from nI_le (b := 99) hk (by decide)), if_pos (show 1 ≤ nI k ∧ nI k ≤ 99 from ⟨nI_le (a := 1) hk1 (by omega), nI_le (b := 99) hk (by decide)⟩), gd_of (bIn_nI (by omega) (by decide)), nI_clamp (by omega), (hX.2 s hs).2.1, gd_of i1.1, i1.2, hy, nI_add]
    by_cases c : nI (st d 1 s + k) ≤ 9999
    · rw [if_pos c, if_pos c, show p0_hasRoom (17 + 7) 1 MX = _ from hasRoom_X (k := 1) h7 hd (by omega), bd_s, it01, gd_of bIn0, z0, h1]
      by_cases f : d + 1 ≤ 40
      · obtain ⟨MX', MY', e1, e2, e3, hR', _⟩ := do_give hR hL hH' (by omega) hs hk
        rw [if_pos f, if_neg (fun w => (full_Y hd).mp w f), e1, e2, bv_s, bd_s, e3]
        exact ag_no hR' _
      · rw [if_neg f, if_pos ((full_Y hd).mpr f)]
        exact ag_no hR _
    · rw [if_neg c, if_neg c]
      exact ag_no hR _
def oldT (σ : LV) : Nat → Nat
  | 0 => 0
  | i + 1 => if oldT σ i < σ 5 i then σ 5 i else oldT σ i
theorem oldT_le {n d : Nat} {σ : LV} (hV : Valid n d σ) : ∀ i, i ≤ n → oldT σ i ≤ d
  | 0, _ => Nat.zero_le d
  | i + 1, hi => by
    have ih := oldT_le hV i (by omega)
    have := (hV.2 i (by omega)).2.2.2.2.2.1
    rw [oldT]
    split <;> omega
theorem ag_week (MX MY : SX) (hR : Rel MX MY) : Ag (p5_week MX) (p6_week MY) := by
  obtain ⟨n, d, st, hn, hz, hL, hH⟩ := rel_main hR
  have hH' := hH
  obtain ⟨hn, hd, h0, hX, hY, hV, h7, h1⟩ := hH
  rw [p5_week, p6_week, hX.1, h0]
  by_cases hn0 : n = 0
  · subst hn0
    rw [if_pos nI_0, if_pos nI_0]
    exact ag_no hR _
  · have hz0 := nI_ne0 (n := n) (by omega) (by omega)
    rw [if_neg hz0, if_neg hz0]
    have eX : p1_oldestTicket 17 MX = some (nI (oldT (st d) n), MX) := by
      rw [p1_oldestTicket]
      refine lp2_go (fun i => nI (oldT (st d) i)) (fun i => nI i) (fun _ => MX) n (by omega) _ (fun i hi rc => ?_) (fun rc => ?_)
      · have h2 := oldT_le hV i (by omega)
        have h3 := (hV.2 i hi).2.2.2.2.2.1
        rw [p1_oldestTicket_4, hX.1, if_neg (nI_ge hi (by omega)), gd_of (bIn_nI (by omega) (by decide)), nI_clamp (by omega), (hX.2 i hi).2.2.2.2.2, lt_v, lt_v, nI_1, oldT]
        unfold jmax
        by_cases c : oldT (st d) i < st d 5 i
        · rw [if_pos ((nI_ltI (by omega) (by omega)).mpr c), if_pos c]
        · rw [if_neg (fun z => c ((nI_ltI (by omega) (by omega)).mp z)), if_neg c]
      · rw [p1_oldestTicket_4, hX.1, if_pos (Int32.le_refl _)]
    have eY : p6_isOld MY = some (0, MY) := by
      rw [p6_isOld]
      refine lp1_go (fun i => nI i) (fun _ => MY) n (by omega) _ (fun i hi rc => ?_) (fun rc => ?_)
      · have i19 := ix19 (s := i) (by omega)
        have h3 := (hV.2 i hi).2.2.2.2.2.1
        have hy := (hY i hi).2.2.2.2.2
        rw [Nat.zero_add] at hy
        rw [p6_isOld_2, h0, if_neg (nI_ge hi (by omega)), gd_of i19.1, i19.2, hy, if_neg (show ¬ nI (st d 5 i) = 99 from fun z => absurd ((nI_eq (b := 99) (by omega) (by decide)).mp z) (by omega)), lt_v, nI_1]
      · rw [p6_isOld_2, h0, if_pos (Int32.le_refl _)]
    have ho := oldT_le hV n (Nat.le_refl n)
    rw [eX, eY, bd_s, bd_s, if_pos (show nI (oldT (st d) n) < 99 from nI_lt (b := 99) (by omega) (by decide)), if_pos rfl, show p0_hasRoom (17 + 7) 1 MX = _ from hasRoom_X (k := 1) h7 hd (by omega), bd_s, it01, gd_of bIn0, z0, h1]
    by_cases f : d + 1 ≤ 40
    · obtain ⟨MX', MY', e1, e2, hR', _⟩ := do_week hR hL hH' (by omega) (by omega)
      obtain ⟨n', d', σ', hn', hd', h0', hX', hY', hV', h7', h1'⟩ := rel_here hR'
      rw [if_pos f, if_neg (fun w => (full_Y hd).mp w f), e1, e2, bv_s, bv_s, dueInAll_X hX' hn' hV' hd', dueInAll_Y h0' hY' hn' hV' hd', bd_s, bd_s]
      exact ag_no hR' _
    · rw [if_neg f, if_pos ((full_Y hd).mpr f)]
      exact ag_no hR _
theorem ag_stock (a1 a2 : Int32) (MX MY : SX) (hR : Rel MX MY) : Ag (p5_stock a1 a2 MX) (p6_stock a1 a2 MY) := by
  obtain ⟨n, d, st, hn, hz, hL, hH⟩ := rel_main hR
  rw [p5_stock, p6_stock]
  refine ag_shopg hR hH a1 (fun s hs e => ?_) (by rw [if_pos rfl]) (by rw [if_pos rfl])
  subst e
  obtain ⟨hn, hd, h0, hX, hY, hV, h7, h1⟩ := hH
  rw [if_neg i10, if_neg i10, show p6_in a2.toInt64 0 9 MY = _ from in_YI a2 0 9 MY, bd_s, it01]
  rcases arg3 a2 0 9 (by decide) (by decide) with ⟨g1, g2⟩ | ⟨g1, g2, g3⟩ | ⟨k, hk1, hk, rfl⟩
  · rw [if_pos (show a2 < 0 from g1), if_neg (show ¬ (0 ≤ a2 ∧ a2 ≤ 9) from g2)]
    exact ag_no hR _
  · rw [if_neg (show ¬ a2 < 0 from g1), if_neg (show ¬ (0 ≤ a2 ∧ a2 ≤ 9) from g3), if_neg (show ¬ a2 ≤ 9 from Int32.not_le.mpr g2)]
    exact ag_no hR _
  · have i25 := ix25 (s := s) (by omega)
    have hy := (hY s hs).2.2.1
    rw [Nat.zero_add] at hy
    rw [if_neg (show ¬ nI k < 0 from nI_pos (by omega)), if_pos (show nI k ≤ 9 from nI_le (b := 9) hk (by decide)), if_pos (show 0 ≤ nI k ∧ nI k ≤ 9 from ⟨nI_pos' (by omega), nI_le (b := 9) hk (by decide)⟩), h7, gd_of bIn0, z0, h1]
    by_cases c : d = 0
    · subst c
      have hc : nI 0 ≤ (0 : Int32) := by decide
      rw [if_pos hc, if_pos hc, gd_of (bIn_nI (by omega) (by decide)), nI_clamp (by omega), (hX.2 s hs).2.2.1, lt_v, lt_v, gd_of i25.1, i25.2, hy, lt_v, lt_v]
      refine ⟨_, _, _, rfl, rfl, ?_⟩
      have rX := hX.set (f := 2) (s := s) (v := k) (x := nI k) (17 + 3) (by omega) (by omega) (enc_n (by omega)).symm
      have rY := hY.set hn (f := 2) (s := s) (v := k) (x := nI k) (25 + s) rfl (by omega) (by omega) hs (enc_n (by omega)).symm
      refine rel_lane hR h0 hn (fun c hc => wI_nk (by omega)) rfl (fun c hc => wI_nk hc) rfl (fun j hj => by rw [wI_k, if_neg (by omega)]) ⟨0, fun _ => setF (st 0) 2 s k, fun _ => rfl, by omega, rX, ?_, rY, ?_, fun i hi => absurd hi (Nat.not_lt_zero i), fun i hi => ?_⟩
      · rw [wI_nk (by decide)]; exact h7
      · rw [wI_k, if_neg (by omega)]; exact h1
      · have hi0 : i = 0 := by omega
        subst hi0
        refine ⟨?_, fun t ht => ?_⟩
        · have e : tot n (setF (st 0) 2 s k 1) = tot n (st 0 1) := tot_eq (fun j hj => setF_n _ (by omega))
          rw [e]; exact hV.1
        · have g := hV.2 t ht
          simp only [setF]
          simp
          refine ⟨g.1, ?_, g.2.2.1, g.2.2.2.1, g.2.2.2.2.1, by have := g.2.2.2.2.2.1; omega, by have := g.2.2.2.2.2.2.1; omega, by have := g.2.2.2.2.2.2.2; omega⟩
          split
          · exact hk
          · exact g.2.1
    · have hc : ¬ nI d ≤ (0 : Int32) := nI_nle (by omega) (by omega)
      rw [if_neg hc, if_neg hc]
      exact ag_no hR _
