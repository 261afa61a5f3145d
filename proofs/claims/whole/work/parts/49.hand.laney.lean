/-! a lane, read (the reference) -/
theorem nI_pl (a b : Nat) : nI a + nI b = nI (a + b) := nI_add a b
section LaneY
variable {n d : Nat} {M : SX} {σ : LV}
theorem ixY {c s : Nat} (hc : c ≤ 3000) (hs : s < 6) : bIn (nI c + nI s) 3964 = true ∧ (nI c + nI s).toNatClampNeg = c + s := by
  rw [nI_add]
  exact ⟨bIn_nI (by omega) (by decide), nI_clamp (by omega)⟩
theorem ix1 {s : Nat} (hs : s < 6) : bIn ((1 : Int32) + nI s) 3964 = true ∧ ((1 : Int32) + nI s).toNatClampNeg = 1 + s := ixY (c := 1) (by decide) hs
theorem ix7 {s : Nat} (hs : s < 6) : bIn ((7 : Int32) + nI s) 3964 = true ∧ ((7 : Int32) + nI s).toNatClampNeg = 7 + s := ixY (c := 7) (by decide) hs
theorem ix13 {s : Nat} (hs : s < 6) : bIn ((13 : Int32) + nI s) 3964 = true ∧ ((13 : Int32) + nI s).toNatClampNeg = 13 + s := ixY (c := 13) (by decide) hs
theorem ix19 {s : Nat} (hs : s < 6) : bIn ((19 : Int32) + nI s) 3964 = true ∧ ((19 : Int32) + nI s).toNatClampNeg = 19 + s := ixY (c := 19) (by decide) hs
theorem ix25 {s : Nat} (hs : s < 6) : bIn ((25 : Int32) + nI s) 3964 = true ∧ ((25 : Int32) + nI s).toNatClampNeg = 25 + s := ixY (c := 25) (by decide) hs
theorem isShop_Y (h0 : M.1 0 1 = nI n) (hn : n ≤ 6) (a : Int32) : p6_isShop a M = some (if 0 ≤ a ∧ a < nI n then 1 else 0, M) := by
  rw [p6_isShop, h0, in_Yn a (by omega), bd_s, gd_of (isB_01 _)]
theorem isPawned_Y (hY : YRep 0 M n σ) (hn : n ≤ 6) (hV : Valid n d σ) {s : Nat} (hs : s < n) : p6_isPawned (nI s) M = some (if 0 < σ 3 s then 1 else 0, M) := by
  have hh : σ 3 s ≤ 6 := Nat.le_trans (hV.2 s hs).2.2.1 hn
  have ix := ix7 (s := s) (by omega)
  have e := (hY s hs).2.2.2.1
  rw [Nat.zero_add] at e
  rw [p6_isPawned, gd_of ix.1, ix.2, e]
  by_cases h : σ 3 s = 0
  · rw [if_pos ((hv_m9 hh).mpr h), if_neg (by omega)]
  · rw [if_neg (fun z => h ((hv_m9 hh).mp z)), if_pos (by omega)]
theorem dueIn_Y (hY : YRep 0 M n σ) (hn : n ≤ 6) (hV : Valid n d σ) (hd : d ≤ 40) {s w : Nat} (hs : s < n) (hw : w ≤ 100) : p6_dueIn (nI s) (nI w) M = some (nI (due σ s w), M) := by
  have hv1 := hV.2 s hs
  have i13 := ix13 (s := s) (by omega)
  have i19 := ix19 (s := s) (by omega)
  have i7 := ix7 (s := s) (by omega)
  rw [p6_dueIn, isPawned_Y hY hn hV hs, bd_s, it01]
  unfold due
  match he : σ 3 s with
  | 0 => rw [if_neg (by omega)]; rfl
  | h + 1 =>
    have hh : h < n := by omega
    have hy := hY s hs
    rw [he] at hy
    simp only [Nat.zero_add] at hy
    have e7 : M.1 1 (7 + s) = nI h := hy.2.2.2.1
    have ek : M.1 2 h = nI (σ 0 h) := (hY h hh).1
    have hk := (hV.2 h hh).1
    have hl := hv1.2.2.2.2.1
    have hw1 := hv1.2.2.2.2.2.1
    rw [if_pos (by omega), gd_of i13.1, i13.2, lt_v, gd_of i19.1, i19.2, lt_v, gd_of i7.1, i7.2, e7, gd_of (bIn_nI (by omega) (by decide)), nI_clamp (by omega), ek, hy.2.2.2.2.1, hy.2.2.2.2.2, nI_add]
    show _ = some (nI (dueK (σ 0 h) (σ 4 s) (σ 5 s + w)), M)
    generalize σ 0 h = k at hk
    generalize σ 4 s = l at hl
    generalize hz : σ 5 s + w = z
    have hz2 : z ≤ 1000 := by omega
    rcases (show k = 0 ∨ k = 1 ∨ k = 2 ∨ k = 3 ∨ k = 4 ∨ k = 5 by omega) with rfl | rfl | rfl | rfl | rfl | rfl
    · rw [if_neg (by decide), if_neg (by decide), if_neg (by decide), if_neg (by decide), if_neg (by decide), nI_add]
      rfl
    · rw [if_pos (by decide)]
      rfl
    · rw [if_neg (by decide), if_pos (by decide), show (2 : Int32) * nI z = nI (2 * z) from pk_mul 2 z, nI_add]
      rfl
    · rw [if_neg (by decide), if_neg (by decide), if_pos (by decide), div2 (by omega), nI_add]
      rfl
    · rw [if_neg (by decide), if_neg (by decide), if_neg (by decide), if_pos (by decide)]
      show _ = some (nI (if z < l then l - z else 1), M)
      by_cases h : z < l
      · rw [if_pos h, if_neg (nI_ge h (by omega)), pk_sub (by omega)]
      · rw [if_neg h, if_pos (nI_le (by omega) (by omega))]
        rfl
    · rw [if_neg (by decide), if_neg (by decide), if_neg (by decide), if_neg (by decide), if_pos (by decide), show (3 : Int32) * nI z = nI (3 * z) from pk_mul 3 z, nI_add]
      rfl
theorem or0 (a : Nat) : nI a ||| 0 = nI a := by
  rw [show (0 : Int32) = nI 0 from rfl, or_nI, Nat.or_zero]
theorem add0 (a : Nat) : nI a + 0 = nI a := by
  rw [show (0 : Int32) = nI 0 from rfl, nI_add, Nat.add_zero]
theorem heldBy_Y (h0 : M.1 0 1 = nI n) (hY : YRep 0 M n σ) (hn : n ≤ 6) (hV : Valid n d σ) {s : Nat} (hs : s < n) : p6_heldBy (nI s) M = some (nI (held n σ s), M) := by
  rw [p6_heldBy]
  refine lp3_go (fun _ => nI s) (fun i => nI (held i σ s)) (fun i => nI i) (fun _ => M) n (by omega) _ (fun i hi rc => ?_) (fun rc => ?_)
  · have hh : σ 3 i ≤ 6 := Nat.le_trans (hV.2 i hi).2.2.1 hn
    have ix := ix7 (s := i) (by omega)
    have e7 := (hY i hi).2.2.2.1
    rw [Nat.zero_add] at e7
    rw [p6_heldBy_4, h0, if_neg (nI_ge hi (by omega)), gd_of ix.1, ix.2, e7]
    have e : held (i + 1) σ s = if σ 3 i = s + 1 then held i σ s ||| 2 ^ i else held i σ s := by simp [held, bset]
    by_cases h : σ 3 i = s + 1
    · rw [if_pos ((hv_eq hh (by omega)).mpr h), p6_heldBy_33, lt_v, lt_v, shl1 i (by omega), or_nI, nI_1, e, if_pos h]
    · rw [if_neg (fun z => h ((hv_eq hh (by omega)).mp z)), p6_heldBy_33, lt_v, lt_v, or0, nI_1, e, if_neg h]
  · rw [p6_heldBy_4, h0, if_pos (Int32.le_refl _)]
theorem loansTo_Y (h0 : M.1 0 1 = nI n) (hY : YRep 0 M n σ) (hn : n ≤ 6) (hV : Valid n d σ) {s : Nat} (hs : s < n) : p6_loansTo (nI s) M = some (nI (loanTo n σ s), M) := by
  rw [p6_loansTo]
  refine lp3_go (fun _ => nI s) (fun i => nI (loanTo i σ s)) (fun i => nI i) (fun _ => M) n (by omega) _ (fun i hi rc => ?_) (fun rc => ?_)
  · have hh : σ 3 i ≤ 6 := Nat.le_trans (hV.2 i hi).2.2.1 hn
    have ix := ix7 (s := i) (by omega)
    have ix2 := ix13 (s := i) (by omega)
    have hy := hY i hi
    simp only [Nat.zero_add] at hy
    rw [p6_loansTo_4, h0, if_neg (nI_ge hi (by omega)), gd_of ix.1, ix.2, hy.2.2.2.1]
    have e : loanTo (i + 1) σ s = loanTo i σ s + if σ 3 i = s + 1 then σ 4 i else 0 := rfl
    by_cases h : σ 3 i = s + 1
    · rw [if_pos ((hv_eq hh (by omega)).mpr h), gd_of ix2.1, ix2.2, hy.2.2.2.2.1, p6_loansTo_39, lt_v, lt_v, nI_add, nI_1, e, if_pos h]
    · rw [if_neg (fun z => h ((hv_eq hh (by omega)).mp z)), p6_loansTo_39, lt_v, lt_v, add0, nI_1, e, if_neg h, Nat.add_zero (loanTo i σ s)]
  · rw [p6_loansTo_4, h0, if_pos (Int32.le_refl _)]
theorem pawned_Y (h0 : M.1 0 1 = nI n) (hY : YRep 0 M n σ) (hn : n ≤ 6) (hV : Valid n d σ) : p6_pawned M = some (nI (pawnS n σ), M) := by
  rw [p6_pawned]
  refine lp2_go (fun i => nI (pawnS i σ)) (fun i => nI i) (fun _ => M) n (by omega) _ (fun i hi rc => ?_) (fun rc => ?_)
  · rw [p6_pawned_4, h0, if_neg (nI_ge hi (by omega)), isPawned_Y hY hn hV hi, bd_s, it01]
    have e : pawnS (i + 1) σ = if 0 < σ 3 i then pawnS i σ ||| 2 ^ i else pawnS i σ := by simp [pawnS, bset]
    by_cases h : 0 < σ 3 i
    · rw [if_pos h, p6_pawned_28, lt_v, lt_v, shl1 i (by omega), or_nI, nI_1, e, if_pos h]
    · rw [if_neg h, p6_pawned_28, lt_v, lt_v, or0, nI_1, e, if_neg h]
  · rw [p6_pawned_4, h0, if_pos (Int32.le_refl _)]
theorem dueTo_Y (h0 : M.1 0 1 = nI n) (hY : YRep 0 M n σ) (hn : n ≤ 6) (hV : Valid n d σ) (hd : d ≤ 40) {s w : Nat} (hs : s < n) (hw : w ≤ 100) : p6_dueTo (nI s) (nI w) M = some (nI (dueTo n σ s w), M) := by
  rw [p6_dueTo]
  refine lp4_go (fun _ => nI s) (fun _ => nI w) (fun i => nI (dueTo i σ s w)) (fun i => nI i) (fun _ => M) n (by omega) _ (fun i hi rc => ?_) (fun rc => ?_)
  · have hh : σ 3 i ≤ 6 := Nat.le_trans (hV.2 i hi).2.2.1 hn
    have ix := ix7 (s := i) (by omega)
    have hy := hY i hi
    simp only [Nat.zero_add] at hy
    rw [p6_dueTo_5, h0, if_neg (nI_ge hi (by omega)), gd_of ix.1, ix.2, hy.2.2.2.1]
    have e : dueTo (i + 1) σ s w = dueTo i σ s w + if σ 3 i = s + 1 then due σ i w else 0 := rfl
    by_cases h : σ 3 i = s + 1
    · rw [if_pos ((hv_eq hh (by omega)).mpr h), dueIn_Y hY hn hV hd hi hw, bd_s, p6_dueTo_40, lt_v, lt_v, nI_add, nI_1, e, if_pos h]
    · rw [if_neg (fun z => h ((hv_eq hh (by omega)).mp z)), p6_dueTo_40, lt_v, lt_v, add0, nI_1, e, if_neg h, Nat.add_zero (dueTo i σ s w)]
  · rw [p6_dueTo_5, h0, if_pos (Int32.le_refl _)]
theorem canNow_Y (h0 : M.1 0 1 = nI n) (hY : YRep 0 M n σ) (hn : n ≤ 6) (hV : Valid n d σ) (hd : d ≤ 40) : p6_canNow M = some (nI (canS n σ), M) := by
  rw [p6_canNow]
  refine lp2_go (fun i => nI (canS i σ)) (fun i => nI i) (fun _ => M) n (by omega) _ (fun i hi rc => ?_) (fun rc => ?_)
  · have h1 := due_le hV hi 0
    have h2 := cash_le hV hi
    have ix := ix1 (s := i) (by omega)
    have hy := hY i hi
    simp only [Nat.zero_add] at hy
    rw [p6_canNow_4, h0, if_neg (nI_ge hi (by omega)), isPawned_Y hY hn hV hi, bd_s, it01]
    have e : canS (i + 1) σ = if 0 < σ 3 i ∧ due σ i 0 ≤ σ 1 i then canS i σ ||| 2 ^ i else canS i σ := by simp [canS, bset]
    by_cases h : 0 < σ 3 i
    · rw [if_pos h, gd_of ix.1, ix.2, hy.2.1, show p6_dueIn (nI i) 0 M = _ from dueIn_Y hY hn hV hd hi (w := 0) (by omega), bd_s]
      by_cases g : σ 1 i < due σ i 0
      · rw [if_pos ((nI_ltI (by omega) (by omega)).mpr g), p6_canNow_44, p6_canNow_45, lt_v, lt_v, or0, nI_1, e, if_neg (by omega)]
      · rw [if_neg (fun z => g ((nI_ltI (by omega) (by omega)).mp z)), p6_canNow_45, lt_v, lt_v, shl1 i (by omega), or_nI, nI_1, e, if_pos ⟨h, by omega⟩]
    · rw [if_neg h, p6_canNow_44, p6_canNow_45, lt_v, lt_v, or0, nI_1, e, if_neg (fun z => h z.1)]
  · rw [p6_canNow_4, h0, if_pos (Int32.le_refl _)]
end LaneY
