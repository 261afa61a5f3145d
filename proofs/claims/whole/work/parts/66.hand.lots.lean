/-! weeks by lots -/
theorem lNd {a b : Nat} (ha : a < 2 ^ 63) (h0 : 0 < b) (hb : b < 2 ^ 63) : lN a - lN a / lN b * lN b = lN (a % b) := pk_lRem ha h0 hb
theorem lotX {MX MY : SX} (hR : Rel MX MY) {n d : Nat} {st : Nat → LV} (hL : LaneAt 17 0 MX MY n d st) (hH : Here MX MY n d (st d)) (hn0 : 0 < n) (hd : d < 40) {m : Nat} (hm : m < 2 ^ 31) : ∃ MX' MY', p1_doByLot 17 (nI m) MX = some MX' ∧ p6_doLot (lN m) MY = some MY' ∧ Rel MX' MY' ∧ MX'.1 (17 + 7) 1 = nI (d + 1) := by
  have hH' := hH
  obtain ⟨hn, hd4, h0, hX, hY, hV, h7, h1⟩ := hH
  have hs : m % n < n := Nat.mod_lt _ hn0
  have ht : m / 16 % n < n := Nat.mod_lt _ hn0
  have hk : m / 256 % 9 + 1 ≤ 9 := by have := Nat.mod_lt (m / 256) (show 0 < 9 by omega); omega
  have hcl := canS_lt hn (st d)
  have e16 : nI m / 16 = nI (m / 16) := pk_div (d := 16) hm (by decide) (by decide)
  have e256 : nI m / 256 = nI (m / 256) := pk_div (d := 256) hm (by decide) (by decide)
  have f16 : lN m / 16 = lN (m / 16) := pk_lDiv (b := 16) (by omega) (by decide) (by decide)
  have f256 : lN m / 256 = lN (m / 256) := pk_lDiv (b := 256) (by omega) (by decide) (by decide)
  have x3 : nI m - nI m / nI n * nI n = nI (m % n) := pk_rem hm hn0 (by omega)
  have x4 : nI (m / 16) - nI (m / 16) / nI n * nI n = nI (m / 16 % n) := pk_rem (by omega) hn0 (by omega)
  have x5 : nI (m / 256) - nI (m / 256) / 9 * 9 = nI (m / 256 % 9) := pk_rem (d := 9) (by omega) (by decide) (by decide)
  have y3 : lN m - lN m / lN n * lN n = lN (m % n) := lNd (by omega) hn0 (by omega)
  have y4 : lN (m / 16) - lN (m / 16) / lN n * lN n = lN (m / 16 % n) := lNd (by omega) hn0 (by omega)
  have y5 : lN (m / 256) - lN (m / 256) / 9 * 9 = lN (m / 256 % 9) := lNd (b := 9) (by omega) (by decide) (by decide)
  have hz0 := nI_ne0 (n := n) (by omega) (by omega)
  have hlz : nzL (lN n) = true := by
    unfold nzL
    refine decide_eq_true (fun z => ?_)
    have := (pk_lEQ (a := n) (b := 0) (by omega) (by decide)).mp z
    omega
  have hnz : nz (nI n) = true := by
    unfold nz
    exact decide_eq_true hz0
  have e1k : (1 : Int32) + nI (m / 256 % 9) = nI (m / 256 % 9 + 1) := by rw [show (1 : Int32) + nI (m / 256 % 9) = nI (1 + m / 256 % 9) from nI_add 1 _, Nat.add_comm]
  rw [p1_doByLot, p6_doLot, hX.1, h0, if_neg hz0, gd_of hnz, nI_l (by omega), gd_of hlz, x3, e16, x4, e256, x5, f16, f256, y3, y4, y5, lN_i, lN_i, lN_i, lt_v, lt_v, lt_v, lt_v, lt_v, lt_v, nI_1, e1k]
  generalize m % n = s at hs
  generalize m / 16 % n = t at ht
  have hk1 : 1 ≤ m / 256 % 9 + 1 := by omega
  generalize m / 256 % 9 + 1 = k at hk hk1 x5 y5 e1k ⊢
  · rw [canRedeem_X hX hn hV hd4 hs, bd_s, it01, isPawned_Y hY hn hV hs, bd_s, it01]
    by_cases p : 0 < st d 3 s
    · rw [if_pos p]
      rw [canNow_Y h0 hY hn hV hd4, bd_s, has_Y (by omega) (by omega), bd_s, it01, canS_tb hs]
      by_cases c : due (st d) s 0 ≤ st d 1 s
      · obtain ⟨MX', MY', e1, e2, hR', h'⟩ := do_redeem hR hL hH' hd hs p c
        rw [if_pos ⟨p, c⟩, if_pos (decide_eq_true ⟨p, c⟩), e1, e2, bd_s, bd_s]
        exact ⟨_, _, rfl, rfl, hR', h'⟩
      · obtain ⟨MX', MY', e1, e2, hR', h'⟩ := do_week hR hL hH' hd hn0
        rw [if_neg (fun z => c z.2), if_neg (fun z => c (of_decide_eq_true z).2), isPawned_X hX hn hV hs, bd_s, it01, if_pos p, e1, e2, bv_s, bv_s]
        exact ⟨_, _, rfl, rfl, hR', h'⟩
    · have i1 := ix1 (s := t) (by omega)
      have hy := (hY t ht).2.1
      rw [Nat.zero_add] at hy
      have hcash := cash_le hV ht
      rw [if_neg p, if_neg (fun z => p z.1), isPawned_X hX hn hV hs, bd_s, it01, if_neg p, canPawn_X hX hn hV hd4 hs ht hk, bd_s, it01]
      have give : ∃ MX' MY', (bv (p1_doGive 17 (nI s) 1 MX) fun M19 => some M19) = some MX' ∧ p6_doLot_104 (nI s) MY = some MY' ∧ Rel MX' MY' ∧ MX'.1 (17 + 7) 1 = nI (d + 1) := by
        obtain ⟨MX', MY', e1, e2, _, hR', h'⟩ := do_give hR hL hH' hd (k := 1) hs (by omega)
        rw [show p1_doGive 17 (nI s) 1 MX = some MX' from e1, bv_s, p6_doLot_104, show p6_doGive (nI s) 1 MY = _ from e2, bd_s]
        exact ⟨_, _, rfl, rfl, hR', h'⟩
      by_cases hst : t = s
      · rw [if_neg (fun z => z.1 hst.symm), if_pos (by rw [hst])]
        exact give
      · rw [if_neg (fun z => hst ((nI_eq (by omega) (by omega)).mp z)), gd_of i1.1, i1.2, hy]
        by_cases c : st d 1 t < k
        · rw [if_neg (by omega), if_pos ((nI_ltI (by omega) (by omega)).mpr c)]
          exact give
        · obtain ⟨MX', MY', e1, e2, hR', h'⟩ := do_pawn hR hL hH' hd hs ht (Ne.symm hst) hk1 hk (by omega) (by omega)
          rw [if_pos ⟨Ne.symm hst, by omega, by omega⟩, if_neg (fun z => c ((nI_ltI (by omega) (by omega)).mp z)), e1, e2, bv_s, bv_s]
          exact ⟨_, _, rfl, rfl, hR', h'⟩
theorem lots_loop (a : Nat) (ha : a ≤ 20) : ∀ (k f : Nat) (MX MY : SX) (m d : Nat), k < f → k ≤ a → Rel MX MY → MX.1 (17 + 7) 1 = nI d → d + k ≤ 40 → ¬ MY.1 0 1 = 0 → m < 2 ^ 31 → Ag (xlp3 p5_lots_63 f (nI a) (lN m) (nI (a - k)) MX) (xlp3 p6_lots_58 f (nI a) (lN m) (nI (a - k)) MY)
  | k, 0, _, _, _, _, h, _, _, _, _, _, _ => absurd h (Nat.not_lt_zero k)
  | 0, f + 1, MX, MY, m, d, _, _, hR, _, _, _, _ => by
    obtain ⟨n, d', σ, hn, hd, h0, hX, hY, hV, h7, h1⟩ := rel_here hR
    show Ag (p5_lots_63 (xlp3 p5_lots_63 f) (nI a) (lN m) (nI (a - 0)) MX) (p6_lots_58 (xlp3 p6_lots_58 f) (nI a) (lN m) (nI (a - 0)) MY)
    have hle : nI a ≤ nI (a - 0) := Int32.le_refl _
    rw [p5_lots_63, p6_lots_58, if_pos hle, if_pos hle, pawnedSet_X hX hn hV, pawned_Y h0 hY hn hV, bd_s, bd_s, bits_X (pawnS_lt hn σ), bits_Y (pawnS_lt hn σ), bd_s, bd_s]
    exact ag_no hR _
  | k + 1, f + 1, MX, MY, m, d, hf, hk, hR, hd, hdk, hn0, hm => by
    obtain ⟨n, d', st, hn, hz, hL, hH⟩ := rel_main hR
    have hdd : d' = d := (nI_eq (by have := hH.2.1; omega) (by omega)).mp (hH.2.2.2.2.2.2.1.symm.trans hd)
    subst hdd
    have hn1 : 0 < n := Nat.pos_of_ne_zero (fun z => hn0 (by rw [hH.2.2.1, z]; rfl))
    have hm2 : m * 48271 % 2147483647 < 2 ^ 31 := Nat.lt_of_lt_of_le (Nat.mod_lt _ (by decide)) (by decide)
    have ex : lN m * 48271 - lN m * 48271 / 2147483647 * 2147483647 = lN (m * 48271 % 2147483647) := by
      rw [show lN m * 48271 = lN (m * 48271) from lN_mul m 48271]
      exact lNd (b := 2147483647) (by omega) (by decide) (by decide)
    obtain ⟨MX', MY', e1, e2, hR', h'⟩ := lotX hR hL hH hn1 (by omega) hm2
    show Ag (p5_lots_63 (xlp3 p5_lots_63 f) (nI a) (lN m) (nI (a - (k + 1))) MX) (p6_lots_58 (xlp3 p6_lots_58 f) (nI a) (lN m) (nI (a - (k + 1))) MY)
    have hlt : ¬ nI a ≤ nI (a - (k + 1)) := nI_ge (by omega) (by omega)
    rw [p5_lots_63, p6_lots_58, if_neg hlt, if_neg hlt, ex, lt_v, lt_v, lN_i, e1, e2, bv_s, bv_s, lt_v, lt_v, nI_1, show a - (k + 1) + 1 = a - k by omega]
    refine lots_loop a ha k f MX' MY' _ (d' + 1) (by omega) (by omega) hR' h' (by omega) ?_ hm2
    obtain ⟨n2, d2, st2, hn2, hz2, hL2, hH2⟩ := rel_main hR'
    have hd2 : d2 = d' + 1 := (nI_eq (by have := hH2.2.1; omega) (by omega)).mp (hH2.2.2.2.2.2.2.1.symm.trans h')
    rw [hH2.2.2.1]
    exact nI_ne0 (Nat.pos_of_ne_zero (fun z => by have := hz2 z; omega)) (by omega)
theorem ag_lots (a1 a2 : Int32) (MX MY : SX) (hR : Rel MX MY) : Ag (p5_lots a1 a2 MX) (p6_lots a1 a2 MY) := by
  obtain ⟨n, d, σ, hn, hd, h0, hX, hY, hV, h7, h1⟩ := rel_here hR
  rw [p5_lots, p6_lots, show p6_in a1.toInt64 1 20 MY = _ from in_YI a1 1 20 MY, bd_s, it01]
  rcases arg3 a1 1 20 (by decide) (by decide) with ⟨g1, g2⟩ | ⟨g1, g2, g3⟩ | ⟨k, hk1, hk, rfl⟩
  · rw [if_pos (show a1 < 1 from g1), if_neg (show ¬ (1 ≤ a1 ∧ a1 ≤ 20) from g2)]
    exact ag_no hR _
  · rw [if_neg (show ¬ a1 < 1 from g1), if_pos (show 20 < a1 from g2), if_neg (show ¬ (1 ≤ a1 ∧ a1 ≤ 20) from g3)]
    exact ag_no hR _
  · rw [if_neg (show ¬ nI k < 1 from nI_nlt (b := 1) hk1 (by omega)), if_neg (show ¬ (20 : Int32) < nI k from nI_nlt (a := 20) hk (by decide)), if_pos (show 1 ≤ nI k ∧ nI k ≤ 20 from ⟨nI_le (a := 1) hk1 (by omega), nI_le (b := 20) hk (by decide)⟩), show p6_in a2.toInt64 1 2147483646 MY = _ from in_YI a2 1 2147483646 MY, bd_s, it01]
    rcases arg3 a2 1 2147483646 (by decide) (by decide) with ⟨g1, g2⟩ | ⟨g1, g2, g3⟩ | ⟨m, hm1, hm, rfl⟩
    · rw [if_pos (show a2 < 1 from g1), if_neg (show ¬ (1 ≤ a2 ∧ a2 ≤ 2147483646) from g2)]
      exact ag_no hR _
    · rw [if_neg (show ¬ a2 < 1 from g1), if_neg (show ¬ (1 ≤ a2 ∧ a2 ≤ 2147483646) from g3), if_neg (show ¬ a2.toInt64 < 2147483647 from fun z => ?_)]
      · exact ag_no hR _
      · have z2 : a2.toInt64 < (2147483647 : Int32).toInt64 := z
        rw [fa_wide_lt, Int32.lt_iff_toInt_lt] at z2
        have g4 : (2147483646 : Int32) < a2 := g2
        rw [Int32.lt_iff_toInt_lt] at g4
        have e1 : (2147483647 : Int32).toInt = 2147483647 := rfl
        have e2 : (2147483646 : Int32).toInt = 2147483646 := rfl
        omega
    · rw [if_neg (show ¬ nI m < 1 from nI_nlt (b := 1) hm1 (by omega)), if_pos (show 1 ≤ nI m ∧ nI m ≤ 2147483646 from ⟨nI_le (a := 1) hm1 (by omega), nI_le (b := 2147483646) hm (by decide)⟩), nI_l (by omega), if_pos (show lN m < 2147483647 from (pk_lLT (b := 2147483647) (by omega) (by decide)).mpr (by omega)), hX.1, h0]
      by_cases hn0 : n = 0
      · subst hn0
        rw [if_pos nI_0, if_pos nI_0]
        exact ag_no hR _
      · have hz0 := nI_ne0 (n := n) (by omega) (by omega)
        rw [if_neg hz0, if_neg hz0, hasRoom_X h7 hd (by omega), bd_s, it01, gd_of bIn0, z0, h1, nI_add]
        by_cases f : d + k ≤ 40
        · rw [if_pos f, if_pos (show nI (d + k) ≤ 40 from nI_le (b := 40) f (by decide)), lt_v, lt_v]
          have := lots_loop k hk k FU MX MY m d (by unfold FU; omega) (Nat.le_refl k) hR h7 f (by rw [h0]; exact hz0) (by omega)
          rw [Nat.sub_self] at this
          exact this
        · rw [if_neg f, if_neg (show ¬ nI (d + k) ≤ 40 from nI_ge (b := d + k) (a := 40) (by omega) (by omega))]
          exact ag_no hR _
