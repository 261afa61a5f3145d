/-! rows that tell of shops or sets -/
def alB (y : Nat → Int32) (hi : Nat) : Nat → Bool
  | 0 => true
  | i + 1 => alB y hi i && decide (0 ≤ y i ∧ y i ≤ nI hi)
theorem alB_all {y : Nat → Int32} {hi : Nat} : ∀ {n : Nat}, alB y hi n = true → ∀ i, i < n → 0 ≤ y i ∧ y i ≤ nI hi
  | 0, _, i, h => absurd h (Nat.not_lt_zero i)
  | n + 1, h, i, hi' => by
    rw [alB, Bool.and_eq_true, decide_eq_true_iff] at h
    by_cases e : i = n
    · rw [e]; exact h.2
    · exact alB_all h.1 i (by omega)
theorem alB_no {y : Nat → Int32} {hi n i : Nat} (h : i < n) (hn : ¬ (0 ≤ y i ∧ y i ≤ nI hi)) : alB y hi n = false := by
  cases e : alB y hi n
  · rfl
  · exact absurd (alB_all e i h) hn
theorem lt_le {a : Int32} {hi : Nat} (h : hi < 2 ^ 31 - 1) : a < nI (hi + 1) ↔ a ≤ nI hi := by
  rw [Int32.lt_iff_toInt_lt, Int32.le_iff_toInt_le, nI_toInt (by omega), nI_toInt (by omega)]
  omega
theorem allBelow_X {M : SX} {r len hi : Nat} (hr : r < 6) (hl : len ≤ 40) (hw : M.1 1 0 = nI 40) (hs : M.1 2 r = nI len) (hh : hi < 1000) : p4_allBelow 1 (nI r) (nI (hi + 1)) M = some (if alB (fun i => M.1 3 (40 * r + i)) hi len = true then 1 else 0, M) := by
  rw [p4_allBelow]
  have st : ∀ i, i < len → ∀ rc, p4_allBelow_2 1 rc (nI r) (nI (hi + 1)) (nI i) M = if 0 ≤ M.1 3 (40 * r + i) ∧ M.1 3 (40 * r + i) ≤ nI hi then rc (nI r) (nI (hi + 1)) (nI (i + 1)) M else some (0, M) := by
    intro i hi' rc
    rw [p4_allBelow_2, gd_of (bIn_nI (n := szS 1) hr (by decide)), nI_clamp (by omega), show M.1 (1 + 1) r = nI len from hs, if_neg (nI_ge hi' (by omega)), valueAt_X hw (by omega), bd_s]
    by_cases c : M.1 (1 + 2) (40 * r + i) < 0
    · rw [if_pos c, if_neg (fun z => absurd z.1 (Int32.not_le.mpr c))]
    · rw [if_neg c]
      by_cases c2 : M.1 (1 + 2) (40 * r + i) < nI (hi + 1)
      · rw [if_pos c2, if_pos ⟨Int32.not_lt.mp c, (lt_le (by omega)).mp c2⟩, lt_v, nI_1]
      · rw [if_neg c2, if_neg (fun z => c2 ((lt_le (by omega)).mpr z.2))]
  by_cases h : alB (fun i => M.1 3 (40 * r + i)) hi len = true
  · rw [if_pos h]
    refine lp3_go (fun _ => nI r) (fun _ => nI (hi + 1)) (fun i => nI i) (fun _ => M) len (by omega) _ (fun i hi' rc => ?_) (fun rc => ?_)
    · rw [st i hi' rc, if_pos (alB_all h i hi')]
    · rw [p4_allBelow_2, gd_of (bIn_nI (n := szS 1) hr (by decide)), nI_clamp (by omega), show M.1 (1 + 1) r = nI len from hs, if_pos (Int32.le_refl _)]
  · rw [if_neg h]
    have hex : ∃ i, i < len ∧ (!decide (0 ≤ M.1 3 (40 * r + i) ∧ M.1 3 (40 * r + i) ≤ nI hi)) = true := by
      refine Classical.byContradiction (fun z => h ?_)
      have key : ∀ k, k ≤ len → alB (fun i => M.1 3 (40 * r + i)) hi k = true := by
        intro k
        induction k with
        | zero => intro _; rfl
        | succ k ih =>
          intro hk
          rw [alB, ih (by omega), Bool.true_and, decide_eq_true_iff]
          refine Classical.byContradiction (fun w => z ⟨k, by omega, ?_⟩)
          rw [decide_eq_false w]; rfl
      exact key len (Nat.le_refl _)
    obtain ⟨f1, f2, f3⟩ := fst_lt hex
    generalize fst_ len (fun i => !decide (0 ≤ M.1 3 (40 * r + i) ∧ M.1 3 (40 * r + i) ≤ nI hi)) = k at f1 f2 f3
    refine lp3_go (fun _ => nI r) (fun _ => nI (hi + 1)) (fun i => nI i) (fun _ => M) k (by omega) _ (fun i hi' rc => ?_) (fun rc => ?_)
    · have := f3 i hi'
      rw [Bool.not_eq_false', decide_eq_true_iff] at this
      rw [st i (by omega) rc, if_pos this]
    · rw [Bool.not_eq_true', decide_eq_false_iff_not] at f2
      rw [st k f1 rc, if_neg f2]
theorem noRow_loop {M : SX} {r len hi : Nat} (hr : r < 6) (hl : len ≤ 6) (hs : M.1 3 r = nI len) (hh : hi < 1000) : xlp4 p6_noRow_58 FU (nI r) (nI hi) 1 0 M = if alB (fun i => M.1 4 (40 * r + i)) hi len = true then some (0, M) else some (-3, fY 3 M) := by
  refine lp4_go (fun _ => nI r) (fun _ => nI hi) (fun i => if alB (fun i => M.1 4 (40 * r + i)) hi i = true then 1 else 0) (fun i => nI i) (fun _ => M) len (by omega) _ (fun i hi' rc => ?_) (fun rc => ?_)
  · rw [p6_noRow_58, gd_of (bIn_nI hr (by decide)), nI_clamp (by omega), hs, if_neg (nI_ge hi' (by omega)), alB]
    by_cases c : alB (fun i => M.1 4 (40 * r + i)) hi i = true
    · rw [if_pos c, if_neg i10, show (40 * nI r + nI i : Int32) = nI (40 * r + i) from clampIx2, gd_of (bIn_nI (by omega) (by decide)), nI_clamp (by omega), show p6_in (M.1 4 (40 * r + i)).toInt64 0 (nI hi).toInt64 M = _ from in_YI _ 0 (nI hi) M, bd_s, it01, c, Bool.true_and]
      by_cases c2 : 0 ≤ M.1 4 (40 * r + i) ∧ M.1 4 (40 * r + i) ≤ nI hi
      · rw [if_pos c2, decide_eq_true c2, if_pos rfl, p6_noRow_101, lt_v, nI_1]
      · rw [if_neg c2, decide_eq_false c2, p6_noRow_100, p6_noRow_101, lt_v, nI_1]
        rfl
    · have cf : alB (fun i => M.1 4 (40 * r + i)) hi i = false := by simpa using c
      rw [if_neg c, if_pos rfl, p6_noRow_100, p6_noRow_101, lt_v, nI_1, cf, Bool.false_and]
      rfl
  · rw [p6_noRow_58, gd_of (bIn_nI hr (by decide)), nI_clamp (by omega), hs, if_pos (Int32.le_refl _)]
    by_cases c : alB (fun i => M.1 4 (40 * r + i)) hi len = true
    · rw [if_pos c, if_neg i10, if_pos c]
    · rw [if_neg c, if_pos rfl, find_Y 3 (by decide), bd_s, if_neg c]
/-- a row laid aside: refused alike, or read alike -/
theorem row_read {MX MY : SX} (hR : Rel MX MY) {n d : Nat} {σ : LV} (hH : Here MX MY n d σ) (hn0 : 0 < n) {r : Nat} (hr : r < 6) {lo hi : Nat} (hlo : lo ≤ 1) (hh : hi < 1000) : (∃ f, bIn f 6 = true ∧ p6_noRow (nI r) (nI lo) (nI hi) MY = some (-3, fY f MY) ∧ ((MX.1 2 r = -1 ∧ f = 1) ∨ ∃ len, len ≤ 40 ∧ MX.1 2 r = nI len ∧ ((f = 5 ∧ (len < lo ∨ 6 < len)) ∨ (f = 3 ∧ lo ≤ len ∧ len ≤ 6 ∧ alB (fun i => MX.1 3 (40 * r + i)) hi len = false)))) ∨ (∃ len, lo ≤ len ∧ len ≤ 6 ∧ MX.1 2 r = nI len ∧ MY.1 3 r = nI len ∧ p6_noRow (nI r) (nI lo) (nI hi) MY = some (0, MY) ∧ alB (fun i => MX.1 3 (40 * r + i)) hi len = true ∧ ∀ i, i < len → ∃ x, x ≤ hi ∧ MX.1 3 (40 * r + i) = nI x ∧ MY.1 4 (40 * r + i) = nI x) := by
  obtain ⟨hn, hd, h0, hX, hY, hV, h7, h1⟩ := hH
  have hz0 := nI_ne0 (n := n) hn0 (by omega)
  rw [p6_noRow, h0, if_neg hz0, gd_of (bIn_nI hr (by decide)), nI_clamp (by omega)]
  rcases rowThere hR hr with ⟨a, b⟩ | ⟨len, hl, a, b, hv0⟩
  · rw [b, if_neg (by decide), find_Y 1 (by decide), bd_s]
    exact Or.inl ⟨1, by decide, rfl, Or.inl ⟨a, rfl⟩⟩
  · rw [b, if_pos (nI_pos' (by omega))]
    by_cases c1 : len < lo
    · rw [if_pos (nI_lt c1 (by omega)), p6_noRow_46, find_Y 5 (by decide), bd_s]
      exact Or.inl ⟨5, by decide, rfl, Or.inr ⟨len, hl, a, Or.inl ⟨rfl, Or.inl c1⟩⟩⟩
    · rw [if_neg (nI_nlt (by omega) (by omega))]
      by_cases c2 : len ≤ 6
      · rw [if_pos (show nI len ≤ 6 from nI_le (b := 6) c2 (by decide)), noRow_loop hr c2 b hh]
        have eal : alB (fun i => MY.1 4 (40 * r + i)) hi len = alB (fun i => MX.1 3 (40 * r + i)) hi len := by
          have key : ∀ k, k ≤ len → alB (fun i => MY.1 4 (40 * r + i)) hi k = alB (fun i => MX.1 3 (40 * r + i)) hi k := by
            intro k
            induction k with
            | zero => intro _; rfl
            | succ k ih =>
              intro hk
              rw [alB, alB, ih (by omega), hv0 k (by omega)]
          exact key len (Nat.le_refl _)
        rw [eal]
        by_cases c3 : alB (fun i => MX.1 3 (40 * r + i)) hi len = true
        · rw [if_pos c3]
          refine Or.inr ⟨len, by omega, c2, a, rfl, rfl, c3, fun i hi' => ?_⟩
          have h3 := alB_all c3 i hi'
          rcases ix3 (MX.1 3 (40 * r + i)) (hi + 1) (by omega) with q | q | ⟨x, hx, q⟩
          · exact absurd h3.1 (Int32.not_le.mpr q)
          · exact absurd ((lt_le (by omega)).mpr h3.2) (Int32.not_lt.mpr q)
          · exact ⟨x, by omega, q, by rw [← hv0 i hi']; exact q⟩
        · rw [if_neg c3]
          exact Or.inl ⟨3, by decide, rfl, Or.inr ⟨len, hl, a, Or.inr ⟨rfl, by omega, c2, by simpa using c3⟩⟩⟩
      · rw [if_neg (show ¬ nI len ≤ 6 from nI_ge (b := len) (a := 6) (by omega) (by omega)), p6_noRow_46, find_Y 5 (by decide), bd_s]
        exact Or.inl ⟨5, by decide, rfl, Or.inr ⟨len, hl, a, Or.inl ⟨rfl, Or.inr (by omega)⟩⟩⟩
theorem aside_X {MX MY : SX} {n d : Nat} {σ : LV} (hH : Here MX MY n d σ) (hn0 : 0 < n) {r : Nat} (hr : r < 6) : p5_refusalOfAside (nI r) MX = bd (p5_refusalOfSheet 1 (nI r) MX) (fun r8 M7 => some (r8, M7)) := by
  obtain ⟨hn, hd, h0, hX, hY, hV, h7, h1⟩ := hH
  rw [p5_refusalOfAside, isNumber_X 1 (Or.inl rfl), bd_s, it01, if_pos (sixI hr).1, hX.1, if_neg (nI_ne0 hn0 (by omega))]
theorem sizeOf_X {M : SX} {r len : Nat} (hr : r < 6) (hs : M.1 2 r = nI len) : p4_sizeOf 1 (nI r) M = some (nI len, M) := by
  rw [p4_sizeOf, gd_of (bIn_nI (n := szS 1) hr (by decide)), nI_clamp (by omega), show M.1 (1 + 1) r = nI len from hs]
/-! a run of them -/
def sq_ (x : Nat → Nat) : Nat → Nat
  | 0 => 0
  | i + 1 => sq_ x i ||| 2 ^ x i
theorem ag_run (a1 : Int32) (MX MY : SX) (hR : Rel MX MY) : Ag (p5_run a1 MX) (p6_run a1 MY) := by
  obtain ⟨n, d, σ, hH⟩ := rel_here hR
  have hH' := hH
  obtain ⟨hn, hd, h0, hX, hY, hV, h7, h1⟩ := hH
  rw [p5_run, p6_run, p5_refusalOfOrder, isRow_Y, bd_s, it01]
  rcases six (a := a1) with ⟨q1, q2⟩ | ⟨r, hr, rfl⟩
  · rw [p5_refusalOfAside, isNumber_X 1 (Or.inl rfl), bd_s, it01, if_neg q1, if_neg q2, bd_s, if_neg (by decide), bd_s, if_neg (by decide)]
    exact ag_no hR _
  · rw [if_pos (sixI hr).2, h0]
    by_cases hn0 : n = 0
    · subst hn0
      rw [p5_refusalOfAside, isNumber_X 1 (Or.inl rfl), bd_s, it01, if_pos (sixI hr).1, hX.1, if_pos nI_0, bd_s, if_neg (by decide), bd_s, if_neg (by decide), p6_noRow, h0, if_pos nI_0, bd_s, if_neg (by decide)]
      exact ag_no hR _
    · have hn1 : 0 < n := Nat.pos_of_ne_zero hn0
      have e1 : nI n - 1 = nI (n - 1) := pk_sub (b := 1) hn1
      have en : n - 1 + 1 = n := by omega
      rw [aside_X hH' hn1 hr, e1]
      rcases row_read hR hH' hn1 hr (lo := 0) (hi := n - 1) (by omega) (by omega) with ⟨f, hf, hY0, hx⟩ | ⟨len, _, hl6, a, b, hY0, hal, hxs⟩
      · rw [show p6_noRow (nI r) 0 (nI (n - 1)) MY = _ from hY0, bd_s, if_neg (by decide)]
        rcases hx with ⟨a, rfl⟩ | ⟨len, hl, a, hx⟩
        · rw [sheet_X1 (Or.inl rfl) hr a, bd_s, bd_s, if_neg (by decide), bd_s, if_neg (by decide)]
          exact ag_findg 1 hf hR
        · rw [sheet_X (Or.inl rfl) hr a (by omega), bd_s, bd_s, if_pos rfl, sizeOf_X hr a, bd_s]
          rcases hx with ⟨rfl, hx⟩ | ⟨rfl, _, hx6, hx⟩
          · rw [if_neg (show ¬ nI len ≤ 6 from nI_ge (b := len) (a := 6) (by omega) (by omega)), found_X 5 (by decide), bd_s, bd_s, if_neg (by decide)]
            exact ag_findg 5 hf hR
          · have hab := allBelow_X (hi := n - 1) hr hl hR.1.1 a (by omega)
            rw [en, hx] at hab
            rw [if_pos (show nI len ≤ 6 from nI_le (b := 6) hx6 (by decide)), hX.1, hab, bd_s, it01, if_neg (by decide), found_X 3 (by decide), bd_s, bd_s, if_neg (by decide)]
            exact ag_findg 3 hf hR
      · have hab := allBelow_X (hi := n - 1) hr (by omega) hR.1.1 a (by omega)
        rw [en, hal] at hab
        have hG := og_of hn hd hV (w := 0) (by omega)
        obtain ⟨MX1, eX1, sX1, oX1⟩ := lookAt_X hX hn hV hd (w := 0) (by omega)
        obtain ⟨MY1, eY1, sY1, oY1⟩ := layTried_Y0 h0 hY hn hV hd (w := 0) (by omega)
        have hR2 := rel_same hR sX1 sY1
        have aX1 : MX1.1 2 r = nI len := by rw [sX1.1 2 (by omega)]; exact a
        have bY1 : MY1.1 3 r = nI len := by rw [sY1.1 3 (by omega) (by omega)]; exact b
        rw [sheet_X (Or.inl rfl) hr a (by omega), bd_s, bd_s, if_pos rfl, sizeOf_X hr a, bd_s, if_pos (show nI len ≤ 6 from nI_le (b := 6) hl6 (by decide)), hX.1, hab, bd_s, if_pos rfl, if_neg i10, bd_s, if_pos rfl, show p2_lookAt 17 0 MX = some MX1 from eX1, bv_s, sizeOf_X hr aX1, bd_s, show p6_noRow (nI r) 0 (nI (n - 1)) MY = _ from hY0, bd_s, if_pos rfl, show p6_layTried 0 0 MY = some MY1 from eY1, bv_s]
        -- the shops told
        have hxv : ∀ i, ∃ x, i < len → x < n ∧ MX1.1 3 (40 * r + i) = nI x ∧ MY1.1 4 (40 * r + i) = nI x := fun i => by
          by_cases hi : i < len
          · obtain ⟨x, q1, q2, q3⟩ := hxs i hi
            exact ⟨x, fun _ => ⟨by omega, by rw [sX1.1 3 (by omega)]; exact q2, by rw [sY1.1 4 (by omega) (by omega)]; exact q3⟩⟩
          · exact ⟨0, fun h => absurd h hi⟩
        have hx : ∀ i, i < len → Classical.choose (hxv i) < n ∧ MX1.1 3 (40 * r + i) = nI (Classical.choose (hxv i)) ∧ MY1.1 4 (40 * r + i) = nI (Classical.choose (hxv i)) := fun i => Classical.choose_spec (hxv i)
        obtain ⟨x, hxe⟩ : ∃ x : Nat → Nat, ∀ i, x i = Classical.choose (hxv i) := ⟨fun i => Classical.choose (hxv i), fun _ => rfl⟩
        have hx : ∀ i, i < len → x i < n ∧ MX1.1 3 (40 * r + i) = nI (x i) ∧ MY1.1 4 (40 * r + i) = nI (x i) := fun i hi => by rw [hxe i]; exact hx i hi
        have hsq : ∀ i, i ≤ len → sq_ x i < 64 := by
          intro i
          induction i with
          | zero => intro _; show 0 < 64; omega
          | succ i ih => intro hi; exact or_64 (ih (by omega)) (by have := (hx i (by omega)).1; omega)
        obtain ⟨K, hK1, hK2, hK3⟩ : ∃ K, K ≤ len ∧ (∀ i, i < K → goB n (pawnS n σ) (σ 3) (fun v => due σ v 0) (σ 1) (sq_ x i) (x i) = true) ∧ (K < len → ¬ goB n (pawnS n σ) (σ 3) (fun v => due σ v 0) (σ 1) (sq_ x K) (x K) = true) := by
          refine ⟨fa_first (fun i => !goB n (pawnS n σ) (σ 3) (fun v => due σ v 0) (σ 1) (sq_ x i) (x i)) len, fa_first_le _ len, fun i hi => ?_, fun h => ?_⟩
          · have := fa_first_no (fun i => !goB n (pawnS n σ) (σ 3) (fun v => due σ v 0) (σ 1) (sq_ x i) (x i)) len i hi
            simpa using this
          · have := fa_first_yes (fun i => !goB n (pawnS n σ) (σ 3) (fun v => due σ v 0) (σ 1) (sq_ x i) (x i)) len h
            simpa using this
        have hpc : ∀ i, i ≤ K → pc (sq_ x i) = i := by
          intro i
          induction i with
          | zero => intro _; show pc 0 = 0; exact pc_0
          | succ i ih =>
            intro hi
            have g := (goB_iff.mp (hK2 i (by omega))).2.1
            rw [sq_, pc_or _ (hsq i (by omega)) _ (by have := (hx i (by omega)).1; omega) g, ih (by omega)]
        have hsK := hsq K hK1
        obtain ⟨t, ht⟩ : ∃ t : Int32, t = if K = 0 then -9 else Int32.ofInt (cashZ n (σ 3) (fun v => due σ v 0) (σ 1) (sq_ x K) (x (K - 1))) := ⟨_, rfl⟩
        have endX : p5_run_96 (nI (sq_ x K)) (if K = 0 then -9 else nI (x (K - 1))) MX1 = some (nI K, wI MX1 0 8 t) := by
          rw [p5_run_96, ht]
          by_cases z : K = 0
          · rw [if_pos z, if_pos rfl, p5_run_119, lt_v, bits_X hsK, bd_s, hpc K (Nat.le_refl _), if_pos z]
          · have hxk := (hx (K - 1) (by omega)).1
            rw [if_neg z, if_neg (nI_nm9 (by omega)), cashAfter_X oX1 hG hsK hxk, bd_s, p5_run_119, lt_v, bits_X hsK, bd_s, hpc K (Nat.le_refl _), if_neg z]
        have eX : xlp5 p5_run_43 FU (nI r) 0 (-9) (nI len) 0 MX1 = some (nI K, wI MX1 0 8 t) := by
          refine lp5_go (fun _ => nI r) (fun i => nI (sq_ x i)) (fun i => if i = 0 then -9 else nI (x (i - 1))) (fun _ => nI len) (fun i => nI i) (fun _ => MX1) K (by omega) _ (fun i hi rc => ?_) (fun rc => ?_)
          · have hxi := hx i (by omega)
            have hval : p4_valueAt 1 (nI r) (nI i) MX1 = some (nI (x i), MX1) := by rw [valueAt_X (w := 40) hR2.1.1 (by omega)]; exact congrArg (fun z => some (z, MX1)) hxi.2.1
            rw [p5_run_43, if_neg (nI_ge (by omega) (by omega)), hval, bd_s, goesOn_X oX1 hG (hsq i (by omega)) hxi.1, bd_s, it01, if_pos (hK2 i hi), hval, bd_s, lt_v, lt_v, shl1 _ (by omega), or_nI, nI_1, if_neg (by omega : ¬ i + 1 = 0), show i + 1 - 1 = i by omega]
            rfl
          · by_cases c : K < len
            · have hxi := hx K c
              have hval : p4_valueAt 1 (nI r) (nI K) MX1 = some (nI (x K), MX1) := by rw [valueAt_X (w := 40) hR2.1.1 (by omega)]; exact congrArg (fun z => some (z, MX1)) hxi.2.1
              rw [p5_run_43, if_neg (nI_ge c (by omega)), hval, bd_s, goesOn_X oX1 hG hsK hxi.1, bd_s, it01, if_neg (hK3 c)]
              exact endX
            · rw [p5_run_43, if_pos (nI_le (by omega) (by omega))]
              exact endX
        have endY : p6_run_93 (nI r) (nI (sq_ x K)) (nI K) MY1 = some (nI K, wI MY1 0 7 t) := by
          rw [p6_run_93, ht]
          by_cases z : K = 0
          · rw [if_pos (by rw [z]; rfl), p6_run_123, lt_v, if_pos z]
          · have hxk := hx (K - 1) (by omega)
            rw [if_neg (nI_ne0 (by omega) (by omega)), show (40 * nI r + nI K : Int32) = nI (40 * r + K) from clampIx2, show nI (40 * r + K) - 1 = nI (40 * r + K - 1) from pk_sub (b := 1) (by omega), gd_of (bIn_nI (by omega) (by decide)), nI_clamp (by omega), show 40 * r + K - 1 = 40 * r + (K - 1) by omega, hxk.2.2, cashBy_Y oY1 hG hsK hxk.1, bd_s, p6_run_123, lt_v, if_neg z]
        have eY : xlp3 p6_run_39 FU (nI r) 0 0 MY1 = some (nI K, wI MY1 0 7 t) := by
          refine lp3_go (fun _ => nI r) (fun i => nI (sq_ x i)) (fun i => nI i) (fun _ => MY1) K (by omega) _ (fun i hi rc => ?_) (fun rc => ?_)
          · have hxi := hx i (by omega)
            rw [p6_run_39, gd_of (bIn_nI hr (by decide)), nI_clamp (by omega), bY1, if_neg (nI_ge (by omega) (by omega)), show (40 * nI r + nI i : Int32) = nI (40 * r + i) from clampIx2, gd_of (bIn_nI (by omega) (by decide)), nI_clamp (by omega), hxi.2.2, next_Y oY1 hG (hsq i (by omega)) hxi.1, bd_s, it01, if_pos (hK2 i hi), hxi.2.2, lt_v, lt_v, shl1 _ (by omega), or_nI, nI_1]
            rfl
          · by_cases c : K < len
            · have hxi := hx K c
              rw [p6_run_39, gd_of (bIn_nI hr (by decide)), nI_clamp (by omega), bY1, if_neg (nI_ge c (by omega)), show (40 * nI r + nI K : Int32) = nI (40 * r + K) from clampIx2, gd_of (bIn_nI (by omega) (by decide)), nI_clamp (by omega), hxi.2.2, next_Y oY1 hG hsK hxi.1, bd_s, it01, if_neg (hK3 c)]
              exact endY
            · rw [p6_run_39, gd_of (bIn_nI hr (by decide)), nI_clamp (by omega), bY1, if_pos (nI_le (by omega) (by omega))]
              exact endY
        rw [eX, eY]
        exact ⟨_, _, _, rfl, rfl, rel_tell _ hR2⟩
