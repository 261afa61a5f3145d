/-! worth by halves -/
def chV (n : Nat) (σ : LV) : Nat → Nat → Nat
  | 0, v => σ 2 v
  | k + 1, v => σ 2 v + tot n (fun i => if σ 3 i = v + 1 then chV n σ k i / 2 else 0)
theorem chV_le {n d : Nat} (hn : n ≤ 6) {σ : LV} (hV : Valid n d σ) : ∀ k v, v < n → chV n σ k v ≤ 9 * 4 ^ k
  | 0, v, hv0 => by have := (hV.2 v hv0).2.1; show σ 2 v ≤ 9 * 1; omega
  | k + 1, v, hv0 => by
    have h1 := (hV.2 v hv0).2.1
    have h2 : tot n (fun i => if σ 3 i = v + 1 then chV n σ k i / 2 else 0) ≤ n * (9 * 4 ^ k / 2) := tot_le (fun i hi => by
      have := chV_le hn hV k i hi
      show (if σ 3 i = v + 1 then chV n σ k i / 2 else 0) ≤ 9 * 4 ^ k / 2
      split <;> omega)
    have h3 : n * (9 * 4 ^ k / 2) ≤ 6 * (9 * 4 ^ k / 2) := Nat.mul_le_mul_right _ hn
    have h4 : 0 < 4 ^ k := Nat.pow_pos (by decide)
    show σ 2 v + tot n (fun i => if σ 3 i = v + 1 then chV n σ k i / 2 else 0) ≤ 9 * 4 ^ (k + 1)
    rw [Nat.pow_succ]
    omega
theorem chV_31 {n d : Nat} (hn : n ≤ 6) {σ : LV} (hV : Valid n d σ) {k v : Nat} (hk : k ≤ 6) (hv0 : v < n) : chV n σ k v < 2 ^ 31 := by
  have h1 := chV_le hn hV k v hv0
  have h2 : 4 ^ k ≤ 4 ^ 6 := Nat.pow_le_pow_right (by decide) hk
  have h3 : 4 ^ 6 = 4096 := by decide
  omega
theorem chalked_X {n d : Nat} {M : SX} {σ : LV} (hX : XRep 17 M n σ) (hn : n ≤ 6) (hV : Valid n d σ) : ∀ k, k ≤ 6 → ∀ m, k < m → ∀ v, v < n → xlp3 p5_chalked_F m 17 (nI v) (nI k) M = some (nI (chV n σ k v), M)
  | k, hk, 0, hm, v, hv0 => absurd hm (Nat.not_lt_zero k)
  | 0, hk, m + 1, hm, v, hv0 => by
    show p5_chalked_F (xlp3 p5_chalked_F m) 17 (nI v) (nI 0) M = _
    rw [p5_chalked_F, gd_of (bIn_nI (by omega) (by decide)), lt_v, if_neg (by decide), nI_clamp (by omega), (hX.2 v hv0).2.2.1]
    rfl
  | k + 1, hk, m + 1, hm, v, hv0 => by
    have ih := chalked_X hX hn hV k (by omega) m (by omega)
    show p5_chalked_F (xlp3 p5_chalked_F m) 17 (nI v) (nI (k + 1)) M = _
    rw [p5_chalked_F, gd_of (bIn_nI (by omega) (by decide)), lt_v, if_pos (show (0 : Int32) < nI (k + 1) from nI_lt (a := 0) (by omega) (by omega)), nI_clamp (by omega), (hX.2 v hv0).2.2.1]
    refine lp4_go (fun _ => nI v) (fun _ => nI (k + 1)) (fun i => nI (σ 2 v + tot i (fun i => if σ 3 i = v + 1 then chV n σ k i / 2 else 0))) (fun i => nI i) (fun _ => M) n (by omega) _ (fun i hi rc => ?_) (fun rc => ?_)
    · have hh : σ 3 i ≤ 6 := Nat.le_trans (hV.2 i hi).2.2.1 hn
      have e : tot (i + 1) (fun i => if σ 3 i = v + 1 then chV n σ k i / 2 else 0) = tot i (fun i => if σ 3 i = v + 1 then chV n σ k i / 2 else 0) + (if σ 3 i = v + 1 then chV n σ k i / 2 else 0) := rfl
      rw [p5_chalked_16, hX.1, if_neg (nI_ge hi (by omega)), gd_of (bIn_nI (by omega) (by decide)), nI_clamp (by omega), (hX.2 i hi).2.2.2.1, e]
      by_cases c : σ 3 i = v + 1
      · rw [if_pos ((hv_eq hh (by omega)).mpr c), nI_pred, ih i hi, bd_s, lt_v, p5_chalked_50, lt_v, div2 (chV_31 hn hV (by omega) hi), nI_add, nI_1, if_pos c, Nat.add_assoc]
      · rw [if_neg (fun z => c ((hv_eq hh (by omega)).mp z)), p5_chalked_50, lt_v, nI_1, if_neg c, Nat.add_zero (tot i _)]
    · rw [p5_chalked_16, hX.1, if_pos (Int32.le_refl _)]
      rfl
/-- the reference's tables -/
def ChI (M0 : SX) (n : Nat) (σ : LV) (f g : Nat → Nat) (M : SX) : Prop := SameY M0 M ∧ (∀ v, v < n → M.1 9 v = nI (f v)) ∧ (∀ v, v < n → M.1 10 v = nI (g v))
theorem chalk_Y {n d : Nat} {M0 : SX} {σ : LV} (h0 : M0.1 0 1 = nI n) (hY : YRep 0 M0 n σ) (hn : n ≤ 6) (hV : Valid n d σ) {s k : Nat} (hs : s < n) (hk : k ≤ 6) : ∃ M', xlp3 p6_chalk_24 FU (nI s) (nI k) 0 M0 = some (nI (chV n σ k s), M') ∧ SameY M0 M' := by
  refine lp3_inv (fun _ => nI s) (fun _ => nI k) (fun i => nI i) (fun i M => SameY M0 M ∧ ∀ v, v < i → M.1 9 v = nI (σ 2 v)) n (by omega) (fun x => ∃ M', x = some (nI (chV n σ k s), M') ∧ SameY M0 M') ?_ ?_ M0 ⟨SameY.refl _, fun v hv0 => absurd hv0 (Nat.not_lt_zero v)⟩
  · rintro i hi M ⟨hS, h9⟩ rc
    have hYi := hY.same hS
    have e0 : M.1 0 1 = nI n := by rw [hS.2.1 1 (by omega)]; exact h0
    have ix := ix25 (s := i) (by omega)
    have hy := (hYi i hi).2.2.1
    rw [Nat.zero_add] at hy
    refine ⟨wI M 9 i (nI (σ 2 i)), ?_, hS.trans (same_wIY (by omega)), fun v hv0 => ?_⟩
    · rw [p6_chalk_24, e0, if_neg (nI_ge hi (by omega)), gd_of ix.1, gd_of (bIn_nI (by omega) (by decide)), ix.2, nI_clamp (by omega), hy, lt_v, lt_v, nI_1]
    · rw [wI_k]
      by_cases e : v = i
      · rw [if_pos e, e]
      · rw [if_neg e]; exact h9 v (by omega)
  · rintro M ⟨hS, h9⟩ rc
    have e0 : M.1 0 1 = nI n := by rw [hS.2.1 1 (by omega)]; exact h0
    rw [p6_chalk_24, e0, if_pos (Int32.le_refl _)]
    -- the rounds
    refine lp3_inv (fun _ => nI s) (fun _ => nI k) (fun r => nI r) (fun r M => SameY M0 M ∧ ∀ v, v < n → M.1 9 v = nI (chV n σ r v)) k (by omega) (fun x => ∃ M', x = some (nI (chV n σ k s), M') ∧ SameY M0 M') ?_ ?_ M ⟨hS, h9⟩
    · rintro r hr M ⟨hS, h9⟩ rc
      have e0 : M.1 0 1 = nI n := by rw [hS.2.1 1 (by omega)]; exact h0
      rw [p6_chalk_55, if_neg (nI_ge hr (by omega))]
      refine lp4_inv (fun _ => nI s) (fun _ => nI k) (fun _ => nI r) (fun i => nI i) (fun i M => SameY M0 M ∧ (∀ v, v < n → M.1 9 v = nI (chV n σ r v)) ∧ ∀ v, v < i → M.1 10 v = nI (σ 2 v)) n (by omega) (fun x => ∃ M', x = rc (nI s) (nI k) (nI (r + 1)) M' ∧ SameY M0 M' ∧ ∀ v, v < n → M'.1 9 v = nI (chV n σ (r + 1) v)) ?_ ?_ M ⟨hS, h9, fun v hv0 => absurd hv0 (Nat.not_lt_zero v)⟩
      · rintro i hi M ⟨hS, h9, h10⟩ rc2
        have hYi := hY.same hS
        have e0 : M.1 0 1 = nI n := by rw [hS.2.1 1 (by omega)]; exact h0
        have ix := ix25 (s := i) (by omega)
        have hy := (hYi i hi).2.2.1
        rw [Nat.zero_add] at hy
        refine ⟨wI M 10 i (nI (σ 2 i)), ?_, hS.trans (same_wIY (by omega)), fun v hv0 => ?_, fun v hv0 => ?_⟩
        · rw [p6_chalk_63, e0, if_neg (nI_ge hi (by omega)), gd_of ix.1, gd_of (bIn_nI (by omega) (by decide)), ix.2, nI_clamp (by omega), hy, lt_v, lt_v, nI_1]
        · rw [wI_nk (by decide)]; exact h9 v hv0
        · rw [wI_k]
          by_cases e : v = i
          · rw [if_pos e, e]
          · rw [if_neg e]; exact h10 v (by omega)
      · rintro M ⟨hS, h9, h10⟩ rc2
        have e0 : M.1 0 1 = nI n := by rw [hS.2.1 1 (by omega)]; exact h0
        rw [p6_chalk_63, e0, if_pos (Int32.le_refl _)]
        refine lp4_inv (fun _ => nI s) (fun _ => nI k) (fun _ => nI r) (fun i => nI i) (fun i M => SameY M0 M ∧ (∀ v, v < n → M.1 9 v = nI (chV n σ r v)) ∧ ∀ v, v < n → M.1 10 v = nI (σ 2 v + tot i (fun i => if σ 3 i = v + 1 then chV n σ r i / 2 else 0))) n (by omega) (fun x => ∃ M', x = rc (nI s) (nI k) (nI (r + 1)) M' ∧ SameY M0 M' ∧ ∀ v, v < n → M'.1 9 v = nI (chV n σ (r + 1) v)) ?_ ?_ M ⟨hS, h9, fun v hv0 => h10 v hv0⟩
        · rintro i hi M ⟨hS, h9, h10⟩ rc3
          have hYi := hY.same hS
          have e0 : M.1 0 1 = nI n := by rw [hS.2.1 1 (by omega)]; exact h0
          have ix := ix7 (s := i) (by omega)
          have hy := (hYi i hi).2.2.2.1
          rw [Nat.zero_add] at hy
          by_cases z : σ 3 i = 0
          · refine ⟨M, ?_, hS, h9, fun v hv0 => ?_⟩
            · rw [p6_chalk_98, e0, if_neg (nI_ge hi (by omega)), isPawned_Y hYi hn hV hi, bd_s, it01, if_neg (by omega), p6_chalk_143, lt_v, nI_1]
            · rw [h10 v hv0]
              show _ = nI (σ 2 v + (tot i (fun i => if σ 3 i = v + 1 then chV n σ r i / 2 else 0) + (if σ 3 i = v + 1 then chV n σ r i / 2 else 0)))
              rw [if_neg (by omega), Nat.add_zero (tot i _)]
          · have hh : σ 3 i - 1 < n := by have := (hV.2 i hi).2.2.1; omega
            refine ⟨wI M 10 (σ 3 i - 1) (nI (σ 2 (σ 3 i - 1) + tot (i + 1) (fun j => if σ 3 j = σ 3 i - 1 + 1 then chV n σ r j / 2 else 0))), ?_, hS.trans (same_wIY (by omega)), fun v hv0 => ?_, fun v hv0 => ?_⟩
            · rw [p6_chalk_98, e0, if_neg (nI_ge hi (by omega)), isPawned_Y hYi hn hV hi, bd_s, it01, if_pos (by omega), gd_of ix.1, ix.2, hy, hv_nI z, gd_of (bIn_nI (by omega) (by decide)), gd_of (bIn_nI (by omega) (by decide)), nI_clamp (by omega), nI_clamp (by omega), h10 _ hh, h9 i hi, div2 (chV_31 hn hV (by omega) hi), nI_add, lt_v, p6_chalk_143, lt_v, nI_1]
              have e : tot (i + 1) (fun j => if σ 3 j = σ 3 i - 1 + 1 then chV n σ r j / 2 else 0) = tot i (fun j => if σ 3 j = σ 3 i - 1 + 1 then chV n σ r j / 2 else 0) + (if σ 3 i = σ 3 i - 1 + 1 then chV n σ r i / 2 else 0) := rfl
              rw [e, if_pos (by omega : σ 3 i = σ 3 i - 1 + 1), Nat.add_assoc]
            · rw [wI_nk (by decide)]; exact h9 v hv0
            · rw [wI_k]
              by_cases e : v = σ 3 i - 1
              · rw [if_pos e, e]
              · rw [if_neg e, h10 v hv0]
                show _ = nI (σ 2 v + (tot i (fun i => if σ 3 i = v + 1 then chV n σ r i / 2 else 0) + (if σ 3 i = v + 1 then chV n σ r i / 2 else 0)))
                rw [if_neg (by omega), Nat.add_zero (tot i _)]
        · rintro M ⟨hS, h9, h10⟩ rc3
          have e0 : M.1 0 1 = nI n := by rw [hS.2.1 1 (by omega)]; exact h0
          rw [p6_chalk_98, e0, if_pos (Int32.le_refl _)]
          refine lp4_inv (fun _ => nI s) (fun _ => nI k) (fun _ => nI r) (fun i => nI i) (fun i M => SameY M0 M ∧ (∀ v, v < i → M.1 9 v = nI (chV n σ (r + 1) v)) ∧ ∀ v, v < n → M.1 10 v = nI (chV n σ (r + 1) v)) n (by omega) (fun x => ∃ M', x = rc (nI s) (nI k) (nI (r + 1)) M' ∧ SameY M0 M' ∧ ∀ v, v < n → M'.1 9 v = nI (chV n σ (r + 1) v)) ?_ ?_ M ⟨hS, fun v hv0 => absurd hv0 (Nat.not_lt_zero v), h10⟩
          · rintro i hi M ⟨hS, h9, h10⟩ rc4
            have e0 : M.1 0 1 = nI n := by rw [hS.2.1 1 (by omega)]; exact h0
            refine ⟨wI M 9 i (nI (chV n σ (r + 1) i)), ?_, hS.trans (same_wIY (by omega)), fun v hv0 => ?_, fun v hv0 => ?_⟩
            · rw [p6_chalk_152, e0, if_neg (nI_ge hi (by omega)), gd_of (bIn_nI (by omega) (by decide)), nI_clamp (by omega), h10 i hi, lt_v, lt_v, nI_1]
            · rw [wI_k]
              by_cases e : v = i
              · rw [if_pos e, e]
              · rw [if_neg e]; exact h9 v (by omega)
            · rw [wI_nk (by decide)]; exact h10 v hv0
          · rintro M ⟨hS, h9, h10⟩ rc4
            have e0 : M.1 0 1 = nI n := by rw [hS.2.1 1 (by omega)]; exact h0
            rw [p6_chalk_152, e0, if_pos (Int32.le_refl _), lt_v, nI_1]
            exact ⟨M, rfl, hS, h9⟩
    · rintro M ⟨hS, h9⟩ rc
      rw [p6_chalk_55, if_pos (Int32.le_refl _), gd_of (bIn_nI (by omega) (by decide)), nI_clamp (by omega), h9 s hs]
      exact ⟨M, rfl, hS⟩
theorem ag_chalk (a1 a2 : Int32) (MX MY : SX) (hR : Rel MX MY) : Ag (p5_chalk a1 a2 MX) (p6_chalk a1 a2 MY) := by
  obtain ⟨n, d, σ, hH⟩ := rel_here hR
  rw [p5_chalk, p6_chalk]
  refine ag_shopg hR hH a1 (fun s hs e => ?_) (by rw [if_pos rfl]) (by rw [if_pos rfl])
  subst e
  obtain ⟨hn, hd, h0, hX, hY, hV, h7, h1⟩ := hH
  rw [if_neg i10, if_neg i10, show p6_in a2.toInt64 0 6 MY = _ from in_YI a2 0 6 MY, bd_s, it01]
  rcases arg3 a2 0 6 (by decide) (by decide) with ⟨h1, h2⟩ | ⟨h1, h2, h3⟩ | ⟨f, _, hf, rfl⟩
  · rw [if_pos (show a2 < 0 from h1), if_neg (show ¬ (0 ≤ a2 ∧ a2 ≤ 6) from h2)]
    exact ag_no hR _
  · rw [if_neg (show ¬ a2 < 0 from h1), if_neg (show ¬ (0 ≤ a2 ∧ a2 ≤ 6) from h3), if_neg (show ¬ a2 ≤ 6 from Int32.not_le.mpr h2)]
    exact ag_no hR _
  · obtain ⟨M', e, hS⟩ := chalk_Y h0 hY hn hV hs hf
    rw [if_neg (show ¬ nI f < 0 from nI_pos (by omega)), if_pos (show nI f ≤ 6 from nI_le (b := 6) (by omega) (by decide)), if_pos (show 0 ≤ nI f ∧ nI f ≤ 6 from ⟨nI_pos' (by omega), nI_le (b := 6) (by omega) (by decide)⟩), e, p5_chalked, chalked_X hX hn hV f hf 8 (by omega) s hs, bd_s]
    exact ⟨_, _, _, rfl, rfl, rel_same hR (SameX.refl _) hS⟩
