/-! the digest -/
def dgF (f : Nat → Int32) (a : Int64) : Nat → Int64
  | 0 => a
  | i + 1 => (31 * dgF f a i) + (f i).toInt64
theorem dgF_eq {f g : Nat → Int32} {a : Int64} : ∀ {n : Nat}, (∀ i, i < n → f i = g i) → dgF f a n = dgF g a n
  | 0, _ => rfl
  | n + 1, h => by rw [dgF, dgF, dgF_eq (fun i hi => h i (by omega)), h n (by omega)]
def dgR (sz : Nat → Int32) (ln : Nat → Nat) (v : Nat → Nat → Int32) (a : Int64) : Nat → Int64
  | 0 => a
  | r + 1 => dgF (v r) ((31 * dgR sz ln v a r) + (sz r).toInt64) (ln r)
theorem dgR_eq {sz sz' : Nat → Int32} {ln : Nat → Nat} {v v' : Nat → Nat → Int32} {a : Int64} : ∀ {n : Nat}, (∀ r, r < n → sz r = sz' r ∧ ∀ i, i < ln r → v r i = v' r i) → dgR sz ln v a n = dgR sz' ln v' a n
  | 0, _ => rfl
  | n + 1, h => by rw [dgR, dgR, dgR_eq (fun r hr => h r (by omega)), (h n (by omega)).1, dgF_eq (h n (by omega)).2]
/-- how many places a sheet has, nought where it isn't there -/
def lenOf (M : SX) (c r : Nat) : Nat := (M.1 c r).toNatClampNeg
theorem len_m1 {M : SX} {c r : Nat} (h : M.1 c r = -1) : lenOf M c r = 0 := by unfold lenOf; rw [h]; rfl
theorem len_nI {M : SX} {c r n : Nat} (h : M.1 c r = nI n) (hn : n < 2 ^ 31) : lenOf M c r = n := by unfold lenOf; rw [h, nI_clamp hn]
theorem digestOnto_X {b w : Nat} (hb : isS b) {M : SX} (hw : M.1 b 0 = nI w) (hwz : w * szS b ≤ 240) (h : ∀ r, r < szS b → M.1 (b + 1) r = -1 ∨ ∃ n, n ≤ w ∧ M.1 (b + 1) r = nI n) (a : Int64) : p4_digestOnto b a M = some (dgR (fun r => M.1 (b + 1) r) (lenOf M (b + 1)) (fun r i => M.1 (b + 2) (w * r + i)) a (szS b), M) := by
  have hz := szS_lt hb
  have hz2 : szS b ≤ 6 := by rcases hb with rfl | rfl <;> decide
  have hz3 : 0 < szS b := by rcases hb with rfl | rfl <;> decide
  have hw3 : w ≤ 240 := Nat.le_trans (Nat.le_mul_of_pos_right w hz3) hwz
  rw [p4_digestOnto]
  refine lp2_go (fun r => dgR (fun r => M.1 (b + 1) r) (lenOf M (b + 1)) (fun r i => M.1 (b + 2) (w * r + i)) a r) (fun r => nI r) (fun _ => M) (szS b) (by omega) _ (fun r hr rc => ?_) (fun rc => ?_)
  · rw [p4_digestOnto_5, if_neg (show ¬ Int32.ofNat (szS b) ≤ nI r from nI_ge hr hz), gd_of (bIn_nI hr hz), nI_clamp (by omega), lt_v, dgR]
    generalize (31 * dgR (fun r => M.1 (b + 1) r) (lenOf M (b + 1)) (fun r i => M.1 (b + 2) (w * r + i)) a r) + (M.1 (b + 1) r).toInt64 = a2
    have hlen : lenOf M (b + 1) r ≤ w := by
      rcases h r hr with e | ⟨n, hn, e⟩
      · rw [len_m1 e]; omega
      · rw [len_nI e (by omega)]; exact hn
    refine lp3_go (fun i => dgF (fun i => M.1 (b + 2) (w * r + i)) a2 i) (fun _ => nI r) (fun i => nI i) (fun _ => M) (lenOf M (b + 1) r) (by omega) _ (fun i hi rc2 => ?_) (fun rc2 => ?_)
    · have hsm : w * r + i < 240 := by
        have h1 : w * (r + 1) ≤ w * szS b := Nat.mul_le_mul_left w hr
        rw [Nat.mul_succ] at h1
        omega
      rcases h r hr with e | ⟨n, hn, e⟩
      · rw [len_m1 e] at hi
        exact absurd hi (Nat.not_lt_zero i)
      · rw [len_nI e (by omega)] at hi
        rw [p4_digestOnto_33, gd_of (bIn_nI hr hz), nI_clamp (by omega), e, if_neg (nI_ge hi (by omega)), valueAt_X hw hsm, bd_s, lt_v, lt_v, nI_1]
        rfl
    · have hle : M.1 (b + 1) r ≤ nI (lenOf M (b + 1) r) := by
        rcases h r hr with e | ⟨n, hn, e⟩
        · rw [len_m1 e, e]; decide
        · rw [len_nI e (by omega), e]; exact Int32.le_refl _
      rw [p4_digestOnto_33, gd_of (bIn_nI hr hz), nI_clamp (by omega), if_pos hle, lt_v, nI_1]
  · rw [p4_digestOnto_5, if_pos (show Int32.ofNat (szS b) ≤ nI (szS b) from Int32.le_refl _)]
def tVal (n : Nat) (σ : LV) (j : Nat) : Int32 := toldV n σ (j / 7) (j % 7)
theorem digestX {MX MY : SX} (hR : Rel MX MY) {n d : Nat} {σ : LV} (hH : Here MX MY n d σ) (cv kv : Nat → Int32) (hc : ∀ f, f < 9 → p5_counted (nI f) MX = some (cv f, MX)) (hk : ∀ k, k < 3 → (if MX.1 (27 + 9 * k) 0 = 0 then -1 else MX.1 (27 + 9 * k + 7) 1) = kv k) : p5_digest MX = some (dgR (fun r => MX.1 5 r) (lenOf MX 5) (fun r i => MX.1 6 (60 * r + i)) (dgR (fun r => MX.1 2 r) (lenOf MX 2) (fun r i => MX.1 3 (40 * r + i)) (dgF kv (dgF (tVal n σ) (dgF cv 17 9) (7 * n)) 3) 6) 4, MX) := by
  have hH' := hH
  obtain ⟨hn, hd, h0, hX, hY, hV, h7, h1⟩ := hH
  rw [p5_digest]
  refine lp2_go (fun i => dgF cv 17 i) (fun i => nI i) (fun _ => MX) 9 (by omega) _ (fun i hi rc => ?_) (fun rc => ?_)
  · rw [p5_digest_6, if_neg (show ¬ (9 : Int32) ≤ nI i from nI_ge (b := 9) hi (by omega)), hc i hi, bd_s, lt_v, lt_v, nI_1]
    rfl
  · rw [p5_digest_6, if_pos (by decide)]
    generalize dgF cv 17 9 = a1
    refine lp2_go (fun s => dgF (tVal n σ) a1 (7 * s)) (fun s => nI s) (fun _ => MX) n (by omega) _ (fun s hs rc => ?_) (fun rc => ?_)
    · rw [p5_digest_33, hX.1, if_neg (nI_ge hs (by omega))]
      refine lp3_go (fun f => dgF (tVal n σ) a1 (7 * s + f)) (fun _ => nI s) (fun f => nI f) (fun _ => MX) 7 (by omega) _ (fun f hf rc2 => ?_) (fun rc2 => ?_)
      · have e : tVal n σ (7 * s + f) = toldV n σ s f := by
          unfold tVal
          rw [show (7 * s + f) / 7 = s by omega, show (7 * s + f) % 7 = f by omega]
        rw [p5_digest_47, if_neg (show ¬ (7 : Int32) ≤ nI f from nI_ge (b := 7) hf (by omega)), told_X hH' hs hf, bd_s, lt_v, lt_v, nI_1, show 7 * s + (f + 1) = (7 * s + f) + 1 by omega, dgF, e]
      · rw [p5_digest_47, if_pos (by decide), lt_v, nI_1]
        rfl
    · rw [p5_digest_33, hX.1, if_pos (Int32.le_refl _)]
      generalize dgF (tVal n σ) a1 (7 * n) = a2
      refine lp2_go (fun k => dgF kv a2 k) (fun k => nI k) (fun _ => MX) 3 (by omega) _ (fun k hk3 rc => ?_) (fun rc => ?_)
      · have hkk := hk k hk3
        rw [p5_digest_83, if_neg (show ¬ (3 : Int32) ≤ nI k from nI_ge (b := 3) hk3 (by omega)), gd_of (bIn_nI hk3 (by decide)), nI_clamp (by omega), dgF, ← hkk]
        by_cases c : MX.1 (27 + 9 * k) 0 = 0
        · rw [if_pos c, if_pos c, p5_digest_121, lt_v, lt_v, nI_1]
        · rw [if_neg c, if_neg c, p5_digest_121, lt_v, lt_v, nI_1]
      · rw [p5_digest_83, if_pos (by decide), digestOnto_X (b := 1) (w := 40) (Or.inl rfl) hR.1.1 (by decide) (fun r hr => (hR.1.2 r hr).2.imp id (fun ⟨m, h1, h2, _⟩ => ⟨m, h1, h2⟩)), bd_s, digestOnto_X (b := 4) (w := 60) (Or.inr rfl) hR.2.1.1 (by decide) (fun r hr => (hR.2.1.2 r hr).2.imp id (fun ⟨m, h1, h2, _⟩ => ⟨m, h1, h2⟩)), bd_s]
        rfl
theorem digestY {MX MY : SX} (hR : Rel MX MY) {n d : Nat} {σ : LV} (hH : Here MX MY n d σ) (cv kv : Nat → Int32) (hc : ∀ f, f < 9 → p6_countOf (nI f) MY = some (cv f, MY)) (hk : ∀ k, k < 3 → MY.1 1 (991 * (1 + k)) = kv k) : p6_digest MY = some (dgR (fun r => MY.1 5 r) (lenOf MY 5) (fun r i => MY.1 6 (60 * r + i)) (dgR (fun r => MY.1 3 r) (lenOf MY 3) (fun r i => MY.1 4 (40 * r + i)) (dgF kv (dgF (tVal n σ) (dgF cv 17 9) (7 * n)) 3) 6) 4, MY) := by
  have hH' := hH
  obtain ⟨hn, hd, h0, hX, hY, hV, h7, h1⟩ := hH
  rw [p6_digest]
  refine lp2_go (fun i => dgF cv 17 i) (fun i => nI i) (fun _ => MY) 9 (by omega) _ (fun i hi rc => ?_) (fun rc => ?_)
  · rw [p6_digest_6, if_neg (show ¬ (9 : Int32) ≤ nI i from nI_ge (b := 9) hi (by omega)), hc i hi, bd_s, lt_v, lt_v, nI_1]
    rfl
  · rw [p6_digest_6, if_pos (by decide)]
    generalize dgF cv 17 9 = a1
    refine lp2_go (fun j => dgF (tVal n σ) a1 j) (fun j => nI j) (fun _ => MY) (7 * n) (by omega) _ (fun j hj rc => ?_) (fun rc => ?_)
    · have ed : nI j / 7 = nI (j / 7) := pk_div (d := 7) (by omega) (by decide) (by decide)
      have er : nI j - nI j / 7 * 7 = nI (j % 7) := pk_rem (d := 7) (by omega) (by decide) (by decide)
      rw [p6_digest_33, h0, show (7 : Int32) * nI n = nI (7 * n) from pk_mul 7 n, if_neg (nI_ge hj (by omega)), er, ed, told_Y hH' (by omega) (Nat.mod_lt j (by decide)), bd_s, lt_v, lt_v, nI_1]
      rfl
    · rw [p6_digest_33, h0, show (7 : Int32) * nI n = nI (7 * n) from pk_mul 7 n, if_pos (Int32.le_refl _)]
      generalize dgF (tVal n σ) a1 (7 * n) = a2
      refine lp2_go (fun k => dgF kv a2 k) (fun k => nI (1 + k)) (fun _ => MY) 3 (by omega) _ (fun k hk3 rc => ?_) (fun rc => ?_)
      · have e : (991 * nI (1 + k) + 0 : Int32) = nI (991 * (1 + k)) := by rw [show (991 : Int32) * nI (1 + k) = nI (991 * (1 + k)) from pk_mul 991 (1 + k), add0]
        rw [p6_digest_72, if_neg (show ¬ (4 : Int32) ≤ nI (1 + k) from nI_ge (b := 4) (by omega) (by omega)), e, gd_of (bIn_nI (by omega) (by decide)), nI_clamp (by omega), hk k hk3, lt_v, lt_v, nI_1]
        rfl
      · rw [p6_digest_72, if_pos (by decide)]
        generalize dgF kv a2 3 = a3
        refine lp2_go (fun r => dgR (fun r => MY.1 3 r) (lenOf MY 3) (fun r i => MY.1 4 (40 * r + i)) a3 r) (fun r => nI r) (fun _ => MY) 6 (by omega) _ (fun r hr rc => ?_) (fun rc => ?_)
        · have hrow := rowThere hR hr
          rw [p6_digest_105, if_neg (show ¬ (6 : Int32) ≤ nI r from nI_ge (b := 6) hr (by omega)), gd_of (bIn_nI hr (by decide)), nI_clamp (by omega), lt_v, dgR]
          generalize (31 * dgR (fun r => MY.1 3 r) (lenOf MY 3) (fun r i => MY.1 4 (40 * r + i)) a3 r) + (MY.1 3 r).toInt64 = a4
          have hlen : lenOf MY 3 r ≤ 40 := by
            rcases hrow with ⟨_, e⟩ | ⟨m, hm, _, e, _⟩
            · rw [len_m1 e]; omega
            · rw [len_nI e (by omega)]; exact hm
          refine lp3_go (fun i => dgF (fun i => MY.1 4 (40 * r + i)) a4 i) (fun _ => nI r) (fun i => nI i) (fun _ => MY) (lenOf MY 3 r) (by omega) _ (fun i hi rc2 => ?_) (fun rc2 => ?_)
          · rcases hrow with ⟨_, e⟩ | ⟨m, hm, _, e, _⟩
            · rw [len_m1 e] at hi
              exact absurd hi (Nat.not_lt_zero i)
            · rw [len_nI e (by omega)] at hi
              rw [p6_digest_128, gd_of (bIn_nI hr (by decide)), nI_clamp (by omega), e, if_neg (nI_ge hi (by omega)), show (40 * nI r + nI i : Int32) = nI (40 * r + i) from clampIx2, gd_of (bIn_nI (by omega) (by decide)), nI_clamp (by omega), lt_v, lt_v, nI_1]
              rfl
          · have hle : MY.1 3 r ≤ nI (lenOf MY 3 r) := by
              rcases hrow with ⟨_, e⟩ | ⟨m, hm, _, e, _⟩
              · rw [len_m1 e, e]; decide
              · rw [len_nI e (by omega), e]; exact Int32.le_refl _
            rw [p6_digest_128, gd_of (bIn_nI hr (by decide)), nI_clamp (by omega), if_pos hle, lt_v, nI_1]
        · rw [p6_digest_105, if_pos (by decide)]
          generalize dgR (fun r => MY.1 3 r) (lenOf MY 3) (fun r i => MY.1 4 (40 * r + i)) a3 6 = a5
          refine lp2_go (fun r => dgR (fun r => MY.1 5 r) (lenOf MY 5) (fun r i => MY.1 6 (60 * r + i)) a5 r) (fun r => nI r) (fun _ => MY) 4 (by omega) _ (fun r hr rc => ?_) (fun rc => ?_)
          · have hrow := txtThere hR hr
            rw [p6_digest_173, if_neg (show ¬ (4 : Int32) ≤ nI r from nI_ge (b := 4) hr (by omega)), gd_of (bIn_nI hr (by decide)), nI_clamp (by omega), lt_v, dgR]
            generalize (31 * dgR (fun r => MY.1 5 r) (lenOf MY 5) (fun r i => MY.1 6 (60 * r + i)) a5 r) + (MY.1 5 r).toInt64 = a4
            have hlen : lenOf MY 5 r ≤ 60 := by
              rcases hrow with ⟨_, e⟩ | ⟨m, hm, _, e, _⟩
              · rw [len_m1 e]; omega
              · rw [len_nI e (by omega)]; exact hm
            refine lp3_go (fun i => dgF (fun i => MY.1 6 (60 * r + i)) a4 i) (fun _ => nI r) (fun i => nI i) (fun _ => MY) (lenOf MY 5 r) (by omega) _ (fun i hi rc2 => ?_) (fun rc2 => ?_)
            · rcases hrow with ⟨_, e⟩ | ⟨m, hm, _, e, _⟩
              · rw [len_m1 e] at hi
                exact absurd hi (Nat.not_lt_zero i)
              · rw [len_nI e (by omega)] at hi
                rw [p6_digest_195, gd_of (bIn_nI hr (by decide)), nI_clamp (by omega), e, if_neg (nI_ge hi (by omega)), show (60 * nI r + nI i : Int32) = nI (60 * r + i) from clampIx2, gd_of (bIn_nI (by omega) (by decide)), nI_clamp (by omega), lt_v, lt_v, nI_1]
                rfl
            · have hle : MY.1 5 r ≤ nI (lenOf MY 5 r) := by
                rcases hrow with ⟨_, e⟩ | ⟨m, hm, _, e, _⟩
                · rw [len_m1 e, e]; decide
                · rw [len_nI e (by omega), e]; exact Int32.le_refl _
              rw [p6_digest_195, gd_of (bIn_nI hr (by decide)), nI_clamp (by omega), if_pos hle, lt_v, nI_1]
          · rw [p6_digest_173, if_pos (by decide)]
theorem ag_digest (MX MY : SX) (hR : Rel MX MY) : AgL (p5_digest MX) (p6_digest MY) := by
  obtain ⟨n, d, σ, hH⟩ := rel_here hR
  have hcv : ∀ f, ∃ v, f < 9 → p5_counted (nI f) MX = some (v, MX) ∧ p6_countOf (nI f) MY = some (v, MY) := fun f => by
    by_cases hf : f < 9
    · obtain ⟨v, h⟩ := counted_ag hR hf
      exact ⟨v, fun _ => h⟩
    · exact ⟨0, fun h => absurd h hf⟩
  have hcv2 := fun f => Classical.choose_spec (hcv f)
  have hkv : ∀ k, k < 3 → (if MX.1 (27 + 9 * k) 0 = 0 then -1 else MX.1 (27 + 9 * k + 7) 1) = MY.1 1 (991 * (1 + k)) := by
    intro k hk
    rcases kept_there hR hk with ⟨a, b⟩ | ⟨m, e, h1, h2, h3, a, c, b⟩
    · rw [if_pos a, b]
    · rw [if_neg (by rw [a]; exact nI_ne0 h1 (by omega)), c, b]
  refine ⟨_, _, _, digestX hR hH (fun f => Classical.choose (hcv f)) (fun k => MY.1 1 (991 * (1 + k))) (fun f hf => (hcv2 f hf).1) hkv, ?_, hR⟩
  rw [digestY hR hH (fun f => Classical.choose (hcv f)) (fun k => MY.1 1 (991 * (1 + k))) (fun f hf => (hcv2 f hf).2) (fun k hk => rfl)]
  have eL1 : ∀ r, r < 6 → lenOf MX 2 r = lenOf MY 3 r := fun r hr => by unfold lenOf; rw [(hR.1.2 r hr).1]
  have eL2 : ∀ r, r < 4 → lenOf MX 5 r = lenOf MY 5 r := fun r hr => by unfold lenOf; rw [(hR.2.1.2 r hr).1]
  have key : ∀ (sz sz' : Nat → Int32) (ln ln' : Nat → Nat) (v v' : Nat → Nat → Int32) (a : Int64) (n : Nat), (∀ r, r < n → sz r = sz' r ∧ ln r = ln' r ∧ ∀ i, i < ln r → v r i = v' r i) → dgR sz ln v a n = dgR sz' ln' v' a n := by
    intro sz sz' ln ln' v v' a n
    induction n with
    | zero => intro _; rfl
    | succ n ih =>
      intro h
      rw [dgR, dgR, ih (fun r hr => h r (by omega)), (h n (by omega)).1, ← (h n (by omega)).2.1, dgF_eq (h n (by omega)).2.2]
  rw [key (fun r => MX.1 5 r) (fun r => MY.1 5 r) (lenOf MX 5) (lenOf MY 5) (fun r i => MX.1 6 (60 * r + i)) (fun r i => MY.1 6 (60 * r + i)) _ 4 (fun r hr => ⟨(hR.2.1.2 r hr).1, eL2 r hr, fun i hi => by
    rcases txtThere hR hr with ⟨e, _⟩ | ⟨m, hm, e, _, h⟩
    · rw [len_m1 e] at hi
      exact absurd hi (Nat.not_lt_zero i)
    · rw [len_nI e (by omega)] at hi
      exact (h i hi).1⟩), key (fun r => MX.1 2 r) (fun r => MY.1 3 r) (lenOf MX 2) (lenOf MY 3) (fun r i => MX.1 3 (40 * r + i)) (fun r i => MY.1 4 (40 * r + i)) _ 6 (fun r hr => ⟨(hR.1.2 r hr).1, eL1 r hr, fun i hi => by
    rcases rowThere hR hr with ⟨e, _⟩ | ⟨m, hm, e, _, h⟩
    · rw [len_m1 e] at hi
      exact absurd hi (Nat.not_lt_zero i)
    · rw [len_nI e (by omega)] at hi
      exact h i hi⟩)]
