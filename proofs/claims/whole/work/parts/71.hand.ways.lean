/-! ways counted on both sides -/
theorem OX.c58 {M N : SX} {n P : Nat} {H D C : Nat → Nat} (h : OX M n P H D C) (hc : ∀ c, c ≠ 58 → N.1 c = M.1 c) : OX N n P H D C := by
  unfold OX at *
  rw [hc 54 (by decide), hc 55 (by decide), hc 56 (by decide), hc 57 (by decide)]
  exact h
theorem OY.same1 {M N : SX} {n P : Nat} {H D C : Nat → Nat} (h : OY M n P H D C) (hc : N.1 = M.1) : OY N n P H D C := by
  unfold OY at *
  rw [hc]
  exact h
theorem sameX58 {M N : SX} (hc : ∀ c, c ≠ 58 → N.1 c = M.1 c) (h2 : N.2 = M.2) : SameX M N := ⟨fun k hk => hc k (by omega), h2⟩
theorem fill_X {v : Nat} (M : SX) : ∃ M', pj_fill 64 58 (nI v) M = some M' ∧ (∀ c, c ≠ 58 → M'.1 c = M.1 c) ∧ M'.2 = M.2 ∧ ∀ T, T < 64 → M'.1 58 T = nI v := by
  rw [pj_fill, lt_v]
  refine lp3_inv (fun _ => nI v) (fun i => nI i) (fun _ => nI 64) (fun i N => (∀ c, c ≠ 58 → N.1 c = M.1 c) ∧ N.2 = M.2 ∧ ∀ T, T < i → N.1 58 T = nI v) 64 (by omega) (fun x => ∃ M' : SX, x = some M' ∧ (∀ c, c ≠ 58 → M'.1 c = M.1 c) ∧ M'.2 = M.2 ∧ ∀ T, T < 64 → M'.1 58 T = nI v) ?_ ?_ M ⟨fun _ _ => rfl, rfl, fun T hT => absurd hT (Nat.not_lt_zero T)⟩
  · rintro i hi N ⟨u1, u2, u3⟩ rc
    refine ⟨wI N 58 i (nI v), ?_, fun c hc => by rw [wI_nk hc]; exact u1 c hc, u2, fun T hT => ?_⟩
    · rw [pj_fill_5, if_neg (nI_ge hi (by omega)), gd_of (bIn_nI hi (by decide)), lt_v, lt_v, nI_clamp (by omega), nI_1]
    · rw [wI_k]
      by_cases e : T = i
      · rw [if_pos e]
      · rw [if_neg e]; exact u3 T (by omega)
  · rintro N hN rc
    rw [pj_fill_5, if_pos (Int32.le_refl _)]
    exact ⟨N, rfl, hN⟩
theorem or_64 {S v : Nat} (hS : S < 64) (hv0 : v < 6) : S ||| 2 ^ v < 64 := or2_lt (n := 6) hS hv0
theorem countFrom_X {M : SX} {n P : Nat} {H D C : Nat → Nat} (hO : OX M n P H D C) (hG : OG n P H D C) {a0 : Nat} (ha : a0 ≤ P) : ∃ M', p2_countFrom (nI a0) M = some M' ∧ (∀ c, c ≠ 58 → M'.1 c = M.1 c) ∧ M'.2 = M.2 ∧ ∀ T, T < 64 → M'.1 58 T = nI (pushS (goB n P H D C) n a0 (dlt a0) (P + 1 - a0) T) := by
  have hn := hG.1
  have hP := hG.p64
  have hf := goB_fwd n P H D C
  obtain ⟨M1, e1, f1, f2, f3⟩ := fill_X (v := 0) M
  rw [p2_countFrom, show pj_fill 64 58 0 M = some M1 from e1, bv_s, gd_of (bIn_nI (by omega) (by decide)), nI_clamp (by omega), lt_v]
  refine lp1_inv (fun k => nI (a0 + k)) (fun k N => (∀ c, c ≠ 58 → N.1 c = M.1 c) ∧ N.2 = M.2 ∧ ∀ T, T < 64 → N.1 58 T = nI (pushS (goB n P H D C) n a0 (dlt a0) k T)) (P + 1 - a0) (by omega) (fun x => ∃ M' : SX, x = some M' ∧ (∀ c, c ≠ 58 → M'.1 c = M.1 c) ∧ M'.2 = M.2 ∧ ∀ T, T < 64 → M'.1 58 T = nI (pushS (goB n P H D C) n a0 (dlt a0) (P + 1 - a0) T)) ?_ ?_ _ ⟨fun c hc => by rw [wI_nk hc]; exact f1 c hc, f2, fun T hT => ?_⟩
  · rintro k hk N ⟨u1, u2, u3⟩ rc
    have hS : a0 + k < 64 := by omega
    have hOi := hO.c58 u1
    have hle := push_le hf hP hn (a0 := a0) (by omega) hS k (by omega)
    have u3S := u3 _ hS
    show ∃ M', p2_countFrom_17 rc (nI (a0 + k)) N = rc (nI (a0 + k + 1)) M' ∧ (∀ c, c ≠ 58 → M'.1 c = M.1 c) ∧ M'.2 = M.2 ∧ ∀ T, T < 64 → M'.1 58 T = nI (pushV (goB n P H D C) (a0 + k) (pushS (goB n P H D C) n a0 (dlt a0) k) n T)
    generalize pushS (goB n P H D C) n a0 (dlt a0) k = arr at u3 hle u3S
    have hSP : a0 + k ≤ P := by omega
    generalize a0 + k = S at hS hle u3S hSP
    -- the inner loop
    have inner : ∀ mask, mask < 64 → (∀ v, v < n → mask.testBit v = true ∨ arr S = 0 ∨ goB n P H D C S v = false) → (∀ v, v < n → mask.testBit v = true → goB n P H D C S v = true) → ∃ M', p2_countFrom_43 rc (nI S) (nI mask) N = rc (nI (S + 1)) M' ∧ (∀ c, c ≠ 58 → M'.1 c = M.1 c) ∧ M'.2 = M.2 ∧ ∀ T, T < 64 → M'.1 58 T = nI (pushV (goB n P H D C) S arr n T) := by
      intro mask hm h1 h2
      rw [p2_countFrom_43]
      refine lp3_inv (fun _ => nI S) (fun _ => nI mask) (fun v => nI v) (fun v N => (∀ c, c ≠ 58 → N.1 c = M.1 c) ∧ N.2 = M.2 ∧ ∀ T, T < 64 → N.1 58 T = nI (pushV (goB n P H D C) S arr v T)) n (by omega) (fun x => ∃ M' : SX, x = rc (nI (S + 1)) M' ∧ (∀ c, c ≠ 58 → M'.1 c = M.1 c) ∧ M'.2 = M.2 ∧ ∀ T, T < 64 → M'.1 58 T = nI (pushV (goB n P H D C) S arr n T)) ?_ ?_ N ⟨u1, u2, u3⟩
      · rintro v hv0 N ⟨w1, w2, w3⟩ rc2
        have hOi := hO.c58 w1
        have hor := or_64 hS (show v < 6 by omega)
        by_cases t : mask.testBit v = true
        · have hg := h2 v hv0 t
          have hSS : N.1 58 S = nI (arr S) := by rw [w3 S hS, pushV_le hf S arr (Nat.le_refl S)]
          refine ⟨wI N 58 (S ||| 2 ^ v) (nI (pushV (goB n P H D C) S arr v (S ||| 2 ^ v) + arr S)), ?_, fun c hc => by rw [wI_nk hc]; exact w1 c hc, w2, fun T hT => ?_⟩
          · rw [p2_countFrom_47, hOi.1, if_neg (nI_ge hv0 (by omega)), isIn_X (by omega) (by omega), bd_s, it01, if_pos t, shl1 v (by omega), or_nI, gd_of (bIn_nI hor (by decide)), gd_of (bIn_nI hS (by decide)), nI_clamp (by omega), nI_clamp (by omega), w3 _ hor, hSS, nI_add, lt_v, p2_countFrom_85, lt_v, nI_1]
          · rw [wI_k, pushV, if_pos hg]
            by_cases e : T = S ||| 2 ^ v
            · rw [if_pos e, e, updN_s]
            · rw [if_neg e, updN_n _ e]; exact w3 T hT
        · refine ⟨N, ?_, w1, w2, fun T hT => ?_⟩
          · rw [p2_countFrom_47, hOi.1, if_neg (nI_ge hv0 (by omega)), isIn_X (by omega) (by omega), bd_s, it01, if_neg t, p2_countFrom_85, lt_v, nI_1]
          · rw [w3 T hT]
            rcases h1 v hv0 with h | h | h
            · exact absurd h t
            · rw [pushV_zero S arr h, pushV_zero S arr h]
            · rw [pushV, if_neg (by rw [h]; decide)]
      · rintro N ⟨w1, w2, w3⟩ rc2
        have hOi := hO.c58 w1
        rw [p2_countFrom_47, hOi.1, if_pos (Int32.le_refl _), lt_v, nI_1]
        exact ⟨N, rfl, w1, w2, w3⟩
    rw [p2_countFrom_17, hOi.2.1, if_neg (nI_nlt hSP (by omega)), gd_of (bIn_nI hS (by decide)), nI_clamp (by omega), u3S]
    by_cases z : arr S = 0
    · rw [if_pos (by rw [z]; rfl)]
      exact inner 0 (by omega) (fun v _ => Or.inr (Or.inl z)) (fun v _ h => by rw [Nat.zero_testBit] at h; exact absurd h (by decide))
    · rw [if_neg (nI_ne0 (Nat.pos_of_ne_zero z) (by omega)), nextAfter_X hOi hG hS, bd_s]
      refine inner _ (nextS_lt hn S) (fun v hv0 => ?_) (fun v hv0 h => by rw [nextS_tb hv0] at h; exact h)
      rw [nextS_tb hv0]
      cases goB n P H D C S v
      · exact Or.inr (Or.inr rfl)
      · exact Or.inl rfl
  · rintro N ⟨u1, u2, u3⟩ rc
    have hOi := hO.c58 u1
    rw [p2_countFrom_17, hOi.2.1, if_pos (nI_lt (by omega) (by omega))]
    exact ⟨N, rfl, u1, u2, u3⟩
  · rw [wI_k]
    show _ = nI (dlt a0 T)
    unfold dlt
    by_cases e : T = a0
    · rw [if_pos e, if_pos e]; rfl
    · rw [if_neg e, if_neg e]; exact f3 T hT
theorem wJ_at {M : SX} {k j : Nat} {x : Int64} {i : Nat} : (wJ M k j x).2 k i = if i = j then x else M.2 k i := by
  rw [wJ_2, if_pos rfl]; rfl
theorem wJ_n {M : SX} {k j : Nat} {x : Int64} {c : Nat} (h : c ≠ k) : (wJ M k j x).2 c = M.2 c := by rw [wJ_2, if_neg h]
/-- all ways, from none -/
def wayN (n P : Nat) (H D C : Nat → Nat) (T : Nat) : Nat := pushS (goB n P H D C) n 0 (dlt 0) (P + 1) T
theorem way_le {n P : Nat} {H D C : Nat → Nat} (hG : OG n P H D C) {T : Nat} (hT : T < 64) : wayN n P H D C T ≤ 46656 := push_le (goB_fwd n P H D C) hG.p64 hG.1 (by decide) hT (P + 1) (by have := hG.p64; omega)
theorem way_64 {n P : Nat} {H D C : Nat → Nat} (hG : OG n P H D C) (T : Nat) : pushS (goB n P H D C) n 0 (dlt 0) 64 T = wayN n P H D C T := by
  have h := push_more (goB_fwd n P H D C) (n := n) (a0 := 0) (P := P) (fun v z => by rw [Nat.zero_testBit] at z; exact absurd z (by decide)) T (63 - P)
  have hP := hG.p64
  rw [show P + 1 - 0 + (63 - P) = 64 by omega] at h
  exact h
theorem layWays_Y {M : SX} {n P : Nat} {H D C : Nat → Nat} (hO : OY M n P H D C) (hG : OG n P H D C) : ∃ M', p6_layWays M = some M' ∧ M'.1 = M.1 ∧ (∀ c, c ≠ 13 → M'.2 c = M.2 c) ∧ ∀ T, T < 64 → M'.2 13 T = lN (wayN n P H D C T) := by
  have hn := hG.1
  have hP := hG.p64
  have hf := goB_fwd n P H D C
  rw [p6_layWays]
  refine lp1_inv (fun k => nI k) (fun k N => N.1 = M.1 ∧ (∀ c, c ≠ 13 → N.2 c = M.2 c) ∧ ∀ T, T < k → N.2 13 T = lN (dlt 0 T)) 64 (by omega) (fun x => ∃ M' : SX, x = some M' ∧ M'.1 = M.1 ∧ (∀ c, c ≠ 13 → M'.2 c = M.2 c) ∧ ∀ T, T < 64 → M'.2 13 T = lN (wayN n P H D C T)) ?_ ?_ M ⟨rfl, fun _ _ => rfl, fun T hT => absurd hT (Nat.not_lt_zero T)⟩
  · rintro k hk N ⟨u1, u2, u3⟩ rc
    refine ⟨wJ N 13 k (lN (dlt 0 k)), ?_, u1, fun c hc => by rw [wJ_n hc]; exact u2 c hc, fun T hT => ?_⟩
    · rw [p6_layWays_2, if_neg (show ¬ (64 : Int32) ≤ nI k from nI_ge (b := 64) hk (by omega))]
      by_cases z : k = 0
      · rw [if_pos (by rw [z]; rfl), p6_layWays_22, gd_of (bIn_nI hk (by decide)), lt_v, lt_v, nI_clamp (by omega), nI_1, z]
        rfl
      · rw [if_neg (nI_ne0 (Nat.pos_of_ne_zero z) (by omega)), p6_layWays_22, gd_of (bIn_nI hk (by decide)), lt_v, lt_v, nI_clamp (by omega), nI_1]
        unfold dlt
        rw [if_neg z]
        rfl
    · rw [wJ_at]
      by_cases e : T = k
      · rw [if_pos e, e]
      · rw [if_neg e]; exact u3 T (by omega)
  · rintro N ⟨u1, u2, u3⟩ rc
    rw [p6_layWays_2, if_pos (by decide)]
    refine lp1_inv (fun k => nI k) (fun k N => N.1 = M.1 ∧ (∀ c, c ≠ 13 → N.2 c = M.2 c) ∧ ∀ T, T < 64 → N.2 13 T = lN (pushS (goB n P H D C) n 0 (dlt 0) k T)) 64 (by omega) (fun x => ∃ M' : SX, x = some M' ∧ M'.1 = M.1 ∧ (∀ c, c ≠ 13 → M'.2 c = M.2 c) ∧ ∀ T, T < 64 → M'.2 13 T = lN (wayN n P H D C T)) ?_ ?_ N ⟨u1, u2, u3⟩
    · rintro S hS N ⟨u1, u2, u3⟩ rc
      have hle := push_le hf hP hn (a0 := 0) (by omega) hS S (by omega)
      have u3S := u3 S hS
      show ∃ M', p6_layWays_31 rc (nI S) N = rc (nI (S + 1)) M' ∧ M'.1 = M.1 ∧ (∀ c, c ≠ 13 → M'.2 c = M.2 c) ∧ ∀ T, T < 64 → M'.2 13 T = lN (pushV (goB n P H D C) (0 + S) (pushS (goB n P H D C) n 0 (dlt 0) S) n T)
      rw [Nat.zero_add]
      generalize pushS (goB n P H D C) n 0 (dlt 0) S = arr at u3 hle u3S
      rw [p6_layWays_31, if_neg (show ¬ (64 : Int32) ≤ nI S from nI_ge (b := 64) hS (by omega))]
      refine lp2_inv (fun _ => nI S) (fun v => nI v) (fun v N => N.1 = M.1 ∧ (∀ c, c ≠ 13 → N.2 c = M.2 c) ∧ ∀ T, T < 64 → N.2 13 T = lN (pushV (goB n P H D C) S arr v T)) n (by omega) (fun x => ∃ M' : SX, x = rc (nI (S + 1)) M' ∧ M'.1 = M.1 ∧ (∀ c, c ≠ 13 → M'.2 c = M.2 c) ∧ ∀ T, T < 64 → M'.2 13 T = lN (pushV (goB n P H D C) S arr n T)) ?_ ?_ N ⟨u1, u2, u3⟩
      · rintro v hv0 N ⟨w1, w2, w3⟩ rc2
        have hOi := hO.same1 w1
        have hor := or_64 hS (show v < 6 by omega)
        have hSS : N.2 13 S = lN (arr S) := by rw [w3 S hS, pushV_le hf S arr (Nat.le_refl S)]
        by_cases z : arr S = 0
        · refine ⟨N, ?_, w1, w2, fun T hT => ?_⟩
          · rw [p6_layWays_39, hOi.1, if_neg (nI_ge hv0 (by omega)), gd_of (bIn_nI hS (by decide)), nI_clamp (by omega), hSS, z, if_pos (by decide), p6_layWays_86, lt_v, nI_1]
          · rw [w3 T hT, pushV_zero S arr z, pushV_zero S arr z]
        · have hpos : ¬ lN (arr S) ≤ 0 := fun w => absurd ((pk_lLE (b := 0) (by omega) (by decide)).mp w) (by omega)
          by_cases g : goB n P H D C S v = true
          · refine ⟨wJ N 13 (S ||| 2 ^ v) (lN (pushV (goB n P H D C) S arr v (S ||| 2 ^ v) + arr S)), ?_, w1, fun c hc => by rw [wJ_n hc]; exact w2 c hc, fun T hT => ?_⟩
            · rw [p6_layWays_39, hOi.1, if_neg (nI_ge hv0 (by omega)), gd_of (bIn_nI hS (by decide)), nI_clamp (by omega), hSS, if_neg hpos, next_Y hOi hG hS hv0, bd_s, it01, if_pos g, shl1 v (by omega), or_nI, gd_of (bIn_nI hor (by decide)), nI_clamp (by omega), w3 _ hor, hSS, lN_add, lt_v, p6_layWays_86, lt_v, nI_1]
            · rw [wJ_at, pushV, if_pos g]
              by_cases e : T = S ||| 2 ^ v
              · rw [if_pos e, e, updN_s]
              · rw [if_neg e, updN_n _ e]; exact w3 T hT
          · refine ⟨N, ?_, w1, w2, fun T hT => ?_⟩
            · rw [p6_layWays_39, hOi.1, if_neg (nI_ge hv0 (by omega)), gd_of (bIn_nI hS (by decide)), nI_clamp (by omega), hSS, if_neg hpos, next_Y hOi hG hS hv0, bd_s, it01, if_neg g, p6_layWays_86, lt_v, nI_1]
            · rw [w3 T hT, pushV, if_neg g]
      · rintro N ⟨w1, w2, w3⟩ rc2
        have hOi := hO.same1 w1
        rw [p6_layWays_39, hOi.1, if_pos (Int32.le_refl _), lt_v, nI_1]
        exact ⟨N, rfl, w1, w2, w3⟩
    · rintro N ⟨u1, u2, u3⟩ rc
      rw [p6_layWays_31, if_pos (by decide)]
      exact ⟨N, rfl, u1, u2, fun T hT => by rw [u3 T hT, way_64 hG]⟩
theorem sameY13 {M N : SX} (h1 : N.1 = M.1) (h2 : ∀ c, c ≠ 13 → N.2 c = M.2 c) : SameY M N := ⟨fun k _ _ => by rw [h1], fun j _ => by rw [h1], h2 0 (by decide)⟩
/-! telling two numbers -/
theorem rel_tellL {MX MY : SX} (a b : Int64) (hR : Rel MX MY) : Rel (wJ (wJ MX 0 9 a) 0 10 b) (wJ (wJ MY 0 8 a) 0 9 b) := by
  obtain ⟨hr, ht, ⟨g1, g2, g3, g4, g5⟩, hn⟩ := hR
  refine ⟨hr, ht, ⟨g1, g2, ?_, ?_, g5⟩, hn⟩
  · rw [wJ_at, if_neg (by decide), wJ_at, if_pos rfl, wJ_at, if_neg (by decide), wJ_at, if_pos rfl]
  · rw [wJ_at, if_pos rfl, wJ_at, if_pos rfl]
theorem div1 (x : Int64) : x / 1 = x := Int64.div_one
theorem tell_1 (x : Int64) (M : SX) : p5_tell x 1 M = some (wJ (wJ M 0 9 x) 0 10 1) := by
  have e : p5_commonDivisor x 1 M = some (1, M) := by
    rw [p5_commonDivisor]
    refine lp3_go (fun i => if i = 0 then x else 1) (fun i => if i = 0 then 1 else 0) (fun i => nI i) (fun _ => M) 1 (by omega) _ (fun i hi rc => ?_) (fun rc => ?_)
    · have : i = 0 := by omega
      subst this
      rw [if_pos rfl, if_pos rfl, if_neg (by decide), if_neg (by decide), p5_commonDivisor_9, if_neg (by decide), if_neg (by decide), gd_of (by decide), lt_v, lt_v, div1, Int64.mul_one, Int64.sub_self]
      rfl
    · rw [if_neg (by decide), if_neg (by decide), p5_commonDivisor_9, if_neg (by decide), if_pos rfl]
      rfl
  rw [p5_tell, e, bd_s, lt_v, show jmaxL 1 1 = 1 from rfl, gd_of (by decide), lt_v, lt_v, div1, div1]
theorem ag_ways (MX MY : SX) (hR : Rel MX MY) : Ag (p5_ways MX) (p6_ways MY) := by
  obtain ⟨n, d, σ, hn, hd, h0, hX, hY, hV, h7, h1⟩ := rel_here hR
  rw [p5_ways, p6_ways, hX.1, h0]
  by_cases hn0 : n = 0
  · subst hn0
    rw [if_pos nI_0, if_pos nI_0]
    exact ag_no hR _
  · have hz0 := nI_ne0 (n := n) (by omega) (by omega)
    have hG := og_of hn hd hV (w := 0) (by omega)
    obtain ⟨MX1, eX1, sX1, oX1⟩ := lookAt_X hX hn hV hd (w := 0) (by omega)
    obtain ⟨MX2, eX2, cX2, jX2, aX2⟩ := countFrom_X oX1 hG (a0 := 0) (Nat.zero_le _)
    obtain ⟨MY1, eY1, sY1, oY1⟩ := layTried_Y0 h0 hY hn hV hd (w := 0) (by omega)
    obtain ⟨MY2, eY2, cY2, jY2, aY2⟩ := layWays_Y oY1 hG
    have hP := hG.p64
    have sX := sX1.trans (sameX58 cX2 jX2)
    have sY := sY1.trans (sameY13 cY2 jY2)
    have hle := way_le hG hP
    have oY2 := oY1.same1 cY2
    rw [if_neg hz0, if_neg hz0, show p2_lookAt 17 0 MX = some MX1 from eX1, bv_s, show p2_countFrom 0 MX1 = some MX2 from eX2, bv_s, pawnedSet_X (hX.same sX) hn hV, bd_s, p2_countOf, gd_of (bIn_nI hP (by decide)), nI_clamp (by omega), aX2 _ hP, bd_s, show pushS (goB n (pawnS n σ) (σ 3) (fun v => due σ v 0) (σ 1)) n 0 (dlt 0) (pawnS n σ + 1 - 0) (pawnS n σ) = wayN n (pawnS n σ) (σ 3) (fun v => due σ v 0) (σ 1) (pawnS n σ) from rfl, nI_l (by omega), tell_1, bv_s, show p6_layTried 0 0 MY = some MY1 from eY1, bv_s, eY2, bv_s, oY2.2.1, gd_of (bIn_nI hP (by decide)), nI_clamp (by omega), aY2 _ hP, p6_tellMany, lt_v, lt_v, bd_s]
    exact ⟨_, _, _, rfl, rfl, rel_tellL _ _ (rel_same hR sX sY)⟩
/-- the largest set that is come to -/
def larg (w : Nat → Nat) : Nat → Nat
  | 0 => 0
  | v + 1 => if ¬ w v = 0 ∧ pc (larg w v) < pc v then v else larg w v
theorem larg_lt (w : Nat → Nat) : ∀ v, v ≤ 64 → larg w v < 64
  | 0, _ => by show 0 < 64; omega
  | v + 1, h => by
    rw [larg]
    split
    · omega
    · exact larg_lt w v (by omega)
theorem ag_most (MX MY : SX) (hR : Rel MX MY) : Ag (p5_most MX) (p6_most MY) := by
  obtain ⟨n, d, σ, hn, hd, h0, hX, hY, hV, h7, h1⟩ := rel_here hR
  rw [p5_most, p6_most, hX.1, h0]
  by_cases hn0 : n = 0
  · subst hn0
    rw [if_pos nI_0, if_pos nI_0]
    exact ag_no hR _
  · have hz0 := nI_ne0 (n := n) (by omega) (by omega)
    have hG := og_of hn hd hV (w := 0) (by omega)
    obtain ⟨MX1, eX1, sX1, oX1⟩ := lookAt_X hX hn hV hd (w := 0) (by omega)
    obtain ⟨MX2, eX2, cX2, jX2, aX2⟩ := countFrom_X oX1 hG (a0 := 0) (Nat.zero_le _)
    obtain ⟨MY1, eY1, sY1, oY1⟩ := layTried_Y0 h0 hY hn hV hd (w := 0) (by omega)
    obtain ⟨MY2, eY2, cY2, jY2, aY2⟩ := layWays_Y oY1 hG
    have sX := sX1.trans (sameX58 cX2 jX2)
    have sY := sY1.trans (sameY13 cY2 jY2)
    have hle := fun T (hT : T < 64) => way_le hG hT
    have aX2' : ∀ T, T < 64 → MX2.1 58 T = nI (wayN n (pawnS n σ) (σ 3) (fun v => due σ v 0) (σ 1) T) := aX2
    generalize wayN n (pawnS n σ) (σ 3) (fun v => due σ v 0) (σ 1) = w at aX2' aY2 hle
    have eX : p2_largest MX2 = some (nI (larg w 64), MX2) := by
      rw [p2_largest]
      refine lp2_go (fun v => nI (larg w v)) (fun v => nI v) (fun _ => MX2) 64 (by omega) _ (fun v hv0 rc => ?_) (fun rc => ?_)
      · have hl := hle v hv0
        have h1 := pc_le v
        have h2 := pc_le (larg w v)
        rw [p2_largest_4, if_neg (show ¬ (64 : Int32) ≤ nI v from nI_ge (b := 64) hv0 (by omega)), gd_of (bIn_nI hv0 (by decide)), nI_clamp (by omega), aX2' v hv0, larg]
        by_cases z : w v = 0
        · rw [if_pos (by rw [z]; decide), if_neg (fun y => y.1 z), p2_largest_32, lt_v, nI_1]
        · rw [if_neg (nI_nle (by omega) (by omega)), bits_X hv0, bd_s, bits_X (larg_lt w v (by omega)), bd_s]
          by_cases c : pc (larg w v) < pc v
          · rw [if_neg (nI_ge c (by omega)), if_pos ⟨z, c⟩, p2_largest_32, lt_v, nI_1]
          · rw [if_pos (nI_le (by omega) (by omega)), if_neg (fun y => c y.2), p2_largest_32, lt_v, nI_1]
      · rw [p2_largest_4, if_pos (by decide)]
    have hl64 := larg_lt w 64 (Nat.le_refl _)
    have eY : xlp1 p6_most_27 FU 0 (wI MY2 0 7 0) = some (nI (pc (larg w 64)), wI MY2 0 7 (nI (larg w 64))) := by
      refine lp1_go (fun v => nI v) (fun v => wI MY2 0 7 (nI (larg w v))) 64 (by omega) _ (fun v hv0 rc => ?_) (fun rc => ?_)
      · have hl := hle v hv0
        have h1 := pc_le v
        have h2 := pc_le (larg w v)
        have e7 : (wI MY2 0 7 (nI (larg w v))).1 0 7 = nI (larg w v) := by rw [wI_k, if_pos rfl]
        rw [p6_most_27, if_neg (show ¬ (64 : Int32) ≤ nI v from nI_ge (b := 64) hv0 (by omega)), gd_of (bIn_nI hv0 (by decide)), nI_clamp (by omega), wI_2, aY2 v hv0, larg]
        by_cases z : w v = 0
        · rw [if_pos (by rw [z]; decide), if_neg (fun y => y.1 z), p6_most_63, p6_most_67, lt_v, lt_v, nI_1, e7, wI_wI]
        · rw [if_neg (show ¬ lN (w v) ≤ 0 from fun y => absurd ((pk_lLE (b := 0) (by omega) (by decide)).mp y) (by omega)), bits_Y hv0, bd_s, e7, bits_Y (larg_lt w v (by omega)), bd_s]
          by_cases c : pc (larg w v) < pc v
          · rw [if_neg (nI_ge c (by omega)), if_pos ⟨z, c⟩, p6_most_67, lt_v, lt_v, nI_1, wI_wI]
          · rw [if_pos (nI_le (by omega) (by omega)), if_neg (fun y => c y.2), p6_most_63, p6_most_67, lt_v, lt_v, nI_1, e7, wI_wI]
      · rw [p6_most_27, if_pos (by decide), wI_k, if_pos rfl, bits_Y hl64, bd_s]
    rw [if_neg hz0, if_neg hz0, show p2_lookAt 17 0 MX = some MX1 from eX1, bv_s, show p2_countFrom 0 MX1 = some MX2 from eX2, bv_s, eX, bd_s, lt_v, wI_k, if_pos rfl, bits_X hl64, bd_s, show p6_layTried 0 0 MY = some MY1 from eY1, bv_s, eY2, bv_s, lt_v, eY]
    exact ⟨_, _, _, rfl, rfl, rel_tell _ (rel_same hR sX sY)⟩
