/-! the fewest for one to be free -/
theorem tgt_in {P S s : Nat} (hS : S < 64) (hP : P < 64) (hs : s < 6) : inP S (P &&& 2 ^ s) = true ↔ (S.testBit s = true ∨ ¬ P.testBit s = true) := by
  constructor
  · intro h
    by_cases c : P.testBit s = true
    · exact Or.inl (inP_sub h s (by rw [Nat.testBit_and, c, tb_self]; rfl))
    · exact Or.inr c
  · intro h
    refine sub_inP (fun v hv0 => ?_)
    rw [Nat.testBit_and, Bool.and_eq_true, Nat.testBit_two_pow, decide_eq_true_iff] at hv0
    rcases h with h | h
    · rw [← hv0.2]; exact h
    · exact absurd (hv0.2 ▸ hv0.1) h
theorem free_tab {M : SX} {n P : Nat} {H D C : Nat → Nat} (hO : OY M n P H D C) (hG : OG n P H D C) {s r : Nat} (hs : s < n) : ∃ M' : SX, xlp3 p6_free_26 FU (nI s) (nI r) 63 M = (if nI (dE (P &&& 2 ^ s) n (goB n P H D C) 99 0) ≤ (98 : Int32) then (bv (p6_makeRow (nI r) (nI (dE (P &&& 2 ^ s) n (goB n P H D C) 99 0)) M') (fun M6 => xlp4 p6_free_180 FU (nI r) (nI (dE (P &&& 2 ^ s) n (goB n P H D C) 99 0)) 0 0 M6)) else (some ((-9), M'))) ∧ (∀ c, c ≠ 15 → M'.1 c = M.1 c) ∧ M'.2 = M.2 ∧ ∀ T, T < 64 → M'.1 15 T = nI (dE (P &&& 2 ^ s) n (goB n P H D C) 99 T) := by
  have hn := hG.1
  have hP := hG.p64
  have hf := goB_fwd n P H D C
  generalize htg : P &&& 2 ^ s = tgt
  have hti : ∀ S, S < 64 → (inP S tgt = true ↔ (S.testBit s = true ∨ ¬ P.testBit s = true)) := fun S hS => by rw [← htg]; exact tgt_in hS hP (by omega)
  refine lp3_inv (fun _ => nI s) (fun _ => nI r) (fun j => dwn 63 j) (fun j N => (∀ c, c ≠ 15 → N.1 c = M.1 c) ∧ N.2 = M.2 ∧ ∀ T, 64 - j ≤ T → T < 64 → N.1 15 T = nI (dE tgt n (goB n P H D C) 99 T)) 64 (by omega) (fun x => ∃ M' : SX, x = (if nI (dE tgt n (goB n P H D C) 99 0) ≤ (98 : Int32) then (bv (p6_makeRow (nI r) (nI (dE tgt n (goB n P H D C) 99 0)) M') (fun M6 => xlp4 p6_free_180 FU (nI r) (nI (dE tgt n (goB n P H D C) 99 0)) 0 0 M6)) else (some ((-9), M'))) ∧ (∀ c, c ≠ 15 → M'.1 c = M.1 c) ∧ M'.2 = M.2 ∧ ∀ T, T < 64 → M'.1 15 T = nI (dE tgt n (goB n P H D C) 99 T)) ?_ ?_ M ⟨fun _ _ => rfl, rfl, fun T h1 h2 => by omega⟩
  · rintro j hj N ⟨u1, u2, u3⟩ rc
    have hOi := hO.nk (N := N) (fun c _ _ h15 => u1 c h15)
    obtain ⟨S, hSj⟩ : ∃ S, S = 63 - j := ⟨_, rfl⟩
    have hS : S < 64 := by omega
    have hd1 : dwn 63 j = nI S := by rw [hSj]; exact dwn_le (by omega)
    have hd2 : nI S + (-1) = dwn 63 (j + 1) := by rw [hSj]; exact dwn_s (by omega)
    -- where the set has it already
    have zero : inP S tgt = true → ∃ M' : SX, p6_free_60 rc (nI s) (nI r) (nI S) (nI S) 0 N = rc (nI s) (nI r) (dwn 63 (j + 1)) M' ∧ (∀ c, c ≠ 15 → M'.1 c = M.1 c) ∧ M'.2 = M.2 ∧ ∀ T, 64 - (j + 1) ≤ T → T < 64 → M'.1 15 T = nI (dE tgt n (goB n P H D C) 99 T) := by
      intro c1
      refine ⟨wI N 15 S 0, ?_, fun c hc => by rw [wI_nk hc]; exact u1 c hc, u2, fun T h1 h2 => ?_⟩
      · rw [p6_free_60, gd_of (bIn_nI hS (by decide)), nI_clamp (by omega), lt_v]
        refine lp4_go (fun _ => nI s) (fun _ => nI r) (fun _ => nI S) (fun v => nI v) (fun _ => wI N 15 S 0) 0 (by omega) _ (fun v hv0 => absurd hv0 (Nat.not_lt_zero v)) (fun rc2 => ?_)
        have e0 : (wI N 15 S 0).1 0 1 = nI n := by rw [wI_nk (by decide)]; exact hOi.1
        rw [p6_free_64, e0, if_neg (nI_ge (by omega) (by omega)), gd_of (bIn_nI hS (by decide)), nI_clamp (by omega), wI_k, if_pos rfl, if_pos (by decide), p6_free_146, lt_v, hd2]
      · rw [wI_k]
        by_cases c : T = S
        · rw [if_pos c, c, dE_eq hf hn _ hS, if_pos c1]; rfl
        · rw [if_neg c]; exact u3 T (by omega) h2
    have full : ¬ inP S tgt = true → ∃ M' : SX, p6_free_60 rc (nI s) (nI r) (nI S) (nI S) 99 N = rc (nI s) (nI r) (dwn 63 (j + 1)) M' ∧ (∀ c, c ≠ 15 → M'.1 c = M.1 c) ∧ M'.2 = M.2 ∧ ∀ T, 64 - (j + 1) ≤ T → T < 64 → M'.1 15 T = nI (dE tgt n (goB n P H D C) 99 T) := by
      intro c1
      rw [p6_free_60, gd_of (bIn_nI hS (by decide)), nI_clamp (by omega), lt_v]
      refine lp4_inv (fun _ => nI s) (fun _ => nI r) (fun _ => nI S) (fun v => nI v) (fun v N => (∀ c, c ≠ 15 → N.1 c = M.1 c) ∧ N.2 = M.2 ∧ (∀ T, 64 - j ≤ T → T < 64 → N.1 15 T = nI (dE tgt n (goB n P H D C) 99 T)) ∧ N.1 15 S = nI (mnd (goB n P H D C) S (dE tgt n (goB n P H D C) 99) 99 v)) n (by omega) (fun x => ∃ M' : SX, x = rc (nI s) (nI r) (dwn 63 (j + 1)) M' ∧ (∀ c, c ≠ 15 → M'.1 c = M.1 c) ∧ M'.2 = M.2 ∧ ∀ T, 64 - (j + 1) ≤ T → T < 64 → M'.1 15 T = nI (dE tgt n (goB n P H D C) 99 T)) ?_ ?_ _ ⟨fun c hc => by rw [wI_nk hc]; exact u1 c hc, u2, fun T h1 h2 => by rw [wI_k, if_neg (by omega)]; exact u3 T h1 h2, by rw [wI_k, if_pos rfl]; rfl⟩
      · rintro v hv0 N ⟨w1, w2, w3, w4⟩ rc2
        have hOi := hO.nk (N := N) (fun c _ _ h15 => w1 c h15)
        have hm1 := mnd_le (goB n P H D C) S (dE tgt n (goB n P H D C) 99) 99 v
        have hm2 := mnd_pos (goB n P H D C) S (dE tgt n (goB n P H D C) 99) (c := 99) (by omega) v
        have done : ∀ x, p6_free_139 rc rc2 (nI s) (nI r) (nI S) (nI v) (nI S) (nI x) N = rc2 (nI s) (nI r) (nI S) (nI (v + 1)) (wI N 15 S (nI x)) := by
          intro x
          rw [p6_free_139, gd_of (bIn_nI hS (by decide)), nI_clamp (by omega), lt_v, lt_v, nI_1]
        refine ⟨wI N 15 S (nI (mnd (goB n P H D C) S (dE tgt n (goB n P H D C) 99) 99 (v + 1))), ?_, fun c hc => by rw [wI_nk hc]; exact w1 c hc, w2, fun T h1 h2 => by rw [wI_k, if_neg (by omega)]; exact w3 T h1 h2, by rw [wI_k, if_pos rfl]⟩
        rw [p6_free_64, hOi.1, if_neg (nI_ge hv0 (by omega)), gd_of (bIn_nI hS (by decide)), nI_clamp (by omega), w4, if_neg (nI_nle hm2 (by omega)), next_Y hOi hG hS hv0, bd_s, it01, mnd]
        by_cases g : goB n P H D C S v = true
        · have hor := or_64 hS (show v < 6 by omega)
          have hgt := or_gt (hf S v g).2
          have hdl := dE_le (tgt := tgt) hf hn (c := 99) hor
          rw [if_pos g, shl1 v (by omega), or_nI, gd_of (bIn_nI hor (by decide)), nI_clamp (by omega), w3 _ (by omega) hor, show (1 : Int32) + nI (dE tgt n (goB n P H D C) 99 (S ||| 2 ^ v)) = nI (dE tgt n (goB n P H D C) 99 (S ||| 2 ^ v) + 1) by rw [show (1 : Int32) + nI (dE tgt n (goB n P H D C) 99 (S ||| 2 ^ v)) = nI (1 + dE tgt n (goB n P H D C) 99 (S ||| 2 ^ v)) from nI_add 1 _, Nat.add_comm], p6_free_110, gd_of (bIn_nI hS (by decide)), nI_clamp (by omega), w4]
          by_cases q : dE tgt n (goB n P H D C) 99 (S ||| 2 ^ v) + 1 < mnd (goB n P H D C) S (dE tgt n (goB n P H D C) 99) 99 v
          · rw [if_neg (nI_ge q (by omega)), if_pos ⟨g, q⟩, done]
          · rw [if_pos (nI_le (by omega) (by omega)), if_neg (fun z => q z.2), done]
        · rw [if_neg g, if_neg (fun z => g z.1), p6_free_110, gd_of (bIn_nI hS (by decide)), nI_clamp (by omega), w4, if_pos (show nI (mnd (goB n P H D C) S (dE tgt n (goB n P H D C) 99) 99 v) ≤ 99 from nI_le (b := 99) hm1 (by decide)), done]
      · rintro N ⟨w1, w2, w3, w4⟩ rc2
        have hOi := hO.nk (N := N) (fun c _ _ h15 => w1 c h15)
        rw [p6_free_64, hOi.1, if_pos (Int32.le_refl _), p6_free_146, lt_v, hd2]
        refine ⟨N, rfl, w1, w2, fun T h1 h2 => ?_⟩
        by_cases c : T = S
        · rw [c, w4, dE_eq hf hn _ hS, if_neg c1]
        · exact w3 T (by omega) h2
    rw [hd1, p6_free_26, if_neg (nI_pos (by omega)), has_Y (by omega) (by omega), bd_s, it01]
    by_cases c1 : S.testBit s = true
    · rw [if_pos c1, p6_free_54]
      exact zero ((hti S hS).mpr (Or.inl c1))
    · rw [if_neg c1, hOi.2.1, has_Y (by omega) (by omega), bd_s, it01]
      by_cases c2 : P.testBit s = true
      · rw [if_pos c2]
        exact full (fun z => ((hti S hS).mp z).elim c1 (fun w => w c2))
      · rw [if_neg c2, p6_free_54]
        exact zero ((hti S hS).mpr (Or.inr c2))
  · rintro N ⟨u1, u2, u3⟩ rc
    rw [show dwn 63 64 = -1 from rfl, p6_free_26, if_pos (by decide), gd_of (by decide), z0, u3 0 (by omega) (by omega), lt_v]
    exact ⟨N, rfl, u1, u2, fun T hT => u3 T (by omega) hT⟩
theorem free_loop {n P : Nat} {H D C : Nat → Nat} (hG : OG n P H D C) {tgt r len : Nat} (hr : r < 6) (hlen : len ≤ 6) : ∀ (k f i S : Nat) (MX MY : SX), k < f → i + k = len → Rel MX MY → OX MX n P H D C → OY MY n P H D C → (∀ T, T < 64 → inP P T = true → MX.1 58 T = nI (dE tgt n (goB n P H D C) 1000000 T)) → (∀ T, T < 64 → MY.1 15 T = nI (dE tgt n (goB n P H D C) 99 T)) → S < 64 → inP P S = true → dE tgt n (goB n P H D C) 1000000 S = k → MX.1 2 r = nI len → Ag (xlp4 p5_firstOrderTo_54 f (nI r) (nI len) (nI S) (nI i) MX) (xlp4 p6_free_180 f (nI r) (nI len) (nI S) (nI i) MY) := by
  have hn := hG.1
  have hP := hG.p64
  have hf := goB_fwd n P H D C
  intro k
  induction k with
  | zero =>
    intro f i S MX MY hfk hik hR _ _ _ _ _ _ _ _
    obtain ⟨f', rfl⟩ : ∃ f', f = f' + 1 := ⟨f - 1, by omega⟩
    show Ag (p5_firstOrderTo_54 (xlp4 p5_firstOrderTo_54 f') (nI r) (nI len) (nI S) (nI i) MX) (p6_free_180 (xlp4 p6_free_180 f') (nI r) (nI len) (nI S) (nI i) MY)
    have hle : nI len ≤ nI i := nI_le (by omega) (by omega)
    rw [p5_firstOrderTo_54, p6_free_180, if_pos hle, if_pos hle]
    exact ag_no hR _
  | succ k ih =>
    intro f i S MX MY hfk hik hR hO hOY h58 h15 hS hin hd hrow
    obtain ⟨f', rfl⟩ : ∃ f', f = f' + 1 := ⟨f - 1, by omega⟩
    show Ag (p5_firstOrderTo_54 (xlp4 p5_firstOrderTo_54 f') (nI r) (nI len) (nI S) (nI i) MX) (p6_free_180 (xlp4 p6_free_180 f') (nI r) (nI len) (nI S) (nI i) MY)
    obtain ⟨v, v1, v2, v3, v4, v5⟩ := ordX hO hG (tgt := tgt) hr hlen (i := i) (by omega) hS hin (by omega) hd h58 hR.1.1 (xlp4 p5_firstOrderTo_54 f')
    have hnot : ¬ nI len ≤ nI i := nI_ge (by omega) (by omega)
    have ek : (nI len - nI i) - 1 = nI k := by rw [pk_sub (by omega), show nI (len - i) - 1 = nI (len - i - 1) from pk_sub (b := 1) (by omega), show len - i - 1 = k by omega]
    have hcc : ∀ u, u < n → (dE tgt n (goB n P H D C) 99 (S ||| 2 ^ u) = k ↔ dE tgt n (goB n P H D C) 1000000 (S ||| 2 ^ u) = k) := by
      intro u hu
      rcases dE_cc (tgt := tgt) hf hn (c := 99) (c' := 1000000) (by omega) (by omega) (or_64 hS (show u < 6 by omega)) with ⟨q1, q2⟩ | ⟨q1, q2⟩
      · omega
      · omega
    have eY : p6_free_180 (xlp4 p6_free_180 f') (nI r) (nI len) (nI S) (nI i) MY = xlp4 p6_free_180 f' (nI r) (nI len) (nI (S ||| 2 ^ v)) (nI (i + 1)) (wI MY 4 (40 * r + i) (nI v)) := by
      rw [p6_free_180, if_neg hnot]
      refine lp5_go (fun _ => nI r) (fun _ => nI len) (fun _ => nI S) (fun _ => nI i) (fun u => nI u) (fun _ => MY) v (by omega) _ (fun u hu rc => ?_) (fun rc => ?_)
      · rw [p6_free_189, next_Y hOY hG hS (by omega), bd_s, it01]
        by_cases g : goB n P H D C S u = true
        · have hor := or_64 hS (show u < 6 by omega)
          have hdl := dE_le (tgt := tgt) hf hn (c := 99) hor
          have hz : ¬ dE tgt n (goB n P H D C) 99 (S ||| 2 ^ u) = k := fun w => v4 u hu g ((hcc u (by omega)).mp w)
          rw [if_pos g, shl1 u (by omega), or_nI, gd_of (bIn_nI hor (by decide)), nI_clamp (by omega), h15 _ hor, ek, if_neg (fun w => hz ((nI_eq (by omega) (by omega)).mp w)), p6_free_221, lt_v, nI_1]
        · rw [if_neg g, p6_free_221, lt_v, nI_1]
      · have hor := or_64 hS (show v < 6 by omega)
        rw [p6_free_189, next_Y hOY hG hS v1, bd_s, it01, if_pos v2, shl1 v (by omega), or_nI, gd_of (bIn_nI hor (by decide)), nI_clamp (by omega), h15 _ hor, ek, if_pos (by rw [(hcc v v1).mpr v3]), show (40 * nI r + nI i : Int32) = nI (40 * r + i) from clampIx2, gd_of (bIn_nI (by omega) (by decide)), nI_clamp (by omega), lt_v, lt_v, lt_v, nI_1]
    rw [v5, eY]
    have hg := hf S v v2
    refine ih f' (i + 1) (S ||| 2 ^ v) _ _ (by omega) (by omega) (rel_lay _ hr (by omega) (by omega) hrow hR) hO.w3 (hOY.nk (fun c _ h4 _ => wI_nk h4)) (fun T hT hTi => ?_) (fun T hT => ?_) (or_64 hS (by omega)) (sub_inP (or2_sub (inP_sub hin) hg.1)) v3 ?_
    · rw [wI_nk (by decide)]; exact h58 T hT hTi
    · rw [wI_nk (by decide)]; exact h15 T hT
    · rw [wI_nk (by decide)]; exact hrow
theorem ag_free (a1 a2 : Int32) (MX MY : SX) (hR : Rel MX MY) : Ag (p5_free a1 a2 MX) (p6_free a1 a2 MY) := by
  obtain ⟨n, d, σ, hH⟩ := rel_here hR
  rw [p5_free, p6_free]
  refine ag_shopg hR hH a1 (fun s hs e => ?_) (by rw [if_pos rfl]) (by rw [if_pos rfl])
  subst e
  obtain ⟨hn, hd, h0, hX, hY, hV, h7, h1⟩ := hH
  rw [if_neg i10, if_neg i10, isNumber_X 1 (Or.inl rfl), isRow_Y, bd_s, bd_s, it01, it01]
  rcases six (a := a2) with ⟨q1, q2⟩ | ⟨r, hr, rfl⟩
  · rw [if_neg q1, if_neg q2]
    exact ag_no hR _
  · rw [if_pos (sixI hr).1, if_pos (sixI hr).2]
    have hG := og_of hn hd hV (w := 0) (by omega)
    have hP := hG.p64
    have hf := goB_fwd n (pawnS n σ) (σ 3) (fun v => due σ v 0) (σ 1)
    have htg : pawnS n σ &&& 2 ^ s < 64 := Nat.lt_of_le_of_lt Nat.and_le_left hP
    obtain ⟨MX1, eX1, sX1, oX1⟩ := lookAt_X hX hn hV hd (w := 0) (by omega)
    obtain ⟨MX2, eX2, cX2, jX2, aX2⟩ := measureTo_X oX1 hG (tgt := pawnS n σ &&& 2 ^ s) htg
    have oX2 := oX1.c58 cX2
    obtain ⟨MY1, eY1, sY1, oY1⟩ := layTried_Y0 h0 hY hn hV hd (w := 0) (by omega)
    obtain ⟨MY2, eY2, cY2, jY2, aY2⟩ := free_tab oY1 hG (s := s) (r := r) hs
    have oY2 := oY1.nk (N := MY2) (fun c _ _ h15 => cY2 c h15)
    have sX := sX1.trans (sameX58 cX2 jX2)
    have sY : SameY MY MY2 := sY1.trans ⟨fun k h1 h2 => cY2 k (by omega), fun j hj => by rw [cY2 0 (by omega)], by rw [jY2]⟩
    have hR2 := rel_same hR sX sY
    have hin0 := inP_0 (pawnS n σ)
    rw [pawnedSet_X hX hn hV, bd_s, shl1 s (by omega), and_nI, p5_firstOrderTo, show p2_lookAt 17 0 MX = some MX1 from eX1, bv_s, eX2, bv_s, p2_stepsFrom, gd_of (by decide), z0, aX2 0 (by omega) hin0, show p6_layTried 0 0 MY = some MY1 from eY1, bv_s, eY2]
    generalize hto : pawnS n σ &&& 2 ^ s = tgt at aX2 aY2
    rcases dE_cc (tgt := tgt) hf hn (c := 1000000) (c' := 99) (by omega) (by omega) (show 0 < 64 by omega) with ⟨q1, q2⟩ | ⟨q1, q2⟩
    · rw [q1, q2, if_pos (by decide), bd_s, if_pos rfl, bd_s, if_neg (by decide)]
      exact ag_no hR2 _
    · have aX0 := q2
      rw [← q1]
      generalize hL : dE tgt n (goB n (pawnS n σ) (σ 3) (fun v => due σ v 0) (σ 1)) 1000000 0 = L at aX0
      rw [if_neg (show ¬ (1000000 : Int32) ≤ nI L from nI_ge (b := 1000000) (by omega) (by omega)), bd_s, if_neg (nI_nm9 (by omega)), if_pos (show nI L ≤ 98 from nI_le (b := 98) (by omega) (by decide)), begin_X (b := 1) (w := 40) (Or.inl rfl) hr (by omega) (by omega) hR2.1.1, bv_s, makeRow_Y hr, bv_s]
      have hloop := free_loop hG (tgt := tgt) hr aX0 L FU 0 0 (mkX MX2 r L) (mkY MY2 r L) (by unfold FU; omega) (by omega) (rel_mk hr (by omega) hR2) (mkX_o oX2) (mkY_o oY2) (fun T hT hTi => by rw [mkX_nk (by decide) (by decide)]; exact aX2 T hT hTi) (fun T hT => by rw [mkY_nk (by decide) (by decide)]; exact aY2 T hT) (by omega) hin0 hL (by
        unfold mkX
        rw [filled_1, if_neg (by decide), wI_k, if_pos rfl])
      obtain ⟨rr, A, B, h1, h2, h3⟩ := hloop
      refine ⟨rr, A, B, ?_, h2, h3⟩
      rw [show xlp4 p5_firstOrderTo_54 FU (nI r) (nI L) 0 0 (filled (wI MX2 (1 + 1) r (nI L)) (1 + 2) (40 * r) L 0) = some (rr, A) from h1, bd_s]
