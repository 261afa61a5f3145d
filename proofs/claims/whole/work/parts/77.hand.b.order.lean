theorem OX.w3 {M : SX} {n P : Nat} {H D C : Nat → Nat} {j : Nat} {x : Int32} (h : OX M n P H D C) : OX (wI M 3 j x) n P H D C := by
  unfold OX at *
  rw [wI_nk (by decide), wI_nk (by decide), wI_nk (by decide), wI_nk (by decide)]
  exact h
theorem OX.nk {M N : SX} {n P : Nat} {H D C : Nat → Nat} (h : OX M n P H D C) (hc : ∀ c, 54 ≤ c → c < 59 → N.1 c = M.1 c) : OX N n P H D C := by
  unfold OX at *
  rw [hc 54 (by omega) (by omega), hc 55 (by omega) (by omega), hc 56 (by omega) (by omega), hc 57 (by omega) (by omega)]
  exact h
theorem OY.nk {M N : SX} {n P : Nat} {H D C : Nat → Nat} (h : OY M n P H D C) (hc : ∀ c, c ≠ 3 → c ≠ 4 → c ≠ 15 → N.1 c = M.1 c) : OY N n P H D C := by
  unfold OY at *
  rw [hc 0 (by omega) (by omega) (by omega), hc 1 (by omega) (by omega) (by omega), hc 11 (by omega) (by omega) (by omega), hc 12 (by omega) (by omega) (by omega)]
  exact h
section Ol
variable {n P : Nat} {H D C : Nat → Nat}
/-- the object's step -/
theorem ordX {MX : SX} (hO : OX MX n P H D C) (hG : OG n P H D C) {tgt r len i S k : Nat} (hr : r < 6) (hlen : len ≤ 6) (hi : i < len) (hS : S < 64) (hin : inP P S = true) (hk : k + 1 ≤ 6) (hd : dE tgt n (goB n P H D C) 1000000 S = k + 1) (h58 : ∀ T, T < 64 → inP P T = true → MX.1 58 T = nI (dE tgt n (goB n P H D C) 1000000 T)) (hw : MX.1 1 0 = nI 40) (rc : Int32 → Int32 → Int32 → Int32 → SX → Option (Int32 × SX)) : ∃ v, v < n ∧ goB n P H D C S v = true ∧ dE tgt n (goB n P H D C) 1000000 (S ||| 2 ^ v) = k ∧ (∀ u, u < v → goB n P H D C S u = true → ¬ dE tgt n (goB n P H D C) 1000000 (S ||| 2 ^ u) = k) ∧ p5_firstOrderTo_54 rc (nI r) (nI len) (nI S) (nI i) MX = rc (nI r) (nI len) (nI (S ||| 2 ^ v)) (nI (i + 1)) (wI MX 3 (40 * r + i) (nI v)) := by
  have hn := hG.1
  have hf := goB_fwd n P H D C
  obtain ⟨⟨v0, a1, a2, a3⟩, hiff⟩ := dE_go (tgt := tgt) hf hn hS (c := 1000000) (k := k) (by omega) hd
  have hex : ∃ v, v < n ∧ (goB n P H D C S v && decide (dE tgt n (goB n P H D C) 1000000 (S ||| 2 ^ v) < dE tgt n (goB n P H D C) 1000000 S)) = true := ⟨v0, a1, by rw [a2, hd, decide_eq_true a3]; rfl⟩
  have hdd : ∀ v, v < n → goB n P H D C S v = true → MX.1 58 (S ||| 2 ^ v) = nI (dE tgt n (goB n P H D C) 1000000 (S ||| 2 ^ v)) ∧ dE tgt n (goB n P H D C) 1000000 (S ||| 2 ^ v) ≤ 1000000 := by
    intro v hv0 g
    have hg := hf S v g
    have hor := or_64 hS (show v < 6 by omega)
    exact ⟨h58 _ hor (sub_inP (or2_sub (inP_sub hin) hg.1)), dE_le hf hn hor⟩
  have e := firstNearer_X hO hG hS (dd := dE tgt n (goB n P H D C) 1000000) ⟨h58 S hS hin, dE_le hf hn hS⟩ hdd hex
  obtain ⟨f1, f2, f3⟩ := fst_lt hex
  generalize fst_ n (fun v => goB n P H D C S v && decide (dE tgt n (goB n P H D C) 1000000 (S ||| 2 ^ v) < dE tgt n (goB n P H D C) 1000000 S)) = v at e f1 f2 f3
  rw [Bool.and_eq_true] at f2
  have f2d := of_decide_eq_true f2.2
  rw [hd] at f2d
  refine ⟨v, f1, f2.1, (hiff v f1 f2.1).mp f2d, fun u hu gu z => ?_, ?_⟩
  · have := f3 u hu
    rw [gu, hd, Bool.true_and, decide_eq_false_iff_not] at this
    exact this ((hiff u (by omega) gu).mpr z)
  · rw [p5_firstOrderTo_54, if_neg (nI_ge hi (by omega)), e, bd_s, setValue_X hw (by omega), bv_s, lt_v, lt_v, shl1 v (by omega), or_nI, nI_1]
theorem order_loop (hG : OG n P H D C) {r len : Nat} (hr : r < 6) (hlen : len ≤ 6) : ∀ (k f i S : Nat) (MX MY : SX), k < f → i + k = len → Rel MX MY → OX MX n P H D C → OY MY n P H D C → (∀ T, T < 64 → inP P T = true → MX.1 58 T = nI (dE P n (goB n P H D C) 1000000 T)) → (∀ T, T < 64 → MY.2 14 T = lN (onE P n (goB n P H D C) T)) → S < 64 → inP P S = true → dE P n (goB n P H D C) 1000000 S = k → MX.1 2 r = nI len → Ag (xlp4 p5_firstOrderTo_54 f (nI r) (nI len) (nI S) (nI i) MX) (xlp4 p6_order_62 f (nI r) (nI len) (nI S) (nI i) MY) := by
  have hn := hG.1
  have hP := hG.p64
  have hf := goB_fwd n P H D C
  intro k
  induction k with
  | zero =>
    intro f i S MX MY hfk hik hR _ _ _ _ _ _ _ _
    obtain ⟨f', rfl⟩ : ∃ f', f = f' + 1 := ⟨f - 1, by omega⟩
    show Ag (p5_firstOrderTo_54 (xlp4 p5_firstOrderTo_54 f') (nI r) (nI len) (nI S) (nI i) MX) (p6_order_62 (xlp4 p6_order_62 f') (nI r) (nI len) (nI S) (nI i) MY)
    have hle : nI len ≤ nI i := nI_le (by omega) (by omega)
    rw [p5_firstOrderTo_54, p6_order_62, if_pos hle, if_pos hle]
    exact ag_no hR _
  | succ k ih =>
    intro f i S MX MY hfk hik hR hO hOY h58 h14 hS hin hd hrow
    obtain ⟨f', rfl⟩ : ∃ f', f = f' + 1 := ⟨f - 1, by omega⟩
    show Ag (p5_firstOrderTo_54 (xlp4 p5_firstOrderTo_54 f') (nI r) (nI len) (nI S) (nI i) MX) (p6_order_62 (xlp4 p6_order_62 f') (nI r) (nI len) (nI S) (nI i) MY)
    obtain ⟨v, v1, v2, v3, v4, v5⟩ := ordX hO hG (tgt := P) hr hlen (i := i) (by omega) hS hin (by omega) hd h58 hR.1.1 (xlp4 p5_firstOrderTo_54 f')
    have hnot : ¬ nI len ≤ nI i := nI_ge (by omega) (by omega)
    have dS : dE P n (goB n P H D C) 1000000 S = pc P - pc S := by
      rcases dE_on hf hP hn (c := 1000000) (by omega) 64 S hS (by omega) hin with h | h
      · rw [hd] at h
        omega
      · exact h.2
    -- who may go on, as the reference sees it
    have hon : ∀ u, u < n → goB n P H D C S u = true → (¬ onE P n (goB n P H D C) (S ||| 2 ^ u) = 0 ↔ dE P n (goB n P H D C) 1000000 (S ||| 2 ^ u) = k) := by
      intro u hu gu
      have hg := hf S u gu
      have hor := or_64 hS (show u < 6 by omega)
      have hp := pc_or S hS u (by omega) hg.2
      rcases dE_on hf hP hn (c := 1000000) (by omega) 64 (S ||| 2 ^ u) hor (by omega) (sub_inP (or2_sub (inP_sub hin) hg.1)) with ⟨q1, q2⟩ | ⟨q1, q2⟩
      · rw [q2]
        exact ⟨fun z => absurd q1 z, fun z => by omega⟩
      · rw [q2, hp]
        exact ⟨fun _ => by omega, fun _ => q1⟩
    have eY : p6_order_62 (xlp4 p6_order_62 f') (nI r) (nI len) (nI S) (nI i) MY = xlp4 p6_order_62 f' (nI r) (nI len) (nI (S ||| 2 ^ v)) (nI (i + 1)) (wI MY 4 (40 * r + i) (nI v)) := by
      rw [p6_order_62, if_neg hnot]
      refine lp5_go (fun _ => nI r) (fun _ => nI len) (fun _ => nI S) (fun _ => nI i) (fun u => nI u) (fun _ => MY) v (by omega) _ (fun u hu rc => ?_) (fun rc => ?_)
      · rw [p6_order_71, next_Y hOY hG hS (by omega), bd_s, it01]
        by_cases g : goB n P H D C S u = true
        · have hor := or_64 hS (show u < 6 by omega)
          have hz : onE P n (goB n P H D C) (S ||| 2 ^ u) = 0 := Classical.byContradiction (fun w => v4 u hu g ((hon u (by omega) g).mp w))
          rw [if_pos g, shl1 u (by omega), or_nI, gd_of (bIn_nI hor (by decide)), nI_clamp (by omega), h14 _ hor, hz, if_pos (show lN 0 = 0 from rfl), p6_order_97, lt_v, nI_1]
        · rw [if_neg g, p6_order_97, lt_v, nI_1]
      · have hor := or_64 hS (show v < 6 by omega)
        have hnz := (hon v v1 v2).mpr v3
        have hle := onE_le hf hn hor
        have hl0 : ¬ lN (onE P n (goB n P H D C) (S ||| 2 ^ v)) = 0 := (nzl (Nat.pos_of_ne_zero hnz) (by omega)).2
        rw [p6_order_71, next_Y hOY hG hS v1, bd_s, it01, if_pos v2, shl1 v (by omega), or_nI, gd_of (bIn_nI hor (by decide)), nI_clamp (by omega), h14 _ hor, if_neg hl0, show (40 * nI r + nI i : Int32) = nI (40 * r + i) from clampIx2, gd_of (bIn_nI (by omega) (by decide)), nI_clamp (by omega), lt_v, lt_v, lt_v, nI_1]
    rw [v5, eY]
    have hg := hf S v v2
    refine ih f' (i + 1) (S ||| 2 ^ v) _ _ (by omega) (by omega) (rel_lay _ hr (by omega) (by omega) hrow hR) hO.w3 (hOY.nk (fun c _ h4 _ => wI_nk h4)) (fun T hT hTi => ?_) (fun T hT => ?_) (or_64 hS (by omega)) (sub_inP (or2_sub (inP_sub hin) hg.1)) v3 ?_
    · rw [wI_nk (by decide)]; exact h58 T hT hTi
    · rw [wI_2]; exact h14 T hT
    · rw [wI_nk (by decide)]; exact hrow
end Ol
theorem mkX_o {M : SX} {r len n P : Nat} {H D C : Nat → Nat} (h : OX M n P H D C) : OX (mkX M r len) n P H D C := h.nk (fun c h1 h2 => mkX_nk (by omega) (by omega))
theorem mkY_o {M : SX} {r len n P : Nat} {H D C : Nat → Nat} (h : OY M n P H D C) : OY (mkY M r len) n P H D C := h.nk (fun c h3 h4 _ => mkY_nk h3 h4)
theorem pc_0 : pc 0 = 0 := rfl
theorem inP_0 (P : Nat) : inP P 0 = true := by unfold inP; rw [Nat.zero_and]; rfl
theorem ag_order (a1 : Int32) (MX MY : SX) (hR : Rel MX MY) : Ag (p5_order a1 MX) (p6_order a1 MY) := by
  obtain ⟨n, d, σ, hn, hd, h0, hX, hY, hV, h7, h1⟩ := rel_here hR
  rw [p5_order, p6_order, isNumber_X 1 (Or.inl rfl), isRow_Y, bd_s, bd_s, it01, it01]
  rcases six (a := a1) with ⟨q1, q2⟩ | ⟨r, hr, rfl⟩
  · rw [if_neg q1, if_neg q2]
    exact ag_no hR _
  · rw [if_pos (sixI hr).1, if_pos (sixI hr).2, hX.1, h0]
    by_cases hn0 : n = 0
    · subst hn0
      rw [if_pos nI_0, if_pos nI_0]
      exact ag_no hR _
    · have hz0 := nI_ne0 (n := n) (by omega) (by omega)
      have hG := og_of hn hd hV (w := 0) (by omega)
      have hP := hG.p64
      have hf := goB_fwd n (pawnS n σ) (σ 3) (fun v => due σ v 0) (σ 1)
      obtain ⟨MX1, eX1, sX1, oX1⟩ := lookAt_X hX hn hV hd (w := 0) (by omega)
      obtain ⟨MX2, eX2, cX2, jX2, aX2⟩ := measureTo_X oX1 hG (tgt := pawnS n σ) hP
      have oX2 := oX1.c58 cX2
      obtain ⟨MY1, eY1, sY1, oY1⟩ := layTried_Y0 h0 hY hn hV hd (w := 0) (by omega)
      obtain ⟨MY2, eY2, cY2, jY2, aY2⟩ := layOn_Y oY1 hG
      have oY2 := oY1.same1 cY2
      have sX := sX1.trans (sameX58 cX2 jX2)
      have sY := sY1.trans (sameY14 cY2 jY2)
      have hR2 := rel_same hR sX sY
      have hin0 := inP_0 (pawnS n σ)
      have hle0 := onE_le hf hn (S := 0) (by omega)
      rw [if_neg hz0, if_neg hz0, pawnedSet_X hX hn hV, bd_s, p5_firstOrderTo, show p2_lookAt 17 0 MX = some MX1 from eX1, bv_s, eX2, bv_s, p2_stepsFrom, gd_of (by decide), z0, aX2 0 (by omega) hin0, show p6_layTried 0 0 MY = some MY1 from eY1, bv_s, eY2, bv_s, gd_of (by decide), aY2 0 (by omega), oY2.2.1]
      rcases dE_on hf hP hn (c := 1000000) (by omega) 64 0 (by omega) (by omega) hin0 with ⟨q1, q2⟩ | ⟨q1, q2⟩
      · rw [q2, q1, if_pos (by decide), bd_s, if_pos rfl, bd_s, if_pos (show lN 0 = 0 from rfl)]
        exact ag_no hR2 _
      · have hpc := pc_le (pawnS n σ)
        rw [pc_0, Nat.sub_zero] at q2
        have hl0 := (nzl (Nat.pos_of_ne_zero q1) (by omega)).2
        rw [q2, if_neg (show ¬ (1000000 : Int32) ≤ nI (pc (pawnS n σ)) from nI_ge (b := 1000000) (by omega) (by omega)), bd_s, if_neg (nI_nm9 (by omega)), if_neg hl0, bits_Y hP, bd_s, begin_X (b := 1) (w := 40) (Or.inl rfl) hr (by omega) (by omega) hR2.1.1, bv_s, makeRow_Y hr, bv_s]
        have hloop := order_loop hG hr hpc (pc (pawnS n σ)) FU 0 0 (mkX MX2 r (pc (pawnS n σ))) (mkY MY2 r (pc (pawnS n σ))) (by unfold FU; omega) (by omega) (rel_mk hr (by omega) hR2) (mkX_o oX2) (mkY_o oY2) (fun T hT hTi => by rw [mkX_nk (by decide) (by decide)]; exact aX2 T hT hTi) (fun T hT => aY2 T hT) (by omega) hin0 q2 (by
          unfold mkX
          rw [filled_1, if_neg (by decide), wI_k, if_pos rfl])
        obtain ⟨rr, A, B, h1, h2, h3⟩ := hloop
        refine ⟨rr, A, B, ?_, h2, h3⟩
        rw [show xlp4 p5_firstOrderTo_54 FU (nI r) (nI (pc (pawnS n σ))) 0 0 (filled (wI MX2 (1 + 1) r (nI (pc (pawnS n σ)))) (1 + 2) (40 * r) (pc (pawnS n σ)) 0) = some (rr, A) from h1, bd_s]
