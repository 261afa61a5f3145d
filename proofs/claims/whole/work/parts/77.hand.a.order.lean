/-! orders written down -/
theorem jminN {a b : Nat} (ha : a < 2 ^ 31) (hb : b < 2 ^ 31) : jmin (nI a) (nI b) = nI (if b < a then b else a) := by
  unfold jmin
  by_cases c : b < a
  · rw [if_pos ((nI_ltI hb ha).mpr c), if_pos c]
  · rw [if_neg (fun z => c ((nI_ltI hb ha).mp z)), if_neg c]
theorem stepsBy_X {M : SX} {n P : Nat} {H D C : Nat → Nat} (hO : OX M n P H D C) (hG : OG n P H D C) {S : Nat} (hS : S < 64) {dd : Nat → Nat} (hdd : ∀ v, v < n → goB n P H D C S v = true → M.1 58 (S ||| 2 ^ v) = nI (dd (S ||| 2 ^ v)) ∧ dd (S ||| 2 ^ v) ≤ 1000000) : p2_stepsBy (nI S) (nI (nextS n P H D C S)) M = some (nI (mnd (goB n P H D C) S dd 1000000 n), M) := by
  have hn := hG.1
  have hnx := nextS_lt (P := P) (H := H) (D := D) (C := C) hn S
  rw [p2_stepsBy]
  refine lp4_go (fun _ => nI S) (fun _ => nI (nextS n P H D C S)) (fun v => nI (mnd (goB n P H D C) S dd 1000000 v)) (fun v => nI v) (fun _ => M) n (by omega) _ (fun v hv0 rc => ?_) (fun rc => ?_)
  · have hm := mnd_le (goB n P H D C) S dd 1000000 v
    rw [p2_stepsBy_6, hO.1, if_neg (nI_ge hv0 (by omega)), isIn_X (by omega) (by omega), bd_s, it01, nextS_tb hv0, mnd]
    by_cases g : goB n P H D C S v = true
    · have hor := or_64 hS (show v < 6 by omega)
      have hd := hdd v hv0 g
      have h2 := hd.2
      rw [if_pos g, shl1 v (by omega), or_nI, gd_of (bIn_nI hor (by decide)), nI_clamp (by omega), hd.1, nI_1, jminN (by omega) (by omega), lt_v, p2_stepsBy_42, lt_v, nI_1]
      by_cases q : dd (S ||| 2 ^ v) + 1 < mnd (goB n P H D C) S dd 1000000 v
      · rw [if_pos q, if_pos ⟨g, q⟩]
      · rw [if_neg q, if_neg (fun z => q z.2)]
    · rw [if_neg g, if_neg (fun z => g z.1), p2_stepsBy_42, lt_v, nI_1]
  · rw [p2_stepsBy_6, hO.1, if_pos (Int32.le_refl _)]
theorem dE_le {P tgt n : Nat} {go : Nat → Nat → Bool} (hf : Fwd P go) (hn : n ≤ 6) {c : Nat} {S : Nat} (hS : S < 64) : dE tgt n go c S ≤ c := by
  rw [dE_eq hf hn c hS]
  split
  · exact Nat.zero_le c
  · exact mnd_le _ _ _ _ _
theorem measureTo_X {M : SX} {n P : Nat} {H D C : Nat → Nat} (hO : OX M n P H D C) (hG : OG n P H D C) {tgt : Nat} (ht : tgt < 64) : ∃ M' : SX, p2_measureTo (nI tgt) M = some M' ∧ (∀ c, c ≠ 58 → M'.1 c = M.1 c) ∧ M'.2 = M.2 ∧ ∀ T, T < 64 → inP P T = true → M'.1 58 T = nI (dE tgt n (goB n P H D C) 1000000 T) := by
  have hn := hG.1
  have hP := hG.p64
  have hf := goB_fwd n P H D C
  rw [p2_measureTo, hO.2.1, lt_v]
  refine lp2_inv (fun _ => nI tgt) (fun j => dwn P j) (fun j N => (∀ c, c ≠ 58 → N.1 c = M.1 c) ∧ N.2 = M.2 ∧ ∀ T, P + 1 - j ≤ T → T < 64 → inP P T = true → N.1 58 T = nI (dE tgt n (goB n P H D C) 1000000 T)) (P + 1) (by omega) (fun x => ∃ M' : SX, x = some M' ∧ (∀ c, c ≠ 58 → M'.1 c = M.1 c) ∧ M'.2 = M.2 ∧ ∀ T, T < 64 → inP P T = true → M'.1 58 T = nI (dE tgt n (goB n P H D C) 1000000 T)) ?_ ?_ M ⟨fun _ _ => rfl, rfl, fun T h1 h2 h3 => by have := (inP_1 P hP T h2 h3).1; omega⟩
  · rintro j hj N ⟨u1, u2, u3⟩ rc
    have hOi := hO.c58 u1
    obtain ⟨S, hSj⟩ : ∃ S, S = P - j := ⟨_, rfl⟩
    have hS : S < 64 := by omega
    have hd1 : dwn P j = nI S := by rw [hSj]; exact dwn_le (by omega)
    have hd2 : nI S + (-1) = dwn P (j + 1) := by rw [hSj]; exact dwn_s (by omega)
    have fin : ∀ x, (inP P S = true → x = dE tgt n (goB n P H D C) 1000000 S) → ∀ T, P + 1 - (j + 1) ≤ T → T < 64 → inP P T = true → (wI N 58 S (nI x)).1 58 T = nI (dE tgt n (goB n P H D C) 1000000 T) := by
      intro x hx T h1 h2 h3
      rw [wI_k]
      by_cases c : T = S
      · rw [if_pos c, c, hx (c ▸ h3)]
      · rw [if_neg c]; exact u3 T (by omega) h2 h3
    have hdl : dif tgt S < 64 := dif_lt ht
    have hdl2 : dif S P < 64 := dif_lt hS
    rw [hd1, p2_measureTo_5, if_neg (nI_pos (by omega)), dif_I tgt ht S hS]
    by_cases c1 : inP S tgt = true
    · refine ⟨wI N 58 S (nI 0), ?_, fun c hc => by rw [wI_nk hc]; exact u1 c hc, u2, fin 0 (fun _ => by rw [dE_eq hf hn _ hS, if_pos c1])⟩
      rw [if_pos (by rw [(inP_4 S hS tgt ht).mpr c1]; rfl), gd_of (bIn_nI hS (by decide)), nI_clamp (by omega), lt_v, p2_measureTo_54, lt_v, hd2]
      rfl
    · rw [if_neg (show ¬ nI (dif tgt S) = 0 from fun z => c1 ((inP_4 S hS tgt ht).mp ((nI_eq (b := 0) (by omega) (by decide)).mp z))), hOi.2.1, dif_I S hS P hP]
      by_cases c2 : inP P S = true
      · have hdd : ∀ v, v < n → goB n P H D C S v = true → N.1 58 (S ||| 2 ^ v) = nI (dE tgt n (goB n P H D C) 1000000 (S ||| 2 ^ v)) ∧ dE tgt n (goB n P H D C) 1000000 (S ||| 2 ^ v) ≤ 1000000 := by
          intro v hv0 g
          have hg := hf S v g
          have hor := or_64 hS (show v < 6 by omega)
          have hgt := or_gt hg.2
          exact ⟨u3 _ (by omega) hor (sub_inP (or2_sub (inP_sub c2) hg.1)), dE_le hf hn hor⟩
        refine ⟨wI N 58 S (nI (mnd (goB n P H D C) S (dE tgt n (goB n P H D C) 1000000) 1000000 n)), ?_, fun c hc => by rw [wI_nk hc]; exact u1 c hc, u2, fin _ (fun _ => by rw [dE_eq hf hn _ hS, if_neg c1])⟩
        rw [if_pos (by rw [(inP_4 P hP S hS).mpr c2]; rfl), nextAfter_X hOi hG hS, bd_s, stepsBy_X hOi hG hS hdd, bd_s, gd_of (bIn_nI hS (by decide)), nI_clamp (by omega), lt_v, p2_measureTo_54, lt_v, hd2]
      · refine ⟨N, ?_, u1, u2, fun T h1 h2 h3 => ?_⟩
        · rw [if_neg (show ¬ nI (dif S P) = 0 from fun z => c2 ((inP_4 P hP S hS).mp ((nI_eq (b := 0) (by omega) (by decide)).mp z))), p2_measureTo_54, lt_v, hd2]
        · by_cases c : T = S
          · exact absurd (c ▸ h3) c2
          · exact u3 T (by omega) h2 h3
  · rintro N ⟨u1, u2, u3⟩ rc
    rw [show dwn P (P + 1) = -1 from if_neg (by omega), p2_measureTo_5, if_pos (by decide)]
    exact ⟨N, rfl, u1, u2, fun T h1 h2 => u3 T (by omega) h1 h2⟩
/-- which goes first -/
def fst_ (n : Nat) (p : Nat → Bool) : Nat := fa_first p n
theorem fst_lt {n : Nat} {p : Nat → Bool} (h : ∃ v, v < n ∧ p v = true) : fst_ n p < n ∧ p (fst_ n p) = true ∧ ∀ v, v < fst_ n p → p v = false := by
  obtain ⟨v, h1, h2⟩ := h
  have hlt : fst_ n p < n := by
    refine Nat.lt_of_le_of_ne (fa_first_le p n) (fun z => ?_)
    have := fa_first_no p n v (by show v < fst_ n p; rw [z]; exact h1)
    rw [h2] at this
    exact absurd this (by decide)
  exact ⟨hlt, fa_first_yes p n hlt, fun v hv0 => fa_first_no p n v hv0⟩
theorem firstNearer_X {M : SX} {n P : Nat} {H D C : Nat → Nat} (hO : OX M n P H D C) (hG : OG n P H D C) {S : Nat} (hS : S < 64) {dd : Nat → Nat} (hSd : M.1 58 S = nI (dd S) ∧ dd S ≤ 1000000) (hdd : ∀ v, v < n → goB n P H D C S v = true → M.1 58 (S ||| 2 ^ v) = nI (dd (S ||| 2 ^ v)) ∧ dd (S ||| 2 ^ v) ≤ 1000000) (hex : ∃ v, v < n ∧ (goB n P H D C S v && decide (dd (S ||| 2 ^ v) < dd S)) = true) : p2_firstNearer (nI S) M = some (nI (fst_ n (fun v => goB n P H D C S v && decide (dd (S ||| 2 ^ v) < dd S))), M) := by
  have hn := hG.1
  have hnx := nextS_lt (P := P) (H := H) (D := D) (C := C) hn S
  obtain ⟨f1, f2, f3⟩ := fst_lt hex
  generalize fst_ n (fun v => goB n P H D C S v && decide (dd (S ||| 2 ^ v) < dd S)) = k at f1 f2 f3
  have st : ∀ v, v < n → ∀ rc, p2_firstNearer_8 rc (nI S) (nI (nextS n P H D C S)) (nI v) M = if (goB n P H D C S v && decide (dd (S ||| 2 ^ v) < dd S)) = true then some (nI v, M) else rc (nI S) (nI (nextS n P H D C S)) (nI (v + 1)) M := by
    intro v hv0 rc
    rw [p2_firstNearer_8, hO.1, if_neg (nI_ge hv0 (by omega)), isIn_X (by omega) (by omega), bd_s, it01, nextS_tb hv0]
    by_cases g : goB n P H D C S v = true
    · have hor := or_64 hS (show v < 6 by omega)
      have hd := hdd v hv0 g
      have h2 := hd.2
      have h3 := hSd.2
      rw [if_pos g, shl1 v (by omega), or_nI, gd_of (bIn_nI hor (by decide)), gd_of (bIn_nI hS (by decide)), nI_clamp (by omega), nI_clamp (by omega), hd.1, hSd.1, g, Bool.true_and]
      by_cases q : dd (S ||| 2 ^ v) < dd S
      · rw [if_neg (nI_ge q (by omega)), if_pos (decide_eq_true q)]
      · rw [if_pos (nI_le (by omega) (by omega)), if_neg (fun z => q (of_decide_eq_true z)), p2_firstNearer_45, lt_v, nI_1]
    · rw [if_neg g, p2_firstNearer_45, lt_v, nI_1, if_neg (fun z => g (by rw [Bool.and_eq_true] at z; exact z.1))]
  rw [p2_firstNearer, nextAfter_X hO hG hS, bd_s]
  refine lp3_go (fun _ => nI S) (fun _ => nI (nextS n P H D C S)) (fun v => nI v) (fun _ => M) k (by omega) _ (fun v hv0 rc => ?_) (fun rc => ?_)
  · rw [st v (by omega) rc, if_neg (by rw [f3 v hv0]; decide)]
  · rw [st k f1 rc, if_pos f2]
