/-! can all; till when -/
theorem canAll_Y {M : SX} {n P : Nat} {H D C : Nat → Nat} (hO : OY M n P H D C) (hG : OG n P H D C) : ∃ M' : SX, p6_canAll M = some (if wayN n P H D C P = 0 then 0 else 1, M') ∧ M'.1 = M.1 ∧ (∀ c, c ≠ 13 → M'.2 c = M.2 c) := by
  obtain ⟨M1, e1, c1, j1, a1⟩ := layWays_Y hO hG
  have hP := hG.p64
  have hle := way_le hG hP
  refine ⟨M1, ?_, c1, j1⟩
  rw [p6_canAll, e1, bv_s, (hO.same1 c1).2.1, gd_of (bIn_nI hP (by decide)), nI_clamp (by omega), a1 _ hP]
  by_cases z : wayN n P H D C P = 0
  · rw [if_pos z, z, if_pos (by decide)]
  · rw [if_neg z, if_neg (show ¬ lN (wayN n P H D C P) ≤ 0 from fun y => absurd ((pk_lLE (b := 0) (by omega) (by decide)).mp y) (by omega))]
def tlJ (n : Nat) (σ : LV) : Nat := fa_first (fun j => !decide (wayN n (pawnS n σ) (σ 3) (fun v => due σ v (20 - j)) (σ 1) (pawnS n σ) = 0)) 21
def dwn (k j : Nat) : Int32 := if j ≤ k then nI (k - j) else -1
theorem dwn_s {k j : Nat} (h : j ≤ k) : nI (k - j) + (-1) = dwn k (j + 1) := by
  unfold dwn
  by_cases e : j + 1 ≤ k
  · rw [if_pos e, show k - j = (k - (j + 1)) + 1 by omega, nI_m1]
  · rw [if_neg e, show k - j = 0 by omega]
    rfl
theorem dwn_le {k j : Nat} (h : j ≤ k) : dwn k j = nI (k - j) := if_pos h
theorem ag_till (MX MY : SX) (hR : Rel MX MY) : Ag (p5_till MX) (p6_till MY) := by
  obtain ⟨n, d, σ, hn, hd, h0, hX, hY, hV, h7, h1⟩ := rel_here hR
  rw [p5_till, p6_till, hX.1, h0]
  by_cases hn0 : n = 0
  · subst hn0
    rw [if_pos nI_0, if_pos nI_0]
    exact ag_no hR _
  · have hz0 := nI_ne0 (n := n) (by omega) (by omega)
    rw [if_neg hz0, if_neg hz0]
    have hJ : tlJ n σ ≤ 21 := fa_first_le _ 21
    have hno : ∀ j, j < tlJ n σ → wayN n (pawnS n σ) (σ 3) (fun v => due σ v (20 - j)) (σ 1) (pawnS n σ) = 0 := fun j hj => by
      have := fa_first_no (fun j => !decide (wayN n (pawnS n σ) (σ 3) (fun v => due σ v (20 - j)) (σ 1) (pawnS n σ) = 0)) 21 j hj
      simpa using this
    have hyes : tlJ n σ < 21 → ¬ wayN n (pawnS n σ) (σ 3) (fun v => due σ v (20 - tlJ n σ)) (σ 1) (pawnS n σ) = 0 := fun h => by
      have := fa_first_yes (fun j => !decide (wayN n (pawnS n σ) (σ 3) (fun v => due σ v (20 - j)) (σ 1) (pawnS n σ) = 0)) 21 h
      unfold tlJ
      simpa using this
    generalize tlJ n σ = J at hJ hno hyes
    have stX : ∀ j, j ≤ 20 → ∀ N, SameX MX N → ∀ rc, ∃ N', p5_till_16 rc (nI (20 - j)) N = (if wayN n (pawnS n σ) (σ 3) (fun v => due σ v (20 - j)) (σ 1) (pawnS n σ) = 0 then rc (dwn 20 (j + 1)) N' else some (nI (20 - j), N')) ∧ SameX MX N' := by
      intro j hj N hS rc
      have hG := og_of hn hd hV (w := 20 - j) (by omega)
      have hP := hG.p64
      have hle := way_le hG hP
      obtain ⟨N1, e1, s1, o1⟩ := lookAt_X (hX.same hS) hn hV hd (w := 20 - j) (by omega)
      obtain ⟨N2, e2, c2, j2, a2⟩ := countFrom_X o1 hG (a0 := 0) (Nat.zero_le _)
      have s2 := (hS.trans s1).trans (sameX58 c2 j2)
      refine ⟨N2, ?_, s2⟩
      rw [p5_till_16, if_neg (nI_pos (by omega)), e1, bv_s, show p2_countFrom 0 N1 = some N2 from e2, bv_s, pawnedSet_X (hX.same s2) hn hV, bd_s, p2_countOf, gd_of (bIn_nI hP (by decide)), nI_clamp (by omega), a2 _ hP, bd_s, show pushS (goB n (pawnS n σ) (σ 3) (fun v => due σ v (20 - j)) (σ 1)) n 0 (dlt 0) (pawnS n σ + 1 - 0) (pawnS n σ) = wayN n (pawnS n σ) (σ 3) (fun v => due σ v (20 - j)) (σ 1) (pawnS n σ) from rfl]
      by_cases z : wayN n (pawnS n σ) (σ 3) (fun v => due σ v (20 - j)) (σ 1) (pawnS n σ) = 0
      · rw [if_pos (by rw [z]; decide), if_pos z, lt_v, dwn_s hj]
      · rw [if_neg (nI_nle (by omega) (by omega)), if_neg z]
    have stY : ∀ j, j ≤ 20 → ∀ N, SameY MY N → ∀ rc, ∃ N', p6_till_13 rc (nI (20 - j)) N = (if wayN n (pawnS n σ) (σ 3) (fun v => due σ v (20 - j)) (σ 1) (pawnS n σ) = 0 then rc (dwn 20 (j + 1)) N' else some (nI (20 - j), N')) ∧ SameY MY N' := by
      intro j hj N hS rc
      have hG := og_of hn hd hV (w := 20 - j) (by omega)
      have e0 : N.1 0 1 = nI n := by rw [hS.2.1 1 (by omega)]; exact h0
      obtain ⟨N1, e1, s1, o1⟩ := layTried_Y0 e0 (hY.same hS) hn hV hd (w := 20 - j) (by omega)
      obtain ⟨N2, e2, c2, j2⟩ := canAll_Y o1 hG
      refine ⟨N2, ?_, (hS.trans s1).trans (sameY13 c2 j2)⟩
      rw [p6_till_13, if_neg (nI_pos (by omega)), e1, bv_s, e2, bd_s]
      by_cases z : wayN n (pawnS n σ) (σ 3) (fun v => due σ v (20 - j)) (σ 1) (pawnS n σ) = 0
      · rw [if_pos z, if_pos rfl, if_pos z, lt_v, dwn_s hj]
      · rw [if_neg z, if_neg i10, if_neg z]
    have eX : ∃ M' : SX, xlp1 p5_till_16 FU 20 MX = some (if J < 21 then nI (20 - J) else -9, M') ∧ SameX MX M' := by
      refine lp1_inv (fun j => dwn 20 j) (fun j N => SameX MX N) J (by omega) (fun x => ∃ M' : SX, x = some (if J < 21 then nI (20 - J) else -9, M') ∧ SameX MX M') ?_ ?_ MX (SameX.refl _)
      · intro j hj N hS rc
        obtain ⟨N', e, s⟩ := stX j (by omega) N hS rc
        rw [if_pos (hno j hj)] at e
        exact ⟨N', by rw [dwn_le (by omega)]; exact e, s⟩
      · intro N hS rc
        by_cases c : J < 21
        · obtain ⟨N', e, s⟩ := stX J (by omega) N hS rc
          rw [if_neg (hyes c)] at e
          rw [if_pos c, dwn_le (by omega)]
          exact ⟨N', e, s⟩
        · rw [if_neg c, show J = 21 by omega, show dwn 20 21 = -1 from rfl, p5_till_16, if_pos (by decide)]
          exact ⟨N, rfl, hS⟩
    have eY : ∃ M' : SX, xlp1 p6_till_13 FU 20 MY = some (if J < 21 then nI (20 - J) else -9, M') ∧ SameY MY M' := by
      refine lp1_inv (fun j => dwn 20 j) (fun j N => SameY MY N) J (by omega) (fun x => ∃ M' : SX, x = some (if J < 21 then nI (20 - J) else -9, M') ∧ SameY MY M') ?_ ?_ MY (SameY.refl _)
      · intro j hj N hS rc
        obtain ⟨N', e, s⟩ := stY j (by omega) N hS rc
        rw [if_pos (hno j hj)] at e
        exact ⟨N', by rw [dwn_le (by omega)]; exact e, s⟩
      · intro N hS rc
        by_cases c : J < 21
        · obtain ⟨N', e, s⟩ := stY J (by omega) N hS rc
          rw [if_neg (hyes c)] at e
          rw [if_pos c, dwn_le (by omega)]
          exact ⟨N', e, s⟩
        · rw [if_neg c, show J = 21 by omega, show dwn 20 21 = -1 from rfl, p6_till_13, if_pos (by decide)]
          exact ⟨N, rfl, hS⟩
    obtain ⟨MX', e1, s1⟩ := eX
    obtain ⟨MY', e2, s2⟩ := eY
    rw [e1, e2]
    exact ⟨_, _, _, rfl, rfl, rel_same hR s1 s2⟩
/-! from a set to the end -/
def onN (P n : Nat) (go : Nat → Nat → Bool) : Nat → Nat → Nat
  | 0, _ => 0
  | k + 1, S => (if S = P then 1 else 0) + tot n (fun v => if go S v = true then onN P n go k (S ||| 2 ^ v) else 0)
section On
variable {P n : Nat} {go : Nat → Nat → Bool}
theorem onN_st (hf : Fwd P go) (hn : n ≤ 6) : ∀ m S, S < 64 → 64 - S ≤ m → ∀ k, m ≤ k → onN P n go k S = onN P n go m S
  | 0, S, hS, h, k, hk => by omega
  | m + 1, S, hS, h, 0, hk => by omega
  | m + 1, S, hS, h, k + 1, hk => by
    rw [onN, onN]
    congr 1
    refine tot_eq (fun v hv0 => ?_)
    by_cases g : go S v = true
    · rw [if_pos g, if_pos g]
      have h1 := or_gt (hf S v g).2
      exact onN_st hf hn m _ (or_64 hS (by omega)) (by omega) k (by omega)
    · rw [if_neg g, if_neg g]
def onE (P n : Nat) (go : Nat → Nat → Bool) (S : Nat) : Nat := onN P n go 64 S
theorem onE_eq (hf : Fwd P go) (hn : n ≤ 6) {S : Nat} (hS : S < 64) : onE P n go S = (if S = P then 1 else 0) + tot n (fun v => if go S v = true then onE P n go (S ||| 2 ^ v) else 0) := by
  unfold onE
  have e : onN P n go 64 S = (if S = P then 1 else 0) + tot n (fun v => if go S v = true then onN P n go 63 (S ||| 2 ^ v) else 0) := rfl
  rw [e]
  refine congrArg (fun z => (if S = P then 1 else 0) + z) ?_
  refine tot_eq (fun v hv0 => ?_)
  by_cases g : go S v = true
  · rw [if_pos g, if_pos g]
    have h1 := or_gt (hf S v g).2
    exact (onN_st hf hn 63 _ (or_64 hS (by omega)) (by omega) 64 (by omega)).symm
  · rw [if_neg g, if_neg g]
theorem onN_le (hf : Fwd P go) (hn : n ≤ 6) : ∀ k S, S < 64 → onN P n go k S ≤ 7 ^ (6 - pc S)
  | 0, S, _ => Nat.zero_le _
  | k + 1, S, hS => by
    rw [onN]
    have h0 : (if S = P then 1 else 0) ≤ 1 := by split <;> omega
    by_cases h5 : pc S ≤ 5
    · have h1 : tot n (fun v => if go S v = true then onN P n go k (S ||| 2 ^ v) else 0) ≤ n * 7 ^ (5 - pc S) := tot_le (fun u hu => by
        show (if go S u = true then onN P n go k (S ||| 2 ^ u) else 0) ≤ 7 ^ (5 - pc S)
        split
        · rename_i h
          have e := pc_or S hS u (by omega) (hf S u h).2
          have := onN_le hf hn k (S ||| 2 ^ u) (or_64 hS (by omega))
          rw [e, show 6 - (pc S + 1) = 5 - pc S by omega] at this
          exact this
        · exact Nat.zero_le _)
      have h2 : n * 7 ^ (5 - pc S) ≤ 6 * 7 ^ (5 - pc S) := Nat.mul_le_mul_right _ hn
      have h3 : 7 ^ (6 - pc S) = 7 * 7 ^ (5 - pc S) := by rw [show 6 - pc S = (5 - pc S) + 1 by omega, Nat.pow_succ, Nat.mul_comm]
      have h4 : 0 < 7 ^ (5 - pc S) := Nat.pow_pos (by decide)
      omega
    · have h1 : tot n (fun v => if go S v = true then onN P n go k (S ||| 2 ^ v) else 0) ≤ n * 0 := tot_le (fun u hu => by
        show (if go S u = true then onN P n go k (S ||| 2 ^ u) else 0) ≤ 0
        split
        · rename_i h
          have e := pc_or S hS u (by omega) (hf S u h).2
          have := pc_le (S ||| 2 ^ u)
          omega
        · exact Nat.le_refl _)
      have h4 : 0 < 7 ^ (6 - pc S) := Nat.pow_pos (by decide)
      omega
theorem onE_le (hf : Fwd P go) (hn : n ≤ 6) {S : Nat} (hS : S < 64) : onE P n go S ≤ 117649 := by
  have h1 := onN_le hf hn 64 S hS
  have h2 : 7 ^ (6 - pc S) ≤ 7 ^ 6 := Nat.pow_le_pow_right (by decide) (by omega)
  have h3 : 7 ^ 6 = 117649 := by decide
  unfold onE
  omega
end On
theorem layOn_Y {M : SX} {n P : Nat} {H D C : Nat → Nat} (hO : OY M n P H D C) (hG : OG n P H D C) : ∃ M' : SX, p6_layOn M = some M' ∧ M'.1 = M.1 ∧ (∀ c, c ≠ 14 → M'.2 c = M.2 c) ∧ ∀ T, T < 64 → M'.2 14 T = lN (onE P n (goB n P H D C) T) := by
  have hn := hG.1
  have hP := hG.p64
  have hf := goB_fwd n P H D C
  rw [p6_layOn]
  refine lp1_inv (fun j => dwn 63 j) (fun j N => N.1 = M.1 ∧ (∀ c, c ≠ 14 → N.2 c = M.2 c) ∧ ∀ T, 64 - j ≤ T → T < 64 → N.2 14 T = lN (onE P n (goB n P H D C) T)) 64 (by omega) (fun x => ∃ M' : SX, x = some M' ∧ M'.1 = M.1 ∧ (∀ c, c ≠ 14 → M'.2 c = M.2 c) ∧ ∀ T, T < 64 → M'.2 14 T = lN (onE P n (goB n P H D C) T)) ?_ ?_ M ⟨rfl, fun _ _ => rfl, fun T h1 h2 => by omega⟩
  · rintro j hj N ⟨u1, u2, u3⟩ rc
    have hOi := hO.same1 u1
    obtain ⟨S, hSj⟩ : ∃ S, S = 63 - j := ⟨_, rfl⟩
    have hS : S < 64 := by omega
    have mid : ∀ (N : SX), N.1 = M.1 → (∀ c, c ≠ 14 → N.2 c = M.2 c) → (∀ T, 64 - j ≤ T → T < 64 → N.2 14 T = lN (onE P n (goB n P H D C) T)) → ∀ x0, p6_layOn_25 rc (nI S) (nI S) (lN x0) N = xlp2 (p6_layOn_28 rc) FU (nI S) 0 (wJ N 14 S (lN x0)) := by
      intro N _ _ _ x0
      rw [p6_layOn_25, gd_of (bIn_nI hS (by decide)), lt_v, nI_clamp (by omega)]
    have run : ∀ x0, x0 = (if S = P then 1 else 0) → ∃ M' : SX, xlp2 (p6_layOn_28 rc) FU (nI S) 0 (wJ N 14 S (lN x0)) = rc (dwn 63 (j + 1)) M' ∧ M'.1 = M.1 ∧ (∀ c, c ≠ 14 → M'.2 c = M.2 c) ∧ ∀ T, 64 - (j + 1) ≤ T → T < 64 → M'.2 14 T = lN (onE P n (goB n P H D C) T) := by
      intro x0 hx0
      refine lp2_inv (fun _ => nI S) (fun v => nI v) (fun v N => N.1 = M.1 ∧ (∀ c, c ≠ 14 → N.2 c = M.2 c) ∧ (∀ T, 64 - j ≤ T → T < 64 → N.2 14 T = lN (onE P n (goB n P H D C) T)) ∧ N.2 14 S = lN (x0 + tot v (fun u => if goB n P H D C S u = true then onE P n (goB n P H D C) (S ||| 2 ^ u) else 0))) n (by omega) (fun x => ∃ M' : SX, x = rc (dwn 63 (j + 1)) M' ∧ M'.1 = M.1 ∧ (∀ c, c ≠ 14 → M'.2 c = M.2 c) ∧ ∀ T, 64 - (j + 1) ≤ T → T < 64 → M'.2 14 T = lN (onE P n (goB n P H D C) T)) ?_ ?_ _ ⟨u1, fun c hc => by rw [wJ_n hc]; exact u2 c hc, fun T h1 h2 => by rw [wJ_at, if_neg (by omega)]; exact u3 T h1 h2, by rw [wJ_at, if_pos rfl]; rfl⟩
      · rintro v hv0 N ⟨w1, w2, w3, w4⟩ rc2
        have hOi := hO.same1 w1
        have e : tot (v + 1) (fun u => if goB n P H D C S u = true then onE P n (goB n P H D C) (S ||| 2 ^ u) else 0) = tot v (fun u => if goB n P H D C S u = true then onE P n (goB n P H D C) (S ||| 2 ^ u) else 0) + (if goB n P H D C S v = true then onE P n (goB n P H D C) (S ||| 2 ^ v) else 0) := rfl
        by_cases g : goB n P H D C S v = true
        · have hg := or_gt (hf S v g).2
          have hor := or_64 hS (show v < 6 by omega)
          refine ⟨wJ N 14 S (lN (x0 + tot (v + 1) (fun u => if goB n P H D C S u = true then onE P n (goB n P H D C) (S ||| 2 ^ u) else 0))), ?_, w1, fun c hc => by rw [wJ_n hc]; exact w2 c hc, fun T h1 h2 => by rw [wJ_at, if_neg (by omega)]; exact w3 T h1 h2, by rw [wJ_at, if_pos rfl]⟩
          rw [p6_layOn_28, hOi.1, if_neg (nI_ge hv0 (by omega)), gd_of (bIn_nI hS (by decide)), next_Y hOi hG hS hv0, bd_s, it01, if_pos g, shl1 v (by omega), or_nI, gd_of (bIn_nI hor (by decide)), nI_clamp (by omega), nI_clamp (by omega), w4, w3 _ (by omega) hor, p6_layOn_66, gd_of (bIn_nI hS (by decide)), lt_v, lt_v, nI_clamp (by omega), lN_add, nI_1, e, if_pos g, Nat.add_assoc]
        · refine ⟨wJ N 14 S (lN (x0 + tot (v + 1) (fun u => if goB n P H D C S u = true then onE P n (goB n P H D C) (S ||| 2 ^ u) else 0))), ?_, w1, fun c hc => by rw [wJ_n hc]; exact w2 c hc, fun T h1 h2 => by rw [wJ_at, if_neg (by omega)]; exact w3 T h1 h2, by rw [wJ_at, if_pos rfl]⟩
          rw [p6_layOn_28, hOi.1, if_neg (nI_ge hv0 (by omega)), gd_of (bIn_nI hS (by decide)), next_Y hOi hG hS hv0, bd_s, it01, if_neg g, nI_clamp (by omega), w4, p6_layOn_66, gd_of (bIn_nI hS (by decide)), lt_v, lt_v, nI_clamp (by omega), show (0 : Int64) = lN 0 from rfl, lN_add, nI_1, e, if_neg g, Nat.add_assoc]
      · rintro N ⟨w1, w2, w3, w4⟩ rc2
        have hOi := hO.same1 w1
        have hd := dwn_s (k := 63) (j := j) (by omega)
        rw [p6_layOn_28, hOi.1, if_pos (Int32.le_refl _), lt_v, hSj, hd]
        refine ⟨N, rfl, w1, w2, fun T h1 h2 => ?_⟩
        by_cases c : T = S
        · rw [c, w4, onE_eq hf hn hS, hx0]
        · exact w3 T (by omega) h2
    have hd1 : dwn 63 j = nI S := by rw [hSj]; exact dwn_le (by omega)
    rw [hd1, p6_layOn_3, if_neg (nI_pos (by omega)), hOi.2.1]
    by_cases c : S = P
    · rw [if_pos (by rw [c]), show (1 : Int64) = lN 1 from rfl, mid N u1 u2 u3]
      exact run 1 (by rw [if_pos c])
    · rw [if_neg (fun z => c ((nI_eq (by omega) (by omega)).mp z)), show (0 : Int64) = lN 0 from rfl, mid N u1 u2 u3]
      exact run 0 (by rw [if_neg c])
  · rintro N ⟨u1, u2, u3⟩ rc
    rw [show dwn 63 64 = -1 from rfl, p6_layOn_3, if_pos (by decide)]
    exact ⟨N, rfl, u1, u2, fun T hT => u3 T (by omega) hT⟩
theorem sameY14 {M N : SX} (h1 : N.1 = M.1) (h2 : ∀ c, c ≠ 14 → N.2 c = M.2 c) : SameY M N := ⟨fun k _ _ => by rw [h1], fun j _ => by rw [h1], h2 0 (by decide)⟩
