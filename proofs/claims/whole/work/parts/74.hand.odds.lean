/-! chances -/
theorem power_X {b e : Nat} (hb : b < 2 ^ 31) (he : e < 1000) (M : SX) : p5_power (nI b) (nI e) M = some (lN (b ^ e), M) := by
  rw [p5_power]
  refine lp4_go (fun _ => nI b) (fun _ => nI e) (fun i => lN (b ^ i)) (fun i => nI i) (fun _ => M) e (by omega) _ (fun i hi rc => ?_) (fun rc => ?_)
  · rw [p5_power_5, if_neg (nI_ge hi (by omega)), lt_v, lt_v, nI_l hb, lN_mul, nI_1, Nat.pow_succ]
  · rw [p5_power_5, if_pos (Int32.le_refl _)]
theorem eu_mod {r b m : Nat} (h0 : 0 < r) (hr : r < b) (hb : b < 2 ^ (m + 1)) : b % r < 2 ^ m := by
  have h1 := Nat.mod_lt b h0
  have h2 : b % r ≤ b - r := by
    have := Nat.div_add_mod b r
    have hq : 1 ≤ b / r := (Nat.le_div_iff_mul_le h0).mpr (by omega)
    have : r ≤ r * (b / r) := Nat.le_mul_of_pos_right r hq
    omega
  have h3 : 2 ^ (m + 1) = 2 * 2 ^ m := by rw [Nat.pow_succ, Nat.mul_comm]
  omega
theorem nzl {b : Nat} (h : 0 < b) (h2 : b < 2 ^ 63) : nzL (lN b) = true ∧ ¬ lN b = 0 := by
  have : ¬ lN b = 0 := fun z => absurd ((pk_lEQ (b := 0) h2 (by decide)).mp z) (by omega)
  exact ⟨decide_eq_true this, this⟩
theorem gcd_X0 (M : SX) {a j f : Nat} (hj : j ≤ 98) : xlp3 p5_commonDivisor_9 (f + 1) (lN a) (lN 0) (nI j) M = some (lN a, M) := by
  show p5_commonDivisor_9 (xlp3 p5_commonDivisor_9 f) (lN a) (lN 0) (nI j) M = _
  rw [p5_commonDivisor_9, if_neg (show ¬ (100 : Int32) ≤ nI j from nI_ge (b := 100) (by omega) (by omega)), if_pos (show lN 0 = 0 from rfl)]
  rfl
theorem gcd_X1 (M : SX) {a b j f : Nat} (hj : j ≤ 98) (hb0 : 0 < b) (ha : a < 2 ^ 63) (hb : b < 2 ^ 63) : xlp3 p5_commonDivisor_9 (f + 1) (lN a) (lN b) (nI j) M = xlp3 p5_commonDivisor_9 f (lN b) (lN (a % b)) (nI (j + 1)) M := by
  have hz := nzl hb0 hb
  show p5_commonDivisor_9 (xlp3 p5_commonDivisor_9 f) (lN a) (lN b) (nI j) M = _
  rw [p5_commonDivisor_9, if_neg (show ¬ (100 : Int32) ≤ nI j from nI_ge (b := 100) (by omega) (by omega)), if_neg hz.2, gd_of hz.1, pk_lRem ha hb0 hb, lt_v, lt_v, nI_1]
theorem gcd_st (a b : Nat) : Nat.gcd a b = Nat.gcd b (a % b) := by rw [Nat.gcd_comm a b, Nat.gcd_rec b a, Nat.gcd_comm]
theorem gcd_X (M : SX) : ∀ m a b j f, a < 2 ^ 63 → b < 2 ^ 63 → b < 2 ^ m → 2 * m + j ≤ 98 → 2 * m < f → xlp3 p5_commonDivisor_9 f (lN a) (lN b) (nI j) M = some (lN (Nat.gcd a b), M) := by
  intro m
  induction m with
  | zero =>
    intro a b j f ha hb hm hj hf
    obtain ⟨f', rfl⟩ : ∃ f', f = f' + 1 := ⟨f - 1, by omega⟩
    have hb0 : b = 0 := by rw [Nat.pow_zero] at hm; omega
    subst hb0
    rw [gcd_X0 M (by omega), Nat.gcd_zero_right]
  | succ m ih =>
    intro a b j f ha hb hm hj hf
    obtain ⟨f', rfl⟩ : ∃ f', f = f' + 1 + 1 := ⟨f - 2, by omega⟩
    by_cases z : b = 0
    · subst z
      rw [gcd_X0 M (by omega), Nat.gcd_zero_right]
    · have hr := Nat.mod_lt a (Nat.pos_of_ne_zero z)
      have hr2 : a % b < 2 ^ 63 := Nat.lt_trans hr hb
      rw [gcd_X1 M (by omega) (Nat.pos_of_ne_zero z) ha hb, gcd_st a b]
      by_cases z2 : a % b = 0
      · rw [z2, gcd_X0 M (by omega), Nat.gcd_zero_right]
      · have hr3 := Nat.mod_lt b (Nat.pos_of_ne_zero z2)
        rw [gcd_X1 M (by omega) (Nat.pos_of_ne_zero z2) hb hr2, gcd_st b (a % b)]
        exact ih _ _ _ _ hr2 (Nat.lt_trans hr3 hr2) (eu_mod (Nat.pos_of_ne_zero z2) hr hm) (by omega) (by omega)
theorem gcd_Y0 (u l : Int64) {a f : Nat} (M : SX) (hg : nzL (lN a) = true) : xlp4 p6_tellParts_6 (f + 1) u l (lN a) (lN 0) M = some (1, wJ (wJ M 0 8 (u / lN a)) 0 9 (l / lN a)) := by
  show p6_tellParts_6 (xlp4 p6_tellParts_6 f) u l (lN a) (lN 0) M = _
  rw [p6_tellParts_6, if_pos (show lN 0 = 0 from rfl), gd_of hg, lt_v, lt_v]
theorem gcd_Y1 (u l : Int64) {a b f : Nat} (M : SX) (hb0 : 0 < b) (ha : a < 2 ^ 63) (hb : b < 2 ^ 63) : xlp4 p6_tellParts_6 (f + 1) u l (lN a) (lN b) M = xlp4 p6_tellParts_6 f u l (lN b) (lN (a % b)) M := by
  have hz := nzl hb0 hb
  show p6_tellParts_6 (xlp4 p6_tellParts_6 f) u l (lN a) (lN b) M = _
  rw [p6_tellParts_6, if_neg hz.2, gd_of hz.1, pk_lRem ha hb0 hb, lt_v]
theorem gcd_Y (u l : Int64) (g : Nat) (hg : nzL (lN g) = true) (M : SX) : ∀ m a b f, Nat.gcd a b = g → a < 2 ^ 63 → b < 2 ^ 63 → b < 2 ^ m → 2 * m < f → xlp4 p6_tellParts_6 f u l (lN a) (lN b) M = some (1, wJ (wJ M 0 8 (u / lN g)) 0 9 (l / lN g)) := by
  intro m
  induction m with
  | zero =>
    intro a b f he ha hb hm hf
    obtain ⟨f', rfl⟩ : ∃ f', f = f' + 1 := ⟨f - 1, by omega⟩
    have hb0 : b = 0 := by rw [Nat.pow_zero] at hm; omega
    subst hb0
    rw [Nat.gcd_zero_right] at he
    subst he
    exact gcd_Y0 u l M hg
  | succ m ih =>
    intro a b f he ha hb hm hf
    obtain ⟨f', rfl⟩ : ∃ f', f = f' + 1 + 1 := ⟨f - 2, by omega⟩
    by_cases z : b = 0
    · subst z
      rw [Nat.gcd_zero_right] at he
      subst he
      exact gcd_Y0 u l M hg
    · have hr := Nat.mod_lt a (Nat.pos_of_ne_zero z)
      have hr2 : a % b < 2 ^ 63 := Nat.lt_trans hr hb
      rw [gcd_Y1 u l M (Nat.pos_of_ne_zero z) ha hb]
      rw [gcd_st a b] at he
      by_cases z2 : a % b = 0
      · rw [z2, Nat.gcd_zero_right] at he
        subst he
        rw [z2]
        exact gcd_Y0 u l M hg
      · have hr3 := Nat.mod_lt b (Nat.pos_of_ne_zero z2)
        rw [gcd_Y1 u l M (Nat.pos_of_ne_zero z2) hb hr2]
        rw [gcd_st b (a % b)] at he
        exact ih _ _ _ he hr2 (Nat.lt_trans hr3 hr2) (eu_mod (Nat.pos_of_ne_zero z2) hr hm) (by omega)
/-- two numbers told in lowest terms -/
theorem tell_ag {MX MY : SX} (hR : Rel MX MY) {u l : Nat} (hu : u < 2 ^ 62) (h0 : 0 < l) (hl : l < 2 ^ 40) : ∃ MX' MY', p5_tell (lN u) (lN l) MX = some MX' ∧ p6_tellParts (lN u) (lN l) MY = some (1, MY') ∧ Rel MX' MY' := by
  have hg0 : 0 < Nat.gcd u l := Nat.gcd_pos_of_pos_right u h0
  have hgl : Nat.gcd u l ≤ l := Nat.gcd_le_right u h0
  have hg63 : Nat.gcd u l < 2 ^ 63 := Nat.lt_of_le_of_lt hgl (Nat.lt_trans hl (by decide))
  have hz := nzl (b := Nat.gcd u l) hg0 hg63
  have u63 : u < 2 ^ 63 := Nat.lt_trans hu (by decide)
  have l63 : l < 2 ^ 63 := Nat.lt_trans hl (by decide)
  have hX0 := gcd_X MX 40 u l 0 FU u63 l63 hl (by decide) (by unfold FU; decide)
  have hY0 := gcd_Y (lN u) (lN l) _ hz.1 MY 40 u l FU rfl u63 l63 hl (by unfold FU; decide)
  have eX : p5_commonDivisor (lN u) (lN l) MX = some (lN (Nat.gcd u l), MX) := by
    rw [p5_commonDivisor]
    exact hX0
  have eY : p6_tellParts (lN u) (lN l) MY = some (1, wJ (wJ MY 0 8 (lN u / lN (Nat.gcd u l))) 0 9 (lN l / lN (Nat.gcd u l))) := by
    rw [p6_tellParts]
    exact hY0
  have ej : jmaxL 1 (lN (Nat.gcd u l)) = lN (Nat.gcd u l) := by
    unfold jmaxL
    rw [if_neg (show ¬ lN (Nat.gcd u l) < 1 from fun z => absurd ((pk_lLT (b := 1) hg63 (by decide)).mp z) (Nat.not_lt.mpr hg0))]
  refine ⟨_, _, ?_, eY, rel_tellL _ _ hR⟩
  rw [p5_tell, eX, bd_s, lt_v, ej, gd_of hz.1, lt_v, lt_v]
