/-! what was missing -/
def anyB (p : Nat → Bool) : Nat → Bool
  | 0 => false
  | i + 1 => anyB p i || p i
theorem anyB_iff {p : Nat → Bool} : ∀ {n : Nat}, anyB p n = true ↔ ∃ i, i < n ∧ p i = true
  | 0 => ⟨fun h => absurd h (by simp [anyB]), fun ⟨i, hi, _⟩ => absurd hi (Nat.not_lt_zero i)⟩
  | n + 1 => by
    rw [anyB, Bool.or_eq_true, anyB_iff (n := n)]
    constructor
    · rintro (⟨i, hi, h⟩ | h)
      · exact ⟨i, by omega, h⟩
      · exact ⟨n, by omega, h⟩
    · rintro ⟨i, hi, h⟩
      by_cases e : i = n
      · subst e; exact Or.inr h
      · exact Or.inl ⟨i, by omega, h⟩
theorem stp_a : ∀ S, S < 64 → ∀ v, v < 6 → S.testBit v = false → dif S (S ||| 2 ^ v) = 0 ∧ dif (S ||| 2 ^ v) S = 2 ^ v := by decide +kernel
theorem stp_b : ∀ D, D < 64 → pc D = 1 → D = 2 ^ 0 ∨ D = 2 ^ 1 ∨ D = 2 ^ 2 ∨ D = 2 ^ 3 ∨ D = 2 ^ 4 ∨ D = 2 ^ 5 := by decide +kernel
theorem stp_c : ∀ S, S < 64 → ∀ T, T < 64 → dif S T = 0 → T = S ||| dif T S := by decide +kernel
theorem stp_d : ∀ v, v < 6 → ntzF (nI (2 ^ v)) = nI v ∧ pc (2 ^ v) = 1 := by decide +kernel
theorem stp_e {D : Nat} (h : D < 64) (h1 : pc D = 1) : ∃ v, v < 6 ∧ D = 2 ^ v := by
  rcases stp_b D h h1 with e | e | e | e | e | e
  · exact ⟨0, by omega, e⟩
  · exact ⟨1, by omega, e⟩
  · exact ⟨2, by omega, e⟩
  · exact ⟨3, by omega, e⟩
  · exact ⟨4, by omega, e⟩
  · exact ⟨5, by omega, e⟩
def stepB (n P : Nat) (H D C : Nat → Nat) (S T i : Nat) : Bool := anyB (fun v => goB n P H D C S v && decide (T = S ||| 2 ^ v)) i
theorem stepB_iff {n P : Nat} {H D C : Nat → Nat} {S T i : Nat} : stepB n P H D C S T i = true ↔ ∃ v, v < i ∧ goB n P H D C S v = true ∧ T = S ||| 2 ^ v := by
  rw [stepB, anyB_iff]
  constructor
  · rintro ⟨v, h1, h2⟩
    rw [Bool.and_eq_true, decide_eq_true_iff] at h2
    exact ⟨v, h1, h2.1, h2.2⟩
  · rintro ⟨v, h1, h2, h3⟩
    exact ⟨v, h1, by rw [Bool.and_eq_true, decide_eq_true_iff]; exact ⟨h2, h3⟩⟩
theorem isStep_X {M : SX} {n P : Nat} {H D C : Nat → Nat} (hO : OX M n P H D C) (hG : OG n P H D C) {S T : Nat} (hS : S < 64) (hT : T < 2 ^ n) : p2_isStep (nI S) (nI T) M = some (if stepB n P H D C S T n = true then 1 else 0, M) := by
  have hT6 : T < 64 := l64 hG.1 hT
  have hn6 := hG.1
  -- what a step tells
  have out : stepB n P H D C S T n = true → dif S T = 0 ∧ pc (dif T S) = 1 := fun h => by
    obtain ⟨v, hv0, hg, rfl⟩ := stepB_iff.mp h
    have hb := (goB_iff.mp hg).2.1
    have := stp_a S hS v (by omega) hb
    exact ⟨this.1, by rw [this.2]; exact (stp_d v (by omega)).2⟩
  rw [p2_isStep, lt_v, dif_I T hT6 S hS, dif_I S hS T hT6]
  by_cases c1 : dif S T = 0
  · rw [c1, if_pos nI_0, bits_X (dif_lt hT6), bd_s]
    by_cases c2 : pc (dif T S) = 1
    · obtain ⟨v, hv6, hv1⟩ := stp_e (dif_lt hT6) c2
      have hTS : T = S ||| 2 ^ v := by rw [← hv1]; exact stp_c S hS T hT6 c1
      have htb : (T.testBit v && !S.testBit v) = true := by rw [← dif_tb hT6 hS, hv1]; exact tb_self v
      rw [Bool.and_eq_true] at htb
      have hvn : v < n := tb_lt hT htb.1
      rw [c2, if_pos (show nI 1 = 1 from rfl), hv1, ntz_X, bd_s, (stp_d v hv6).1, goesOn_X hO hG hS hvn, bd_s, it01]
      by_cases c3 : goB n P H D C S v = true
      · rw [if_pos c3, if_pos (stepB_iff.mpr ⟨v, hvn, c3, hTS⟩)]
      · rw [if_neg c3, if_neg]
        intro h
        obtain ⟨u, hu, hg, hTu⟩ := stepB_iff.mp h
        have hb := (goB_iff.mp hg).2.1
        have e1 := (stp_a S hS u (by omega) hb).2
        rw [← hTu, hv1] at e1
        have e2 := (stp_d v hv6).1
        rw [e1, (stp_d u (by omega)).1] at e2
        have e3 : u = v := (nI_eq (by omega) (by omega)).mp e2
        exact c3 (e3 ▸ hg)
    · rw [if_neg (show ¬ nI (pc (dif T S)) = 1 from fun z => c2 ((nI_eq (b := 1) (by have := pc_le (dif T S); omega) (by decide)).mp z)), if_neg (fun h => c2 (out h).2)]
  · rw [if_neg (show ¬ nI (dif S T) = 0 from nI_ne0 (Nat.pos_of_ne_zero c1) (by have := dif_lt (S := T) hS; omega)), if_neg (fun h => c1 (out h).1)]
theorem inner_Y {M : SX} {n P : Nat} {H D C : Nat → Nat} (hO : OY M n P H D C) (hG : OG n P H D C) {S T r k : Nat} (hS : S < 64) (hT : T < 64) (k41 : Int32 → Int32 → Int32 → SX → Option (Int32 × SX)) : xlp6 (p6_missing_72 k41) FU (nI r) (nI S) (nI k) (nI T) 0 0 M = if stepB n P H D C S T n = true then k41 (nI r) (nI T) (nI (k + 1)) M else some (0, M) := by
  have hn6 := hG.1
  refine lp6_go (fun _ => nI r) (fun _ => nI S) (fun _ => nI k) (fun _ => nI T) (fun i => if stepB n P H D C S T i = true then 1 else 0) (fun i => nI i) (fun _ => M) n (by omega) _ (fun i hi rc => ?_) (fun rc => ?_)
  · rw [p6_missing_72, hO.1, if_neg (nI_ge hi (by omega))]
    have es : stepB n P H D C S T (i + 1) = (stepB n P H D C S T i || (goB n P H D C S i && decide (T = S ||| 2 ^ i))) := rfl
    rw [es]
    by_cases c : stepB n P H D C S T i = true
    · rw [if_pos c, if_neg i10, p6_missing_107, p6_missing_112, lt_v, nI_1, c, Bool.true_or, if_pos rfl]
    · have cf : stepB n P H D C S T i = false := by simpa using c
      rw [if_neg c, if_pos rfl, next_Y hO hG hS hi, bd_s, it01, cf, Bool.false_or]
      by_cases c2 : goB n P H D C S i = true
      · rw [if_pos c2, shl1 _ (by omega), or_nI, c2, Bool.true_and]
        have hor : S ||| 2 ^ i < 64 := or_64 hS (by omega)
        by_cases c3 : T = S ||| 2 ^ i
        · rw [if_pos (by rw [← c3]), p6_missing_107, p6_missing_112, lt_v, nI_1, decide_eq_true c3, if_pos rfl]
        · rw [if_neg (fun z => c3 ((nI_eq (by omega) (by omega)).mp z)), p6_missing_111, p6_missing_112, lt_v, nI_1, decide_eq_false c3]
          rfl
      · have c2f : goB n P H D C S i = false := by simpa using c2
        rw [if_neg c2, p6_missing_111, p6_missing_112, lt_v, nI_1, c2f, Bool.false_and]
        rfl
  · rw [p6_missing_72, hO.1, if_pos (Int32.le_refl _)]
    by_cases c : stepB n P H D C S T n = true
    · rw [if_pos c, if_neg i10, if_pos c, lt_v, nI_1]
    · rw [if_neg c, if_pos rfl, if_neg c]
def pv_ (x : Nat → Nat) : Nat → Nat
  | 0 => 0
  | i + 1 => x i
theorem ag_missing (a1 : Int32) (MX MY : SX) (hR : Rel MX MY) : Ag (p5_missing a1 MX) (p6_missing a1 MY) := by
  obtain ⟨n, d, σ, hH⟩ := rel_here hR
  have hH' := hH
  obtain ⟨hn, hd, h0, hX, hY, hV, h7, h1⟩ := hH
  rw [p5_missing, p6_missing, p5_refusalOfSets, isRow_Y, bd_s, it01]
  rcases six (a := a1) with ⟨q1, q2⟩ | ⟨r, hr, rfl⟩
  · rw [p5_refusalOfAside, isNumber_X 1 (Or.inl rfl), bd_s, it01, if_neg q1, if_neg q2, bd_s, if_neg (by decide), bd_s, if_neg (by decide)]
    exact ag_no hR _
  · rw [if_pos (sixI hr).2, h0]
    by_cases hn0 : n = 0
    · subst hn0
      rw [p5_refusalOfAside, isNumber_X 1 (Or.inl rfl), bd_s, it01, if_pos (sixI hr).1, hX.1, if_pos nI_0, bd_s, if_neg (by decide), bd_s, if_neg (by decide), p6_noRow, h0, if_pos nI_0, bd_s, if_neg (by decide)]
      exact ag_no hR _
    · have hn1 : 0 < n := Nat.pos_of_ne_zero hn0
      have hp := pw6 hn
      have hpp : 0 < 2 ^ n := Nat.two_pow_pos n
      have e1 : nI (2 ^ n) - 1 = nI (2 ^ n - 1) := pk_sub (b := 1) hpp
      have en : 2 ^ n - 1 + 1 = 2 ^ n := by omega
      rw [aside_X hH' hn1 hr, shl1 n (by omega), e1]
      rcases row_read hR hH' hn1 hr (lo := 1) (hi := 2 ^ n - 1) (by omega) (by omega) with ⟨f, hf, hY0, hx⟩ | ⟨len, hl1, hl6, a, b, hY0, hal, hxs⟩
      · rw [show p6_noRow (nI r) 1 (nI (2 ^ n - 1)) MY = _ from hY0, bd_s, if_neg (by decide)]
        rcases hx with ⟨a, rfl⟩ | ⟨len, hl, a, hx⟩
        · rw [sheet_X1 (Or.inl rfl) hr a, bd_s, bd_s, if_neg (by decide), bd_s, if_neg (by decide)]
          exact ag_findg 1 hf hR
        · rw [sheet_X (Or.inl rfl) hr a (by omega), bd_s, bd_s, if_pos rfl, sizeOf_X hr a, bd_s]
          rcases hx with ⟨rfl, hx⟩ | ⟨rfl, hx1, hx6, hx⟩
          · by_cases z : len < 1
            · rw [if_pos (show nI len < 1 from nI_lt (b := 1) z (by decide)), p5_refusalOfSets_37, found_X 5 (by decide), bd_s, bd_s, if_neg (by decide)]
              exact ag_findg 5 hf hR
            · rw [if_neg (show ¬ nI len < 1 from nI_nlt (b := 1) (by omega) (by omega)), sizeOf_X hr a, bd_s, if_neg (show ¬ nI len ≤ 6 from nI_ge (b := len) (a := 6) (by omega) (by omega)), p5_refusalOfSets_37, found_X 5 (by decide), bd_s, bd_s, if_neg (by decide)]
              exact ag_findg 5 hf hR
          · have hab := allBelow_X (hi := 2 ^ n - 1) hr hl hR.1.1 a (by omega)
            rw [en, hx] at hab
            rw [if_neg (show ¬ nI len < 1 from nI_nlt (b := 1) (by omega) (by omega)), sizeOf_X hr a, bd_s, if_pos (show nI len ≤ 6 from nI_le (b := 6) hx6 (by decide)), hX.1, shl1 n (by omega), hab, bd_s, it01, if_neg (by decide), found_X 3 (by decide), bd_s, bd_s, if_neg (by decide)]
            exact ag_findg 3 hf hR
      · have hab := allBelow_X (hi := 2 ^ n - 1) hr (by omega) hR.1.1 a (by omega)
        rw [en, hal] at hab
        have hG := og_of hn hd hV (w := 0) (by omega)
        obtain ⟨MX1, eX1, sX1, oX1⟩ := lookAt_X hX hn hV hd (w := 0) (by omega)
        obtain ⟨MY1, eY1, sY1, oY1⟩ := layTried_Y0 h0 hY hn hV hd (w := 0) (by omega)
        have hR2 := rel_same hR sX1 sY1
        have aX1 : MX1.1 2 r = nI len := by rw [sX1.1 2 (by omega)]; exact a
        have bY1 : MY1.1 3 r = nI len := by rw [sY1.1 3 (by omega) (by omega)]; exact b
        rw [sheet_X (Or.inl rfl) hr a (by omega), bd_s, bd_s, if_pos rfl, sizeOf_X hr a, bd_s, if_neg (show ¬ nI len < 1 from nI_nlt (b := 1) (by omega) (by omega)), sizeOf_X hr a, bd_s, if_pos (show nI len ≤ 6 from nI_le (b := 6) hl6 (by decide)), hX.1, shl1 n (by omega), hab, bd_s, if_pos rfl, if_neg i10, bd_s, if_pos rfl, show p2_lookAt 17 0 MX = some MX1 from eX1, bv_s, sizeOf_X hr aX1, bd_s, show p6_noRow (nI r) 1 (nI (2 ^ n - 1)) MY = _ from hY0, bd_s, if_pos rfl, show p6_layTried 0 0 MY = some MY1 from eY1, bv_s]
        have hxv : ∀ i, ∃ x, i < len → x < 2 ^ n ∧ MX1.1 3 (40 * r + i) = nI x ∧ MY1.1 4 (40 * r + i) = nI x := fun i => by
          by_cases hi : i < len
          · obtain ⟨x, q1, q2, q3⟩ := hxs i hi
            exact ⟨x, fun _ => ⟨by omega, by rw [sX1.1 3 (by omega)]; exact q2, by rw [sY1.1 4 (by omega) (by omega)]; exact q3⟩⟩
          · exact ⟨0, fun h => absurd h hi⟩
        have hx0 : ∀ i, i < len → Classical.choose (hxv i) < 2 ^ n ∧ MX1.1 3 (40 * r + i) = nI (Classical.choose (hxv i)) ∧ MY1.1 4 (40 * r + i) = nI (Classical.choose (hxv i)) := fun i => Classical.choose_spec (hxv i)
        obtain ⟨x, hxe⟩ : ∃ x : Nat → Nat, ∀ i, x i = Classical.choose (hxv i) := ⟨fun i => Classical.choose (hxv i), fun _ => rfl⟩
        have hx : ∀ i, i < len → x i < 2 ^ n ∧ MX1.1 3 (40 * r + i) = nI (x i) ∧ MY1.1 4 (40 * r + i) = nI (x i) := fun i hi => by rw [hxe i]; exact hx0 i hi
        have hpv : ∀ i, i ≤ len → pv_ x i < 64 := by
          intro i hi
          cases i with
          | zero => show 0 < 64; omega
          | succ i => exact Nat.lt_of_lt_of_le (hx i (by omega)).1 hp
        obtain ⟨K, hK1, hK2, hK3⟩ : ∃ K, K ≤ len ∧ (∀ i, i < K → stepB n (pawnS n σ) (σ 3) (fun v => due σ v 0) (σ 1) (pv_ x i) (x i) n = true) ∧ (K < len → ¬ stepB n (pawnS n σ) (σ 3) (fun v => due σ v 0) (σ 1) (pv_ x K) (x K) n = true) := by
          refine ⟨fa_first (fun i => !stepB n (pawnS n σ) (σ 3) (fun v => due σ v 0) (σ 1) (pv_ x i) (x i) n) len, fa_first_le _ len, fun i hi => ?_, fun h => ?_⟩
          · have := fa_first_no (fun i => !stepB n (pawnS n σ) (σ 3) (fun v => due σ v 0) (σ 1) (pv_ x i) (x i) n) len i hi
            simpa using this
          · have := fa_first_yes (fun i => !stepB n (pawnS n σ) (σ 3) (fun v => due σ v 0) (σ 1) (pv_ x i) (x i) n) len h
            simpa using this
        have eX : xlp4 p5_missing_39 FU (nI r) 0 (nI len) 0 MX1 = some (if K < len then 0 else 1, MX1) := by
          refine lp4_go (fun _ => nI r) (fun i => nI (pv_ x i)) (fun _ => nI len) (fun i => nI i) (fun _ => MX1) K (by omega) _ (fun i hi rc => ?_) (fun rc => ?_)
          · have hxi := hx i (by omega)
            have hval : p4_valueAt 1 (nI r) (nI i) MX1 = some (nI (x i), MX1) := by rw [valueAt_X (w := 40) hR2.1.1 (by omega)]; exact congrArg (fun z => some (z, MX1)) hxi.2.1
            rw [p5_missing_39, if_neg (nI_ge (by omega) (by omega)), hval, bd_s, isStep_X oX1 hG (hpv i (by omega)) hxi.1, bd_s, it01, if_pos (hK2 i hi), lt_v, nI_1]
            rfl
          · by_cases c : K < len
            · have hxi := hx K c
              have hval : p4_valueAt 1 (nI r) (nI K) MX1 = some (nI (x K), MX1) := by rw [valueAt_X (w := 40) hR2.1.1 (by omega)]; exact congrArg (fun z => some (z, MX1)) hxi.2.1
              rw [p5_missing_39, if_neg (nI_ge c (by omega)), hval, bd_s, isStep_X oX1 hG (hpv K (by omega)) hxi.1, bd_s, it01, if_neg (hK3 c), if_pos c]
            · rw [p5_missing_39, if_pos (nI_le (by omega) (by omega)), if_neg c]
        have eY : xlp3 p6_missing_41 FU (nI r) 0 0 MY1 = some (if K < len then 0 else 1, MY1) := by
          refine lp3_go (fun _ => nI r) (fun i => nI (pv_ x i)) (fun i => nI i) (fun _ => MY1) K (by omega) _ (fun i hi rc => ?_) (fun rc => ?_)
          · have hxi := hx i (by omega)
            rw [p6_missing_41, gd_of (bIn_nI hr (by decide)), nI_clamp (by omega), bY1, if_neg (nI_ge (by omega) (by omega)), show (40 * nI r + nI i : Int32) = nI (40 * r + i) from clampIx2, gd_of (bIn_nI (by omega) (by decide)), nI_clamp (by omega), hxi.2.2, lt_v, inner_Y oY1 hG (hpv i (by omega)) (Nat.lt_of_lt_of_le hxi.1 hp) rc, if_pos (hK2 i hi)]
            rfl
          · by_cases c : K < len
            · have hxi := hx K c
              rw [p6_missing_41, gd_of (bIn_nI hr (by decide)), nI_clamp (by omega), bY1, if_neg (nI_ge c (by omega)), show (40 * nI r + nI K : Int32) = nI (40 * r + K) from clampIx2, gd_of (bIn_nI (by omega) (by decide)), nI_clamp (by omega), hxi.2.2, lt_v, inner_Y oY1 hG (hpv K (by omega)) (Nat.lt_of_lt_of_le hxi.1 hp) rc, if_neg (hK3 c), if_pos c]
            · rw [p6_missing_41, gd_of (bIn_nI hr (by decide)), nI_clamp (by omega), bY1, if_pos (nI_le (by omega) (by omega)), if_neg c]
        rw [eX, eY]
        exact ⟨_, _, _, rfl, rfl, hR2⟩
