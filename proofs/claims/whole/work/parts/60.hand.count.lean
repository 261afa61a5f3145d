/-! counts -/
def one (c : Prop) [Decidable c] : Nat := if c then 1 else 0
theorem one_t {c : Prop} [Decidable c] (h : c) : one c = 1 := if_pos h
theorem one_f {c : Prop} [Decidable c] (h : ¬ c) : one c = 0 := if_neg h
theorem howMany_X {b : Nat} (hb : isS b) (M : SX) : p4_howMany b M = some (nI (tot (szS b) (fun r => one (¬ M.1 (b + 1) r = -1))), M) := by
  have hz := szS_lt hb
  have hz2 : szS b ≤ 6 := by rcases hb with rfl | rfl <;> decide
  rw [p4_howMany]
  refine lp2_go (fun i => nI (tot i (fun r => one (¬ M.1 (b + 1) r = -1)))) (fun i => nI i) (fun _ => M) (szS b) (by omega) _ (fun i hi rc => ?_) (fun rc => ?_)
  · have e : tot (i + 1) (fun r => one (¬ M.1 (b + 1) r = -1)) = tot i (fun r => one (¬ M.1 (b + 1) r = -1)) + one (¬ M.1 (b + 1) i = -1) := rfl
    rw [p4_howMany_4, if_neg (show ¬ Int32.ofNat (szS b) ≤ nI i from nI_ge hi hz), p4_isThere, gd_of (bIn_nI hi hz), nI_clamp (by omega), e]
    by_cases c : M.1 (b + 1) i = -1
    · rw [if_pos c, bd_s, if_pos rfl, p4_howMany_24, lt_v, nI_1, one_f (fun z => z c), Nat.add_zero (tot i _)]
    · rw [if_neg c, bd_s, if_neg i10, lt_v, p4_howMany_24, lt_v, nI_1, nI_1, one_t c]
  · rw [p4_howMany_4, if_pos (show Int32.ofNat (szS b) ≤ nI (szS b) from Int32.le_refl _)]
theorem thereOf_Y6 (M : SX) : p6_thereOf 6 M = some (nI (tot 6 (fun r => one (0 ≤ M.1 3 r))), M) := by
  rw [p6_thereOf]
  refine lp3_go (fun _ => 6) (fun i => nI (tot i (fun r => one (0 ≤ M.1 3 r)))) (fun i => nI i) (fun _ => M) 6 (by omega) _ (fun i hi rc => ?_) (fun rc => ?_)
  · have e : tot (i + 1) (fun r => one (0 ≤ M.1 3 r)) = tot i (fun r => one (0 ≤ M.1 3 r)) + one (0 ≤ M.1 3 i) := rfl
    rw [p6_thereOf_4, if_neg (show ¬ (6 : Int32) ≤ nI i from nI_ge (b := 6) hi (by omega)), if_pos rfl, gd_of (bIn_nI hi (by decide)), nI_clamp (by omega), e]
    by_cases c : 0 ≤ M.1 3 i
    · rw [if_pos c, p6_thereOf_89, lt_v, lt_v, nI_1, nI_1, one_t c]
    · rw [if_neg c, p6_thereOf_89, lt_v, lt_v, add0, nI_1, one_f c, Nat.add_zero (tot i _)]
  · rw [p6_thereOf_4, if_pos (by decide)]
theorem thereOf_Y7 (M : SX) : p6_thereOf 7 M = some (nI (tot 6 (fun r => one (r < 4 ∧ ¬ M.1 5 r < 0))), M) := by
  rw [p6_thereOf]
  refine lp3_go (fun _ => 7) (fun i => nI (tot i (fun r => one (r < 4 ∧ ¬ M.1 5 r < 0)))) (fun i => nI i) (fun _ => M) 6 (by omega) _ (fun i hi rc => ?_) (fun rc => ?_)
  · have e : tot (i + 1) (fun r => one (r < 4 ∧ ¬ M.1 5 r < 0)) = tot i (fun r => one (r < 4 ∧ ¬ M.1 5 r < 0)) + one (i < 4 ∧ ¬ M.1 5 i < 0) := rfl
    rw [p6_thereOf_4, if_neg (show ¬ (6 : Int32) ≤ nI i from nI_ge (b := 6) hi (by omega)), if_neg (by decide), if_pos rfl, e]
    by_cases h4 : i < 4
    · rw [if_neg (show ¬ (4 : Int32) ≤ nI i from nI_ge (b := 4) h4 (by omega)), gd_of (bIn_nI h4 (by decide)), nI_clamp (by omega)]
      by_cases c : M.1 5 i < 0
      · rw [if_pos c, p6_thereOf_58, p6_thereOf_89, lt_v, lt_v, add0, nI_1, one_f (fun z => z.2 c), Nat.add_zero (tot i _)]
      · rw [if_neg c, p6_thereOf_89, lt_v, lt_v, nI_1, nI_1, one_t ⟨h4, c⟩]
    · rw [if_pos (show (4 : Int32) ≤ nI i from nI_le (a := 4) (by omega) (by omega)), p6_thereOf_58, p6_thereOf_89, lt_v, lt_v, add0, nI_1, one_f (fun z => h4 z.1), Nat.add_zero (tot i _)]
  · rw [p6_thereOf_4, if_pos (by decide)]
theorem kIx {k : Nat} (h : k < 3) : (991 * (1 + nI k) + 0 : Int32) = nI (991 * (1 + k)) := by
  rw [show (1 : Int32) + nI k = nI (1 + k) from nI_add 1 k, show (991 : Int32) * nI (1 + k) = nI (991 * (1 + k)) from pk_mul 991 (1 + k), add0]
theorem thereOf_Y8 (M : SX) : p6_thereOf 8 M = some (nI (tot 6 (fun r => one (r < 3 ∧ ¬ M.1 1 (991 * (1 + r)) < 0))), M) := by
  rw [p6_thereOf]
  refine lp3_go (fun _ => 8) (fun i => nI (tot i (fun r => one (r < 3 ∧ ¬ M.1 1 (991 * (1 + r)) < 0)))) (fun i => nI i) (fun _ => M) 6 (by omega) _ (fun i hi rc => ?_) (fun rc => ?_)
  · have e : tot (i + 1) (fun r => one (r < 3 ∧ ¬ M.1 1 (991 * (1 + r)) < 0)) = tot i (fun r => one (r < 3 ∧ ¬ M.1 1 (991 * (1 + r)) < 0)) + one (i < 3 ∧ ¬ M.1 1 (991 * (1 + i)) < 0) := rfl
    rw [p6_thereOf_4, if_neg (show ¬ (6 : Int32) ≤ nI i from nI_ge (b := 6) hi (by omega)), if_neg (by decide), if_neg (by decide), e]
    by_cases h4 : i < 3
    · rw [if_neg (show ¬ (3 : Int32) ≤ nI i from nI_ge (b := 3) h4 (by omega)), kIx h4, gd_of (bIn_nI (by omega) (by decide)), nI_clamp (by omega)]
      by_cases c : M.1 1 (991 * (1 + i)) < 0
      · rw [if_pos c, p6_thereOf_88, p6_thereOf_89, lt_v, lt_v, add0, nI_1, one_f (fun z => z.2 c), Nat.add_zero (tot i _)]
      · rw [if_neg c, p6_thereOf_89, lt_v, lt_v, nI_1, nI_1, one_t ⟨h4, c⟩]
    · rw [if_pos (show (3 : Int32) ≤ nI i from nI_le (a := 3) (by omega) (by omega)), p6_thereOf_88, p6_thereOf_89, lt_v, lt_v, add0, nI_1, one_f (fun z => h4 z.1), Nat.add_zero (tot i _)]
  · rw [p6_thereOf_4, if_pos (by decide)]
theorem keptLanes_X (M : SX) : p5_keptLanes M = some (nI (tot 3 (fun k => one (¬ M.1 (27 + 9 * k) 0 ≤ 0))), M) := by
  rw [p5_keptLanes]
  refine lp2_go (fun i => nI (tot i (fun k => one (¬ M.1 (27 + 9 * k) 0 ≤ 0)))) (fun i => nI i) (fun _ => M) 3 (by omega) _ (fun i hi rc => ?_) (fun rc => ?_)
  · have e : tot (i + 1) (fun k => one (¬ M.1 (27 + 9 * k) 0 ≤ 0)) = tot i (fun k => one (¬ M.1 (27 + 9 * k) 0 ≤ 0)) + one (¬ M.1 (27 + 9 * i) 0 ≤ 0) := rfl
    rw [p5_keptLanes_4, if_neg (show ¬ (3 : Int32) ≤ nI i from nI_ge (b := 3) hi (by omega)), gd_of (bIn_nI hi (by decide)), nI_clamp (by omega), e]
    by_cases c : M.1 (27 + 9 * i) 0 ≤ 0
    · rw [if_pos c, p5_keptLanes_24, lt_v, nI_1, one_f (fun z => z c), Nat.add_zero (tot i _)]
    · rw [if_neg c, lt_v, p5_keptLanes_24, lt_v, nI_1, nI_1, one_t c]
  · rw [p5_keptLanes_4, if_pos (by decide)]
section Cn
variable {b n d : Nat} {M : SX} {σ : LV}
theorem cashOfAll_Y (h0 : M.1 0 1 = nI n) (hY : YRep 0 M n σ) (hn : n ≤ 6) : p6_cashOfAll M = some (nI (tot n (σ 1)), M) := by
  rw [p6_cashOfAll]
  refine lp2_go (fun i => nI (tot i (σ 1))) (fun i => nI i) (fun _ => M) n (by omega) _ (fun i hi rc => ?_) (fun rc => ?_)
  · have ix := ix1 (s := i) (by omega)
    have hy := (hY i hi).2.1
    rw [Nat.zero_add] at hy
    rw [p6_cashOfAll_4, h0, if_neg (nI_ge hi (by omega)), gd_of ix.1, ix.2, hy, lt_v, lt_v, nI_add, nI_1]
    rfl
  · rw [p6_cashOfAll_4, h0, if_pos (Int32.le_refl _)]
theorem dueInAll_Y (h0 : M.1 0 1 = nI n) (hY : YRep 0 M n σ) (hn : n ≤ 6) (hV : Valid n d σ) (hd : d ≤ 40) : p6_dueInAll M = some (nI (dueAll n σ), M) := by
  rw [p6_dueInAll]
  refine lp2_go (fun i => nI (dueAll i σ)) (fun i => nI i) (fun _ => M) n (by omega) _ (fun i hi rc => ?_) (fun rc => ?_)
  · rw [p6_dueInAll_4, h0, if_neg (nI_ge hi (by omega)), show p6_dueIn (nI i) 0 M = _ from dueIn_Y hY hn hV hd hi (w := 0) (by omega), bd_s, lt_v, lt_v, nI_add, nI_1]
    rfl
  · rw [p6_dueInAll_4, h0, if_pos (Int32.le_refl _)]
theorem howManyOf_X (hX : XRep b M n σ) (hn : n ≤ 6) (hV : Valid n d σ) : p1_howManyOf b 2 M = some (nI (tot n (fun v => one (isK (σ 0 v) 2 = true))), M) := by
  rw [p1_howManyOf]
  refine lp3_go (fun _ => 2) (fun i => nI (tot i (fun v => one (isK (σ 0 v) 2 = true)))) (fun i => nI i) (fun _ => M) n (by omega) _ (fun i hi rc => ?_) (fun rc => ?_)
  · have e : tot (i + 1) (fun v => one (isK (σ 0 v) 2 = true)) = tot i (fun v => one (isK (σ 0 v) 2 = true)) + one (isK (σ 0 i) 2 = true) := rfl
    rw [p1_howManyOf_4, hX.1, if_neg (nI_ge hi (by omega)), gd_of (bIn_nI (by omega) (by decide)), nI_clamp (by omega), (hX.2 i hi).1, show p5_isOfKind (nI (σ 0 i)) 2 M = _ from isOfKind_X (f := 2) (hV.2 i hi).1 (by decide) (by decide) M, bd_s, it01, e]
    by_cases c : isK (σ 0 i) 2 = true
    · rw [if_pos c, lt_v, p1_howManyOf_28, lt_v, nI_1, nI_1, one_t c]
    · rw [if_neg c, p1_howManyOf_28, lt_v, nI_1, one_f c, Nat.add_zero (tot i _)]
  · rw [p1_howManyOf_4, hX.1, if_pos (Int32.le_refl _)]
theorem hawks_Y (h0 : M.1 0 1 = nI n) (hY : YRep 0 M n σ) (hn : n ≤ 6) (hV : Valid n d σ) : p6_hawks M = some (nI (tot n (fun v => one (isK (σ 0 v) 2 = true))), M) := by
  rw [p6_hawks]
  refine lp2_go (fun i => nI (tot i (fun v => one (isK (σ 0 v) 2 = true)))) (fun i => nI i) (fun _ => M) n (by omega) _ (fun i hi rc => ?_) (fun rc => ?_)
  · have e : tot (i + 1) (fun v => one (isK (σ 0 v) 2 = true)) = tot i (fun v => one (isK (σ 0 v) 2 = true)) + one (isK (σ 0 i) 2 = true) := rfl
    rw [p6_hawks_4, h0, if_neg (nI_ge hi (by omega)), show p6_isOf (nI i) 2 M = _ from isOf_Y (f := 2) (by omega) (hY i hi).1 (hV.2 i hi).1 (by decide) (by decide), bd_s, it01, e]
    by_cases c : isK (σ 0 i) 2 = true
    · rw [if_pos c, p6_hawks_27, lt_v, lt_v, nI_1, nI_1, one_t c]
    · rw [if_neg c, p6_hawks_27, lt_v, lt_v, add0, nI_1, one_f c, Nat.add_zero (tot i _)]
  · rw [p6_hawks_4, h0, if_pos (Int32.le_refl _)]
end Cn
theorem nine {f : Nat} (h : f < 9) : f = 0 ∨ f = 1 ∨ f = 2 ∨ f = 3 ∨ f = 4 ∨ f = 5 ∨ f = 6 ∨ f = 7 ∨ f = 8 := by omega
theorem m1_lt0 : (-1 : Int32) < 0 := by decide
theorem tot_tail {f : Nat → Nat} {m : Nat} : ∀ {k : Nat}, (∀ i, m ≤ i → i < m + k → f i = 0) → tot (m + k) f = tot m f
  | 0, _ => rfl
  | k + 1, h => by
    show tot (m + k) f + f (m + k) = tot m f
    rw [h (m + k) (by omega) (by omega), tot_tail (fun i h1 h2 => h i h1 (by omega))]
    rfl
theorem kept_there {MX MY : SX} (hR : Rel MX MY) {k : Nat} (hk : k < 3) : (MX.1 (27 + 9 * k) 0 = 0 ∧ MY.1 1 (991 * (1 + k)) = -1) ∨ ∃ n d, 0 < n ∧ n ≤ 6 ∧ d ≤ 40 ∧ MX.1 (27 + 9 * k) 0 = nI n ∧ MX.1 (27 + 9 * k + 7) 1 = nI d ∧ MY.1 1 (991 * (1 + k)) = nI d := by
  obtain ⟨_, _, _, n, hn, h0, _, hkp⟩ := hR
  rcases hkp k hk with h | ⟨h1, d, st, hl⟩
  · exact Or.inl h
  · exact Or.inr ⟨n, d, h1, by omega, hl.1, hl.2.1.1, hl.2.2.1, hl.2.2.2.2.1⟩
theorem counted_ag {MX MY : SX} (hR : Rel MX MY) {f : Nat} (hf : f < 9) : ∃ v, p5_counted (nI f) MX = some (v, MX) ∧ p6_countOf (nI f) MY = some (v, MY) := by
  obtain ⟨n, d, σ, hn, hd, h0, hX, hY, hV, h7, h1⟩ := rel_here hR
  rcases nine hf with rfl | rfl | rfl | rfl | rfl | rfl | rfl | rfl | rfl
  · exact ⟨nI n, by rw [p5_counted, if_pos (by decide), hX.1], by rw [p6_countOf, if_pos (by decide), h0]⟩
  · exact ⟨nI (pc (pawnS n σ)), by rw [p5_counted, if_neg (by decide), if_pos (by decide), pawnedSet_X hX hn hV, bd_s, bits_X (pawnS_lt hn σ), bd_s], by rw [p6_countOf, if_neg (by decide), if_pos (by decide), pawned_Y h0 hY hn hV, bd_s, bits_Y (pawnS_lt hn σ), bd_s]⟩
  · exact ⟨nI d, by rw [p5_counted, if_neg (by decide), if_neg (by decide), if_pos (by decide), h7], by rw [p6_countOf, if_neg (by decide), if_neg (by decide), if_pos (by decide), gd_of (by decide), show (0 : Int32).toNatClampNeg = 0 from rfl, h1]⟩
  · exact ⟨nI (tot n (σ 1)), by rw [p5_counted, if_neg (by decide), if_neg (by decide), if_neg (by decide), if_pos (by decide), cashInAll_X hX hn, bd_s], by rw [p6_countOf, if_neg (by decide), if_neg (by decide), if_neg (by decide), if_pos (by decide), cashOfAll_Y h0 hY hn, bd_s]⟩
  · exact ⟨nI (dueAll n σ), by rw [p5_counted, if_neg (by decide), if_neg (by decide), if_neg (by decide), if_neg (by decide), if_pos (by decide), dueInAll_X hX hn hV hd, bd_s], by rw [p6_countOf, if_neg (by decide), if_neg (by decide), if_neg (by decide), if_neg (by decide), if_pos (by decide), dueInAll_Y h0 hY hn hV hd, bd_s]⟩
  · exact ⟨_, by rw [p5_counted, if_neg (by decide), if_neg (by decide), if_neg (by decide), if_neg (by decide), if_neg (by decide), if_pos (by decide), howManyOf_X hX hn hV, bd_s], by rw [p6_countOf, if_neg (by decide), if_neg (by decide), if_neg (by decide), if_neg (by decide), if_neg (by decide), if_pos (by decide), hawks_Y h0 hY hn hV, bd_s]⟩
  · refine ⟨_, by rw [p5_counted, if_neg (by decide), if_neg (by decide), if_neg (by decide), if_neg (by decide), if_neg (by decide), if_neg (by decide), if_pos (by decide), howMany_X (Or.inl rfl), bd_s], ?_⟩
    rw [p6_countOf, if_neg (by decide), if_neg (by decide), if_neg (by decide), if_neg (by decide), if_neg (by decide), if_neg (by decide), show p6_thereOf (nI 6) MY = _ from thereOf_Y6 MY, bd_s]
    have e : tot 6 (fun r => one (0 ≤ MY.1 3 r)) = tot (szS 1) (fun r => one (¬ MX.1 (1 + 1) r = -1)) := tot_eq (n := 6) (fun r hr => by
      rcases rowThere hR hr with ⟨a, b⟩ | ⟨m, hm, a, b, _⟩
      · show one (0 ≤ MY.1 3 r) = one (¬ MX.1 2 r = -1)
        rw [one_f (by rw [b]; decide), one_f (fun z => z a)]
      · show one (0 ≤ MY.1 3 r) = one (¬ MX.1 2 r = -1)
        rw [one_t (by rw [b]; exact nI_pos' (by omega)), one_t (by rw [a]; exact nI_nm1 (by omega))])
    rw [e]
  · refine ⟨_, by rw [p5_counted, if_neg (by decide), if_neg (by decide), if_neg (by decide), if_neg (by decide), if_neg (by decide), if_neg (by decide), if_neg (by decide), if_pos (by decide), howMany_X (Or.inr rfl), bd_s], ?_⟩
    rw [p6_countOf, if_neg (by decide), if_neg (by decide), if_neg (by decide), if_neg (by decide), if_neg (by decide), if_neg (by decide), show p6_thereOf (nI 7) MY = _ from thereOf_Y7 MY, bd_s]
    have e0 : tot 6 (fun r => one (r < 4 ∧ ¬ MY.1 5 r < 0)) = tot 4 (fun r => one (r < 4 ∧ ¬ MY.1 5 r < 0)) := tot_tail (m := 4) (k := 2) (fun i h1 h2 => one_f (fun z => by omega))
    have e : tot 4 (fun r => one (r < 4 ∧ ¬ MY.1 5 r < 0)) = tot (szS 4) (fun r => one (¬ MX.1 (4 + 1) r = -1)) := tot_eq (n := 4) (fun r hr => by
      rcases txtThere hR hr with ⟨a, b⟩ | ⟨m, hm, a, b, _⟩
      · show one (r < 4 ∧ ¬ MY.1 5 r < 0) = one (¬ MX.1 5 r = -1)
        rw [one_f (fun z => z.2 (by rw [b]; decide)), one_f (fun z => z a)]
      · show one (r < 4 ∧ ¬ MY.1 5 r < 0) = one (¬ MX.1 5 r = -1)
        rw [one_t ⟨hr, by rw [b]; exact nI_pos (by omega)⟩, one_t (by rw [a]; exact nI_nm1 (by omega))])
    rw [e0, e]
  · refine ⟨_, by rw [p5_counted, if_neg (by decide), if_neg (by decide), if_neg (by decide), if_neg (by decide), if_neg (by decide), if_neg (by decide), if_neg (by decide), if_neg (by decide), keptLanes_X, bd_s], ?_⟩
    rw [p6_countOf, if_neg (by decide), if_neg (by decide), if_neg (by decide), if_neg (by decide), if_neg (by decide), if_neg (by decide), show p6_thereOf (nI 8) MY = _ from thereOf_Y8 MY, bd_s]
    have e0 : tot 6 (fun r => one (r < 3 ∧ ¬ MY.1 1 (991 * (1 + r)) < 0)) = tot 3 (fun r => one (r < 3 ∧ ¬ MY.1 1 (991 * (1 + r)) < 0)) := tot_tail (m := 3) (k := 3) (fun i h1 h2 => one_f (fun z => by omega))
    have e : tot 3 (fun r => one (r < 3 ∧ ¬ MY.1 1 (991 * (1 + r)) < 0)) = tot 3 (fun k => one (¬ MX.1 (27 + 9 * k) 0 ≤ 0)) := tot_eq (n := 3) (fun r hr => by
      rcases kept_there hR hr with ⟨a, b⟩ | ⟨m, e, h1, h2, h3, a, _, b⟩
      · show one (r < 3 ∧ ¬ MY.1 1 (991 * (1 + r)) < 0) = one (¬ MX.1 (27 + 9 * r) 0 ≤ 0)
        rw [one_f (fun z => z.2 (by rw [b]; decide)), one_f (fun z => z (by rw [a]; decide))]
      · show one (r < 3 ∧ ¬ MY.1 1 (991 * (1 + r)) < 0) = one (¬ MX.1 (27 + 9 * r) 0 ≤ 0)
        rw [one_t ⟨hr, by rw [b]; exact nI_pos (by omega)⟩, one_t (by rw [a]; exact nI_nle h1 (by omega))])
    rw [e0, e]
theorem ag_count (a1 : Int32) (MX MY : SX) (hR : Rel MX MY) : Ag (p5_count a1 MX) (p6_count a1 MY) := by
  rw [p5_count, p6_count, show p6_in a1.toInt64 0 8 MY = _ from in_YI a1 0 8 MY, bd_s, it01]
  rcases arg3 a1 0 8 (by decide) (by decide) with ⟨h1, h2⟩ | ⟨h1, h2, h3⟩ | ⟨f, _, hf, rfl⟩
  · rw [if_pos (show a1 < 0 from h1), if_neg (show ¬ (0 ≤ a1 ∧ a1 ≤ 8) from h2)]
    exact ag_no hR _
  · rw [if_neg (show ¬ a1 < 0 from h1), if_neg (show ¬ (0 ≤ a1 ∧ a1 ≤ 8) from h3), if_pos (show 9 ≤ a1 from ?_)]
    · exact ag_no hR _
    · have h4 : (8 : Int32) < a1 := h2
      rw [Int32.lt_iff_toInt_lt] at h4
      rw [Int32.le_iff_toInt_le]
      have e1 : (9 : Int32).toInt = 9 := rfl
      have e2 : (8 : Int32).toInt = 8 := rfl
      omega
  · obtain ⟨v, e1, e2⟩ := counted_ag hR (f := f) (by omega)
    rw [if_neg (show ¬ nI f < 0 from nI_pos (by omega)), if_neg (show ¬ 9 ≤ nI f from nI_ge (b := 9) (by omega) (by omega)), if_pos (show 0 ≤ nI f ∧ nI f ≤ 8 from ⟨nI_pos' (by omega), nI_le (b := 8) (by omega) (by decide)⟩), e1, e2, bd_s, bd_s]
    exact ag_no hR _
