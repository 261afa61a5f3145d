/-! what stands at hand -/
def Here (MX MY : SX) (n d : Nat) (σ : LV) : Prop := n ≤ 6 ∧ d ≤ 40 ∧ MY.1 0 1 = nI n ∧ XRep 17 MX n σ ∧ YRep 0 MY n σ ∧ Valid n d σ ∧ MX.1 (17 + 7) 1 = nI d ∧ MY.1 1 0 = nI d
theorem rel_here {MX MY : SX} (hR : Rel MX MY) : ∃ n d σ, Here MX MY n d σ := by
  obtain ⟨_, _, _, n, hn, h0, ⟨d, st, _, hl⟩, _⟩ := hR
  obtain ⟨g1, g2, g3, g4, g5, g6, g7⟩ := hl
  exact ⟨n, d, st d, by omega, g1, h0, g2, g4, g7 d (Nat.le_refl d), g3, g5⟩
theorem shop_arg (a : Int32) {n : Nat} (hn : n ≤ 6) : ¬ (0 ≤ a ∧ a < nI n) ∨ ∃ s, s < n ∧ a = nI s := by
  rcases ix3 a n (by omega) with h | h | h
  · exact Or.inl (fun z => absurd z.1 (Int32.not_le.mpr h))
  · exact Or.inl (fun z => absurd z.2 (Int32.not_lt.mpr h))
  · exact Or.inr h
theorem shop_in {s n : Nat} (hn : n ≤ 6) (hs : s < n) : 0 ≤ nI s ∧ nI s < nI n := ⟨nI_pos' (by omega), nI_lt hs (by omega)⟩
theorem isShop_X1 {b n : Nat} {M : SX} {σ : LV} (hX : XRep b M n σ) (hn : n ≤ 6) {s : Nat} (hs : s < n) : p1_isShop b (nI s) M = some (1, M) := by rw [isShop_X hX, if_pos (shop_in hn hs)]
theorem isShop_Y1 {n : Nat} {M : SX} (h0 : M.1 0 1 = nI n) (hn : n ≤ 6) {s : Nat} (hs : s < n) : p6_isShop (nI s) M = some (1, M) := by rw [isShop_Y h0 hn, if_pos (shop_in hn hs)]
theorem i10 : ¬ (1 : Int32) = 0 := by decide
/-- both ask first whether it is a shop -/
theorem ag_shopg {MX MY : SX} (hR : Rel MX MY) {n d : Nat} {σ : LV} (hH : Here MX MY n d σ) (a : Int32) {f g : Int32 → SX → Option (Int32 × SX)} (h : ∀ s, s < n → a = nI s → Ag (f 1 MX) (g 1 MY)) (hf : f 0 MX = some (-1, MX)) (hg : g 0 MY = some (-1, MY)) : Ag (bd (p1_isShop 17 a MX) f) (bd (p6_isShop a MY) g) := by
  obtain ⟨hn, hd, h0, hX, hY, hV, h7, h1⟩ := hH
  rw [isShop_X hX, isShop_Y h0 hn, bd_s, bd_s]
  rcases shop_arg a hn with h | ⟨s, hs, rfl⟩
  · rw [if_neg h, hf, hg]
    exact ⟨_, _, _, rfl, rfl, hR⟩
  · rw [if_pos (shop_in hn hs)]
    exact h s hs rfl
/-- a number between two small ones -/
def toldV (n : Nat) (σ : LV) (s f : Nat) : Int32 := match f with
  | 0 => nI (σ 0 s)
  | 1 => nI (σ 1 s)
  | 2 => nI (σ 2 s)
  | 3 => hv (σ 3 s)
  | 4 => nI (due σ s 0)
  | 5 => nI (σ 5 s)
  | _ => nI (held n σ s)
theorem seven {f : Nat} (h : f < 7) : f = 0 ∨ f = 1 ∨ f = 2 ∨ f = 3 ∨ f = 4 ∨ f = 5 ∨ f = 6 := by omega
theorem told_X {MX MY : SX} {n d : Nat} {σ : LV} (hH : Here MX MY n d σ) {s f : Nat} (hs : s < n) (hf : f < 7) : p5_toldOfShop (nI s) (nI f) MX = some (toldV n σ s f, MX) := by
  obtain ⟨hn, hd, h0, hX, hY, hV, h7, h1⟩ := hH
  have hx := hX.2 s hs
  have hb : bIn (nI s) 6 = true := bIn_nI (by omega) (by decide)
  have hc : (nI s).toNatClampNeg = s := nI_clamp (by omega)
  rcases seven hf with rfl | rfl | rfl | rfl | rfl | rfl | rfl
  · rw [p5_toldOfShop, if_pos (by decide), gd_of hb, hc, hx.1]; rfl
  · rw [p5_toldOfShop, if_neg (by decide), if_pos (by decide), gd_of hb, hc, hx.2.1]; rfl
  · rw [p5_toldOfShop, if_neg (by decide), if_neg (by decide), if_pos (by decide), gd_of hb, hc, hx.2.2.1]; rfl
  · rw [p5_toldOfShop, if_neg (by decide), if_neg (by decide), if_neg (by decide), if_pos (by decide), gd_of hb, hc, hx.2.2.2.1]; rfl
  · rw [p5_toldOfShop, if_neg (by decide), if_neg (by decide), if_neg (by decide), if_neg (by decide), if_pos (by decide), show p1_dueOf 17 (nI s) 0 MX = _ from dueOf_X hX hn hV hd hs (w := 0) (by omega), bd_s]; rfl
  · rw [p5_toldOfShop, if_neg (by decide), if_neg (by decide), if_neg (by decide), if_neg (by decide), if_neg (by decide), if_pos (by decide), gd_of hb, hc, hx.2.2.2.2.2]; rfl
  · rw [p5_toldOfShop, if_neg (by decide), if_neg (by decide), if_neg (by decide), if_neg (by decide), if_neg (by decide), if_neg (by decide), heldBy_X hX hn hV hs, bd_s]; rfl
theorem told_Y {MX MY : SX} {n d : Nat} {σ : LV} (hH : Here MX MY n d σ) {s f : Nat} (hs : s < n) (hf : f < 7) : p6_toldOf (nI s) (nI f) MY = some (toldV n σ s f, MY) := by
  obtain ⟨hn, hd, h0, hX, hY, hV, h7, h1⟩ := hH
  have hy := hY s hs
  simp only [Nat.zero_add] at hy
  have hs6 : s < 6 := by omega
  have hb : bIn (nI s) 6 = true := bIn_nI (by omega) (by decide)
  have hc : (nI s).toNatClampNeg = s := nI_clamp (by omega)
  rcases seven hf with rfl | rfl | rfl | rfl | rfl | rfl | rfl
  · rw [p6_toldOf, if_pos (by decide), gd_of hb, hc, hy.1]; rfl
  · rw [p6_toldOf, if_neg (by decide), if_pos (by decide), gd_of (ix1 hs6).1, (ix1 hs6).2, hy.2.1]; rfl
  · rw [p6_toldOf, if_neg (by decide), if_neg (by decide), if_pos (by decide), gd_of (ix25 hs6).1, (ix25 hs6).2, hy.2.2.1]; rfl
  · rw [p6_toldOf, if_neg (by decide), if_neg (by decide), if_neg (by decide), if_pos (by decide), gd_of (ix7 hs6).1, (ix7 hs6).2, hy.2.2.2.1]; rfl
  · rw [p6_toldOf, if_neg (by decide), if_neg (by decide), if_neg (by decide), if_neg (by decide), if_pos (by decide), show p6_dueIn (nI s) 0 MY = _ from dueIn_Y hY hn hV hd hs (w := 0) (by omega), bd_s]; rfl
  · rw [p6_toldOf, if_neg (by decide), if_neg (by decide), if_neg (by decide), if_neg (by decide), if_neg (by decide), if_pos (by decide), gd_of (ix19 hs6).1, (ix19 hs6).2, hy.2.2.2.2.2]; rfl
  · rw [p6_toldOf, if_neg (by decide), if_neg (by decide), if_neg (by decide), if_neg (by decide), if_neg (by decide), if_neg (by decide), heldBy_Y h0 hY hn hV hs, bd_s]; rfl
theorem ag_no {MX MY : SX} (hR : Rel MX MY) (r : Int32) : Ag (some (r, MX)) (some (r, MY)) := ⟨r, _, _, rfl, rfl, hR⟩
/-- both ask whether a number lies between: below lo, above hi, or one of them -/
theorem arg3 (a : Int32) (lo hi : Nat) (hl : lo ≤ hi) (h : hi < 2 ^ 31 - 1) : (a < nI lo ∧ ¬ (nI lo ≤ a ∧ a ≤ nI hi)) ∨ (¬ a < nI lo ∧ nI hi < a ∧ ¬ (nI lo ≤ a ∧ a ≤ nI hi)) ∨ ∃ s, lo ≤ s ∧ s ≤ hi ∧ a = nI s := by
  by_cases h1 : a < nI lo
  · exact Or.inl ⟨h1, fun z => absurd z.1 (Int32.not_le.mpr h1)⟩
  · by_cases h2 : nI hi < a
    · exact Or.inr (Or.inl ⟨h1, h2, fun z => absurd z.2 (Int32.not_le.mpr h2)⟩)
    · refine Or.inr (Or.inr ?_)
      rcases ix3 a (hi + 1) (by omega) with h3 | h3 | ⟨s, hs, rfl⟩
      · exact absurd (Int32.lt_of_lt_of_le h3 (nI_pos' (by omega))) h1
      · exact absurd (Int32.lt_of_lt_of_le (nI_lt (by omega : hi < hi + 1) (by omega)) h3) h2
      · exact ⟨s, Nat.not_lt.mp (fun z => h1 (nI_lt z (by omega))), by omega, rfl⟩
theorem le_of3 {s hi : Nat} (h : s ≤ hi) (hh : hi < 2 ^ 31) : nI s ≤ nI hi := nI_le h hh
theorem ag_shop (a1 a2 : Int32) (MX MY : SX) (hR : Rel MX MY) : Ag (p5_shop a1 a2 MX) (p6_shop a1 a2 MY) := by
  obtain ⟨n, d, σ, hH⟩ := rel_here hR
  rw [p5_shop, p6_shop]
  refine ag_shopg hR hH a1 (fun s hs e => ?_) (by rw [if_pos rfl]) (by rw [if_pos rfl])
  subst e
  rw [if_neg i10, if_neg i10, show p6_in a2.toInt64 0 6 MY = _ from in_YI a2 0 6 MY, bd_s, it01]
  rcases arg3 a2 0 6 (by decide) (by decide) with ⟨h1, h2⟩ | ⟨h1, h2, h3⟩ | ⟨f, _, hf, rfl⟩
  · rw [if_pos (show a2 < 0 from h1), if_neg (show ¬ (0 ≤ a2 ∧ a2 ≤ 6) from h2)]
    exact ag_no hR _
  · rw [if_neg (show ¬ a2 < 0 from h1), if_neg (show ¬ (0 ≤ a2 ∧ a2 ≤ 6) from h3), if_neg (show ¬ a2 < 7 from fun z => ?_)]
    · exact ag_no hR _
    · have h4 : (6 : Int32) < a2 := h2
      rw [Int32.lt_iff_toInt_lt] at z h4
      have e1 : (7 : Int32).toInt = 7 := rfl
      have e2 : (6 : Int32).toInt = 6 := rfl
      omega
  · rw [if_neg (show ¬ nI f < 0 from Int32.not_lt.mpr (nI_pos' (by omega))), if_pos (show nI f < 7 from nI_lt (b := 7) (by omega) (by decide)), if_pos (show 0 ≤ nI f ∧ nI f ≤ 6 from ⟨nI_pos' (by omega), nI_le (b := 6) (by omega) (by decide)⟩), told_X hH hs (by omega), told_Y hH hs (by omega), bd_s, bd_s, lt_v, tell_Y, bd_s]
    exact ⟨_, _, _, rfl, rfl, rel_tell _ hR⟩
theorem ag_worth (a1 : Int32) (MX MY : SX) (hR : Rel MX MY) : Ag (p5_worth a1 MX) (p6_worth a1 MY) := by
  obtain ⟨n, d, σ, hH⟩ := rel_here hR
  rw [p5_worth, p6_worth]
  refine ag_shopg hR hH a1 (fun s hs e => ?_) (by rw [if_pos rfl]) (by rw [if_pos rfl])
  subst e
  obtain ⟨hn, hd, h0, hX, hY, hV, h7, h1⟩ := hH
  have hs6 : s < 6 := by omega
  have hy := hY s hs
  simp only [Nat.zero_add] at hy
  have hx := hX.2 s hs
  rw [if_neg i10, if_neg i10, gd_of (bIn_nI hs6 (by decide)), gd_of (ix1 hs6).1, gd_of (ix25 hs6).1, show p1_dueTo 17 (nI s) 0 MX = _ from dueTo_X hX hn hV hd hs (w := 0) (by omega), show p6_dueTo (nI s) 0 MY = _ from dueTo_Y h0 hY hn hV hd hs (w := 0) (by omega), bd_s, bd_s, lt_v, show p1_dueOf 17 (nI s) 0 MX = _ from dueOf_X hX hn hV hd hs (w := 0) (by omega), show p6_dueIn (nI s) 0 MY = _ from dueIn_Y hY hn hV hd hs (w := 0) (by omega), bd_s, bd_s, nI_clamp (by omega), (ix1 hs6).2, (ix25 hs6).2, hx.2.1, hx.2.2.1, hy.2.1, hy.2.2.1]
  refine ⟨_, _, _, rfl, ?_, hR⟩
  refine congrArg (fun z => some (z, MY)) ?_
  rw [Int32.sub_eq_add_neg, Int32.sub_eq_add_neg]
  ac_rfl
