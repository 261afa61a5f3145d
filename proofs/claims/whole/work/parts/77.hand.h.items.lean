/-! an item read: by both alike -/
def Item (t len i : Nat) (MX MY : SX) (z : Option (Int32 × SX)) : Prop :=
  (∃ e MX' MY', e ≤ len ∧ (∀ f, len - i < f → LX t len f i MX = some (nI e, MX')) ∧ z = some (0, MY') ∧ MY'.1 0 13 = nI e ∧ SameX MX MX' ∧ SameY MY MY') ∨
  (∃ e k q σ MX' MY', i < e ∧ e ≤ len ∧ (∀ f, LX t len (f + (e - i)) i MX = LX t len f e MX') ∧ z = some (1, MY') ∧ RX MX' 0 q k σ ∧ YS MY' t len e k q ∧ YF MY' k σ ∧ DV k σ ∧ q ≤ e ∧ SameX MX MX' ∧ SameY MY MY')
def noDig (y : Nat → Int32) (len p : Nat) : Prop := p = len ∨ (p < len ∧ (y p - 48 < 0 ∨ ¬ y p - 48 ≤ 9) ∧ ∀ f, f ≤ 9 → ¬ y p = nI (48 + f))
theorem nextSign (y : Nat → Int32) {len p : Nat} (h : p ≤ len) : noDig y len p ∨ (p < len ∧ ∃ f, f ≤ 9 ∧ y p = nI (48 + f)) := by
  by_cases c : p = len
  · exact Or.inl (Or.inl c)
  · rcases dig (y p) with z | ⟨z1, z2⟩
    · exact Or.inr ⟨by omega, z⟩
    · exact Or.inl (Or.inr ⟨by omega, z1, z2⟩)
theorem stopX {t len p f a : Nat} {y : Nat → Int32} {M : SX} (ht : t < 4) (hl : len ≤ 60) (hT : TX t len y M) (h : M.1 7 1 = nI a) (h0 : 0 < a) (ha : a < 10) (hs : noDig y len p) : LX t len (f + 1) p M = some (nI p, M) := by
  rcases hs with rfl | ⟨h1, h2, _⟩
  · exact LX_ea h h0 ha
  · exact LX_no ht hl h1 hT (tx_nodig h h0 ha h2)
theorem stopY {t len p k q : Nat} {y : Nat → Int32} {M : SX} (ht : t < 4) (hl : len ≤ 60) (h : YS M t len p k q) (hT : TY t len y M) {lo hi : Nat} (hlo : lo ≤ 1) (hh : hi ≤ 9) (u : Int32) (hs : noDig y len p) : p6_figure (nI lo) (nI hi) u M = some (-9, M) := by
  rcases hs with rfl | ⟨h1, _, h3⟩
  · exact fig_e h _ _ _
  · exact fig_n ht hl h h1 hT hlo hh u h3
theorem RX.aw {M : SX} {a q k : Nat} {σ : LV} (h : RX M a q k σ) (b : Nat) : RX (wI M 7 1 (nI b)) b q k σ := by
  obtain ⟨h1, h2, h3, h4, h5⟩ := h
  refine ⟨by rw [wI_k, if_pos rfl], by rw [wI_k, if_neg (by decide)]; exact h2, by rw [wI_nk (by decide)]; exact h3, fun s hs => ?_, by rw [wI_nk (by decide)]; exact h5⟩
  have := h4 s hs
  rw [wI_nk (by decide), wI_nk (by decide), wI_nk (by decide), wI_nk (by decide), wI_nk (by decide), wI_nk (by decide)]
  exact this
theorem RX.bg {M : SX} {a q k : Nat} {σ : LV} (h : RX M a q k σ) : RX (wI M 7 2 1) a 1 k σ := by
  obtain ⟨h1, h2, h3, h4, h5⟩ := h
  refine ⟨by rw [wI_k, if_neg (by decide)]; exact h1, by rw [wI_k, if_pos rfl]; rfl, by rw [wI_nk (by decide)]; exact h3, fun s hs => ?_, by rw [wI_nk (by decide)]; exact h5⟩
  have := h4 s hs
  rw [wI_nk (by decide), wI_nk (by decide), wI_nk (by decide), wI_nk (by decide), wI_nk (by decide), wI_nk (by decide)]
  exact this
theorem RX.ot {M : SX} {a q k j : Nat} {v : Int32} {σ : LV} (h : RX M a q k σ) (hj : 3 ≤ j) : RX (wI M 7 j v) a q k σ := by
  obtain ⟨h1, h2, h3, h4, h5⟩ := h
  refine ⟨by rw [wI_k, if_neg (by omega)]; exact h1, by rw [wI_k, if_neg (by omega)]; exact h2, by rw [wI_nk (by decide)]; exact h3, fun s hs => ?_, by rw [wI_nk (by decide)]; exact h5⟩
  have := h4 s hs
  rw [wI_nk (by decide), wI_nk (by decide), wI_nk (by decide), wI_nk (by decide), wI_nk (by decide), wI_nk (by decide)]
  exact this
theorem YF.nk {M M' : SX} {k : Nat} {σ : LV} (h : YF M k σ) (e : M'.1 8 = M.1 8) : YF M' k σ := by
  unfold YF at *
  rw [e]
  exact h
/-! a shop -/
def addS (σ : LV) (k w f1 f2 : Nat) : LV := fun g s => if s = k then (if g = 0 then w else if g = 1 then f1 else if g = 2 then f2 else 0) else σ g s
theorem addS_ne (σ : LV) {k w f1 f2 s : Nat} (h : ¬ s = k) (g : Nat) : addS σ k w f1 f2 g s = σ g s := if_neg h
theorem addS_DV {σ : LV} {k w f1 f2 : Nat} (h : DV k σ) (hk : k < 6) (hw : w ≤ 5) (h1 : f1 ≤ 9) (h2 : f2 ≤ 9) : DV (k + 1) (addS σ k w f1 f2) := by
  refine ⟨by omega, fun s hs => ?_⟩
  by_cases c : s = k
  · subst c
    have e0 : addS σ s w f1 f2 0 s = w := by simp [addS]
    have e1 : addS σ s w f1 f2 1 s = f1 := by simp [addS]
    have e2 : addS σ s w f1 f2 2 s = f2 := by simp [addS]
    have e3 : addS σ s w f1 f2 3 s = 0 := by simp [addS]
    have e4 : addS σ s w f1 f2 4 s = 0 := by simp [addS]
    have e5 : addS σ s w f1 f2 5 s = 0 := by simp [addS]
    rw [e0, e1, e2, e3, e4, e5]
    exact ⟨hw, h1, h2, by omega, by omega, by omega, rfl, fun _ => rfl, fun z => by omega⟩
  · obtain ⟨a0, a1, a2, a3, a4, a5, a6, a7, a8⟩ := h.2 s (by omega)
    rw [addS_ne σ c, addS_ne σ c, addS_ne σ c, addS_ne σ c, addS_ne σ c, addS_ne σ c]
    exact ⟨a0, a1, a2, by omega, a4, a5, a6, a7, a8⟩
def shX (M : SX) (k w f1 f2 : Nat) : SX := wI (wI (wI (wI (bgX M k w) (8 + 2) k (nI f1)) 7 1 2) (8 + 3) k (nI f2)) 7 1 0
theorem shX_RX {M : SX} {k w f1 f2 : Nat} {σ : LV} (h : RX M 0 0 k σ) : RX (shX M k w f1 f2) 0 0 (k + 1) (addS σ k w f1 f2) := by
  obtain ⟨h1, h2, h3, h4, h5⟩ := h
  refine ⟨?_, ?_, ?_, fun s hs => ?_, ?_⟩
  · unfold shX; rw [wI_k, if_pos rfl]; rfl
  · simpa [shX, bgX, wI_1, upd] using h2
  · simp [shX, bgX, wI_1, upd]
  · by_cases c : s = k
    · subst c
      simp [shX, bgX, wI_1, upd, addS, hv, nI_0]
    · rw [addS_ne σ c, addS_ne σ c, addS_ne σ c, addS_ne σ c, addS_ne σ c, addS_ne σ c]
      simpa [shX, bgX, wI_1, upd, c] using h4 s (by omega)
  · simpa [shX, bgX, wI_1, upd] using h5
def shY (M : SX) (k w f1 f2 : Nat) : SX := wI (wI (wI (wI (wI (wI M 8 (5 * k) (nI w)) 8 (5 * k + 1) (nI f1)) 8 (5 * k + 2) (nI f2)) 8 (5 * k + 3) (-9)) 8 (5 * k + 4) 0) 0 16 (nI (k + 1))
theorem shY_out {M : SX} {k w f1 f2 j : Nat} (h : j < 5 * k) : (shY M k w f1 f2).1 8 j = M.1 8 j := by
  unfold shY
  rw [wI_nk (by decide), wI_k, if_neg (by omega), wI_k, if_neg (by omega), wI_k, if_neg (by omega), wI_k, if_neg (by omega), wI_k, if_neg (by omega)]
theorem shY_YF {M : SX} {k w f1 f2 : Nat} {σ : LV} (h : YF M k σ) : YF (shY M k w f1 f2) (k + 1) (addS σ k w f1 f2) := by
  intro s hs
  by_cases c : s = k
  · subst c
    have e0 : addS σ s w f1 f2 0 s = w := by simp [addS]
    have e1 : addS σ s w f1 f2 1 s = f1 := by simp [addS]
    have e2 : addS σ s w f1 f2 2 s = f2 := by simp [addS]
    have e3 : addS σ s w f1 f2 3 s = 0 := by simp [addS]
    have e4 : addS σ s w f1 f2 4 s = 0 := by simp [addS]
    rw [e0, e1, e2, e3, e4]
    unfold shY
    refine ⟨?_, ?_, ?_, ?_, ?_⟩
    · rw [wI_nk (by decide), wI_k, if_neg (by omega), wI_k, if_neg (by omega), wI_k, if_neg (by omega), wI_k, if_neg (by omega), wI_k, if_pos rfl]
    · rw [wI_nk (by decide), wI_k, if_neg (by omega), wI_k, if_neg (by omega), wI_k, if_neg (by omega), wI_k, if_pos rfl]
    · rw [wI_nk (by decide), wI_k, if_neg (by omega), wI_k, if_neg (by omega), wI_k, if_pos rfl]
    · rw [wI_nk (by decide), wI_k, if_neg (by omega), wI_k, if_pos rfl]; rfl
    · rw [wI_nk (by decide), wI_k, if_pos rfl]; rfl
  · rw [addS_ne σ c, addS_ne σ c, addS_ne σ c, addS_ne σ c, addS_ne σ c, shY_out (by omega), shY_out (by omega), shY_out (by omega), shY_out (by omega), shY_out (by omega)]
    exact h s (by omega)
theorem shY_YS {M : SX} {t len p k q w f1 f2 : Nat} (h : YS M t len p k q) : YS (shY M k w f1 f2) t len p (k + 1) q := by
  obtain ⟨a, b, c, d, e⟩ := h
  have o : ∀ j, ¬ j = 16 → (shY M k w f1 f2).1 0 j = M.1 0 j := fun j hj => by
    unfold shY
    rw [wI_k, if_neg hj, wI_nk (by decide), wI_nk (by decide), wI_nk (by decide), wI_nk (by decide), wI_nk (by decide)]
  exact ⟨by rw [o 12 (by decide)]; exact a, by rw [o 13 (by decide)]; exact b, by rw [o 14 (by decide)]; exact c, by unfold shY; rw [wI_k, if_pos rfl], by rw [o 17 (by decide)]; exact e⟩
theorem shY_same (M : SX) (k w f1 f2 : Nat) : SameY M (shY M k w f1 f2) := (((((same_wIY (by omega)).trans (same_wIY (by omega))).trans (same_wIY (by omega))).trans (same_wIY (by omega))).trans (same_wIY (by omega))).trans (same_wI0 (by omega))
theorem bgX_same (M : SX) (k w : Nat) : SameX M (bgX M k w) := (((((same_wI (by omega)).trans (same_wI (by omega))).trans (same_wI (by omega))).trans (same_wI (by omega))).trans (same_wI (by omega))).trans (same_wI (by omega))
theorem rs72 {M : SX} {t len p k q w f1 f2 : Nat} (h : YS M t len p k q) (hk : k < 6) (h2 : f2 ≤ 9) : p6_readsShop_72 (nI w) (nI f1) (nI f2) M = some (1, shY M k w f1 f2) := by
  have e : (wI (wI (wI (wI (wI M 8 (5 * k) (nI w)) 8 (5 * k + 1) (nI f1)) 8 (5 * k + 2) (nI f2)) 8 (5 * k + 3) (-9)) 8 (5 * k + 4) 0).1 0 16 = nI k := by
    rw [wI_nk (by decide), wI_nk (by decide), wI_nk (by decide), wI_nk (by decide), wI_nk (by decide)]
    exact h.2.2.2.1
  rw [p6_readsShop_72, if_neg (nI_nm9 (by omega)), h.2.2.2.1, show (5 : Int32) * nI k = nI (5 * k) from pk_mul 5 k, lt_v, gd_of (bIn_nI (by omega) (by decide)), nI_clamp (by omega), lt_v, nI_1, gd_of (bIn_nI (by omega) (by decide)), nI_clamp (by omega), lt_v, show nI (5 * k) + 2 = nI (5 * k + 2) from nI_add (5 * k) 2, gd_of (bIn_nI (by omega) (by decide)), nI_clamp (by omega), lt_v, show nI (5 * k) + 3 = nI (5 * k + 3) from nI_add (5 * k) 3, gd_of (bIn_nI (by omega) (by decide)), nI_clamp (by omega), lt_v, show nI (5 * k) + 4 = nI (5 * k + 4) from nI_add (5 * k) 4, gd_of (bIn_nI (by omega) (by decide)), nI_clamp (by omega), lt_v, e, nI_1, lt_v]
  rfl
theorem rs_no {M : SX} {t len p k q : Nat} {y : Nat → Int32} (ht : t < 4) (hl : len ≤ 60) (h : YS M t len p k q) (hp : p < len) (hT : TY t len y M) (hk : k ≤ 6) (hq : q ≤ 60) (hn : kindC (y p) = -9 ∨ ¬ q = 0 ∨ k = 6) : p6_readsShop M = some (0, M) := by
  rw [p6_readsShop, here_Y ht hl h hp hT, bd_s, kindOf_Y, bd_s]
  by_cases a : kindC (y p) = -9
  · rw [if_pos a]
  · rw [if_neg a, h.2.2.2.1]
    by_cases b : k = 6
    · rw [b, if_pos (show nI 6 = 6 from rfl)]
    · rw [if_neg (show ¬ nI k = 6 from fun z => b ((nI_eq (b := 6) (by omega) (by decide)).mp z)), h.2.2.2.2]
      rcases hn with hn | hn | hn
      · exact absurd hn a
      · rw [if_neg (nI_nle (by omega) (by omega))]
      · exact absurd hn b
theorem rs_go {M : SX} {t len p k w : Nat} {y : Nat → Int32} (ht : t < 4) (hl : len ≤ 60) (h : YS M t len p k 0) (hp : p < len) (hT : TY t len y M) (hw : kindC (y p) = nI w) (hw5 : w ≤ 5) (hk : k < 6) : p6_readsShop M = bd (p6_figure (nI 0) (nI 9) (-9) (wI M 0 13 (nI (p + 1)))) (fun r13 M12 => if r13 = (-9 : Int32) then p6_readsShop_72 (nI w) r13 (-9) M12 else bd (p6_figure (nI 0) (nI 9) (-9) M12) (fun r17 M16 => p6_readsShop_72 (nI w) r13 r17 M16)) := by
  rw [p6_readsShop, here_Y ht hl h hp hT, bd_s, kindOf_Y, bd_s, hw, if_neg (nI_nm9 (by omega)), h.2.2.2.1, if_neg (show ¬ nI k = 6 from fun z => by have := (nI_eq (b := 6) (by omega) (by decide)).mp z; omega), h.2.2.2.2, if_pos (show nI 0 ≤ 0 by decide), h.2.1, nI_1, lt_v]
  rfl
theorem item_shop {t len i k q : Nat} {σ : LV} {y : Nat → Int32} {MX MY : SX} (ht : t < 4) (hl : len ≤ 60) (hi : i < len) (hTX : TX t len y MX) (hTY : TY t len y MY) (hX : RX MX 0 q k σ) (hY : YS MY t len i k q) (hF : YF MY k σ) (hD : DV k σ) (hq : q ≤ i) (h1 : ¬ y i = 32) (h2 : ¬ y i = 116) : Item t len i MX MY (p6_readsShop MY) := by
  have hk6 := hD.1
  by_cases hno : kindC (y i) = -9 ∨ ¬ q = 0 ∨ k = 6
  · refine Or.inl ⟨i, MX, MY, by omega, fun f hf => ?_, rs_no ht hl hY hi hTY hk6 (by omega) hno, hY.2.1, SameX.refl _, SameY.refl _⟩
    obtain ⟨g, rfl⟩ : ∃ g, f = g + 1 := ⟨f - 1, by omega⟩
    exact LX_no ht hl hi hTX (tx_b0 hX hk6 h1 h2 hno)
  · have hq0 : q = 0 := Classical.byContradiction (fun z => hno (Or.inr (Or.inl z)))
    subst hq0
    have hk : k < 6 := by
      have : ¬ k = 6 := fun z => hno (Or.inr (Or.inr z))
      omega
    obtain ⟨w, hw5, hw⟩ : ∃ w, w ≤ 5 ∧ kindC (y i) = nI w := by
      rcases kindC_or (y i) with z | z
      · exact absurd (Or.inl z) hno
      · exact z
    have tk1 := tx_b1 hX h1 h2 hw hw5 rfl hk
    have sX1 := bgX_same MX k w
    have sY1 : SameY MY (wI MY 0 13 (nI (i + 1))) := same_wI0 (by omega)
    have hY1 := hY.mv (i + 1)
    have TX1 := hTX.same sX1
    have TY1 := hTY.same sY1
    have a1 : (bgX MX k w).1 7 1 = nI 1 := by unfold bgX; rw [wI_k, if_pos rfl]; rfl
    have k1 : (bgX MX k w).1 8 0 = nI (k + 1) := by unfold bgX; rw [wI_nk (by decide), wI_k, if_pos rfl]
    have hgo := rs_go ht hl hY hi hTY hw hw5 hk
    rcases nextSign y (len := len) (p := i + 1) (by omega) with st | ⟨l1, f1, hf1, e1⟩
    · refine Or.inl ⟨i + 1, bgX MX k w, wI MY 0 13 (nI (i + 1)), by omega, fun f hf => ?_, ?_, hY1.2.1, sX1, sY1⟩
      · obtain ⟨g, rfl⟩ : ∃ g, f = g + 1 + 1 := ⟨f - 2, by omega⟩
        rw [LX_go ht hl hi hTX tk1]
        exact stopX ht hl TX1 a1 (by omega) (by omega) st
      · rw [hgo, stopY ht hl hY1 TY1 (by omega) (by omega) (-9) st, bd_s, if_pos rfl, p6_readsShop_72, if_pos rfl]
    · have tk2 := tx_c a1 k1 hk hf1
      rw [← e1] at tk2
      have fg1 : p6_figure (nI 0) (nI 9) (-9) (wI MY 0 13 (nI (i + 1))) = some (nI f1, wI (wI MY 0 13 (nI (i + 1))) 0 13 (nI (i + 1 + 1))) := by
        rw [fig_d ht hl hY1 l1 TY1 (by omega) (by omega) (-9) hf1 e1, if_pos ⟨by omega, hf1, nI_nm9 (by omega)⟩]
      have sY2 : SameY MY (wI (wI MY 0 13 (nI (i + 1))) 0 13 (nI (i + 1 + 1))) := sY1.trans (same_wI0 (by omega))
      have hY2 := hY1.mv (i + 1 + 1)
      have eY2 : (wI (wI MY 0 13 (nI (i + 1))) 0 13 (nI (i + 1 + 1))).1 8 = MY.1 8 := by rw [wI_nk (by decide), wI_nk (by decide)]
      generalize wI (wI MY 0 13 (nI (i + 1))) 0 13 (nI (i + 1 + 1)) = Y2 at fg1 sY2 hY2 eY2
      have sX2 : SameX MX (wI (wI (bgX MX k w) (8 + 2) k (nI f1)) 7 1 2) := (sX1.trans (same_wI (by omega))).trans (same_wI (by omega))
      have TX2 := hTX.same sX2
      have TY2 := hTY.same sY2
      have a2 : (wI (wI (bgX MX k w) (8 + 2) k (nI f1)) 7 1 2).1 7 1 = nI 2 := by rw [wI_k, if_pos rfl]; rfl
      have k2 : (wI (wI (bgX MX k w) (8 + 2) k (nI f1)) 7 1 2).1 8 0 = nI (k + 1) := by rw [wI_nk (by decide), wI_nk (by decide)]; exact k1
      rcases nextSign y (len := len) (p := i + 1 + 1) (by omega) with st | ⟨l2, f2, hf2, e2⟩
      · refine Or.inl ⟨i + 1 + 1, _, Y2, by omega, fun f hf => ?_, ?_, hY2.2.1, sX2, sY2⟩
        · obtain ⟨g, rfl⟩ : ∃ g, f = g + 1 + 1 + 1 := ⟨f - 3, by omega⟩
          rw [LX_go ht hl hi hTX tk1, LX_go ht hl l1 TX1 tk2]
          exact stopX ht hl TX2 a2 (by omega) (by omega) st
        · rw [hgo, fg1, bd_s, if_neg (nI_nm9 (by omega)), stopY ht hl hY2 TY2 (by omega) (by omega) (-9) st, bd_s, p6_readsShop_72, if_pos rfl]
      · have tk3 := tx_s a2 k2 hk hf2
        rw [← e2] at tk3
        have fg2 : p6_figure (nI 0) (nI 9) (-9) Y2 = some (nI f2, wI Y2 0 13 (nI (i + 1 + 1 + 1))) := by
          rw [fig_d ht hl hY2 l2 TY2 (by omega) (by omega) (-9) hf2 e2, if_pos ⟨by omega, hf2, nI_nm9 (by omega)⟩]
        have hY3 := hY2.mv (i + 1 + 1 + 1)
        have hF3 : YF (wI Y2 0 13 (nI (i + 1 + 1 + 1))) k σ := hF.nk (by rw [wI_nk (by decide), eY2])
        refine Or.inr ⟨i + 1 + 1 + 1, k + 1, 0, addS σ k w f1 f2, shX MX k w f1 f2, shY (wI Y2 0 13 (nI (i + 1 + 1 + 1))) k w f1 f2, by omega, by omega, fun f => ?_, ?_, shX_RX hX, shY_YS hY3, shY_YF hF3, addS_DV hD hk hw5 hf1 hf2, by omega, (sX2.trans (same_wI (by omega))).trans (same_wI (by omega)), (sY2.trans (same_wI0 (by omega))).trans (shY_same _ _ _ _ _)⟩
        · rw [show f + (i + 1 + 1 + 1 - i) = f + 1 + 1 + 1 by omega, LX_go ht hl hi hTX tk1, LX_go ht hl l1 TX1 tk2, LX_go ht hl l2 TX2 tk3]
          rfl
        · rw [hgo, fg1, bd_s, if_neg (nI_nm9 (by omega)), fg2, bd_s, rs72 hY3 hk hf2]
