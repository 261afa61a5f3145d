/-! a ticket -/
def tick (σ : LV) (p g l : Nat) : LV := fun a s => if s = p then (if a = 3 then g + 1 else if a = 4 then l else if a = 5 then 0 else σ a s) else σ a s
theorem tick_ne (σ : LV) {p g l s : Nat} (h : ¬ s = p) (a : Nat) : tick σ p g l a s = σ a s := if_neg h
theorem tick_at (σ : LV) (p g l : Nat) : tick σ p g l 0 p = σ 0 p ∧ tick σ p g l 1 p = σ 1 p ∧ tick σ p g l 2 p = σ 2 p ∧ tick σ p g l 3 p = g + 1 ∧ tick σ p g l 4 p = l ∧ tick σ p g l 5 p = 0 := by
  simp [tick]
theorem tick_DV {σ : LV} {k p g l : Nat} (h : DV k σ) (hp : p < k) (hg : g < k) (hn : g ≠ p) (h1 : 1 ≤ l) (hl : l ≤ 9) : DV k (tick σ p g l) := by
  refine ⟨h.1, fun s hs => ?_⟩
  obtain ⟨a0, a1, a2, a3, a4, a5, a6, a7, a8⟩ := h.2 s hs
  by_cases c : s = p
  · subst c
    obtain ⟨e0, e1, e2, e3, e4, e5⟩ := tick_at σ s g l
    rw [e0, e1, e2, e3, e4, e5]
    exact ⟨a0, a1, a2, by omega, by omega, hl, rfl, fun z => by omega, fun _ => h1⟩
  · rw [tick_ne σ c, tick_ne σ c, tick_ne σ c, tick_ne σ c, tick_ne σ c, tick_ne σ c]
    exact ⟨a0, a1, a2, a3, a4, a5, a6, a7, a8⟩
def tkX (M : SX) (p g l : Nat) : SX := wI (wI (wI (wI M (8 + 4) p (nI g)) (8 + 5) p (nI l)) (8 + 6) p 0) 7 1 0
theorem tkX_RX {M : SX} {a k p g l q : Nat} {σ : LV} (h : RX M a 1 k σ) : RX (tkX M p g l) 0 (q + 1) k (tick σ p g l) := by
  obtain ⟨h1, h2, h3, h4, h5⟩ := h
  refine ⟨?_, ?_, ?_, fun s hs => ?_, ?_⟩
  · unfold tkX; rw [wI_k, if_pos rfl]; rfl
  · simpa [tkX, wI_1, upd] using h2
  · simpa [tkX, wI_1, upd] using h3
  · by_cases c : s = p
    · subst c
      obtain ⟨e0, e1, e2, e3, e4, e5⟩ := tick_at σ s g l
      rw [e0, e1, e2, e3, e4, e5]
      have := h4 s hs
      refine ⟨?_, ?_, ?_, ?_, ?_, ?_⟩
      · simpa [tkX, wI_1, upd] using this.1
      · simpa [tkX, wI_1, upd] using this.2.1
      · simpa [tkX, wI_1, upd] using this.2.2.1
      · simp [tkX, wI_1, upd, hv]
      · simp [tkX, wI_1, upd]
      · simp [tkX, wI_1, upd, nI_0]
    · rw [tick_ne σ c, tick_ne σ c, tick_ne σ c, tick_ne σ c, tick_ne σ c, tick_ne σ c]
      simpa [tkX, wI_1, upd, c] using h4 s hs
  · simpa [tkX, wI_1, upd] using h5
def tkY (M : SX) (p g l q : Nat) : SX := wI (wI (wI M 8 (5 * p + 3) (nI g)) 8 (5 * p + 4) (nI l)) 0 17 (nI (q + 1))
theorem tkY_out {M : SX} {p g l q j : Nat} (h3 : ¬ j = 5 * p + 3) (h4 : ¬ j = 5 * p + 4) : (tkY M p g l q).1 8 j = M.1 8 j := by
  unfold tkY
  rw [wI_nk (by decide), wI_k, if_neg h4, wI_k, if_neg h3]
theorem tkY_YF {M : SX} {k p g l q : Nat} {σ : LV} (h : YF M k σ) : YF (tkY M p g l q) k (tick σ p g l) := by
  intro s hs
  have := h s hs
  by_cases c : s = p
  · subst c
    obtain ⟨e0, e1, e2, e3, e4, e5⟩ := tick_at σ s g l
    rw [e0, e1, e2, e3, e4, tkY_out (by omega) (by omega), tkY_out (by omega) (by omega), tkY_out (by omega) (by omega)]
    refine ⟨this.1, this.2.1, this.2.2.1, ?_, ?_⟩
    · unfold tkY
      rw [wI_nk (by decide), wI_k, if_neg (by omega), wI_k, if_pos rfl]; rfl
    · unfold tkY
      rw [wI_nk (by decide), wI_k, if_pos rfl]
  · rw [tick_ne σ c, tick_ne σ c, tick_ne σ c, tick_ne σ c, tick_ne σ c, tkY_out (by omega) (by omega), tkY_out (by omega) (by omega), tkY_out (by omega) (by omega), tkY_out (by omega) (by omega), tkY_out (by omega) (by omega)]
    exact this
theorem tkY_YS {M : SX} {t len e k p g l q : Nat} (h : YS M t len e k q) : YS (tkY M p g l q) t len e k (q + 1) := by
  obtain ⟨a, b, c, d, f⟩ := h
  have o : ∀ j, ¬ j = 17 → (tkY M p g l q).1 0 j = M.1 0 j := fun j hj => by
    unfold tkY
    rw [wI_k, if_neg hj, wI_nk (by decide), wI_nk (by decide)]
  exact ⟨by rw [o 12 (by decide)]; exact a, by rw [o 13 (by decide)]; exact b, by rw [o 14 (by decide)]; exact c, by rw [o 16 (by decide)]; exact d, by unfold tkY; rw [wI_k, if_pos rfl]⟩
theorem tkY_same (M : SX) (p g l q : Nat) : SameY M (tkY M p g l q) := ((same_wIY (by omega)).trans (same_wIY (by omega))).trans (same_wI0 (by omega))
theorem rt102 {M : SX} {t len e k p g l q : Nat} (h : YS M t len e k q) (hp : p < 6) (h2 : l ≤ 9) : p6_readsTicket_102 (nI p) (nI g) (nI l) M = some (1, tkY M p g l q) := by
  have e : (wI (wI M 8 (5 * p + 3) (nI g)) 8 (5 * p + 4) (nI l)).1 0 17 = nI q := by
    rw [wI_nk (by decide), wI_nk (by decide)]
    exact h.2.2.2.2
  rw [p6_readsTicket_102, if_neg (nI_nm9 (by omega)), show (5 : Int32) * nI p = nI (5 * p) from pk_mul 5 p, show nI (5 * p) + 3 = nI (5 * p + 3) from nI_add (5 * p) 3, show nI (5 * p) + 4 = nI (5 * p + 4) from nI_add (5 * p) 4, gd_of (bIn_nI (by omega) (by decide)), nI_clamp (by omega), lt_v, gd_of (bIn_nI (by omega) (by decide)), nI_clamp (by omega), lt_v, e, nI_1, lt_v]
  rfl
def rtK (r5 : Int32) (M4 : SX) : Option (Int32 × SX) :=
  if r5 = (-9 : Int32) then (some (0, M4))
  else (gd (bIn ((5 * r5) + 3) 30) ( if (M4.1 8 (Int32.toNatClampNeg ((5 * r5) + 3))) = (-9 : Int32) then (bd (p6_figure 0 ((M4.1 0 16) - 1) r5 M4) (fun r11 M10 => if r11 = (-9 : Int32) then (p6_readsTicket_102 r5 r11 (-9) M10)
  else (bd (p6_figure 1 9 (-9) M10) (fun r15 M14 => p6_readsTicket_102 r5 r11 r15 M14))))
  else (lt_ (wI M4 0 13 ((M4.1 0 13) - 1)) (fun M16 => some (0, M16)))))
theorem item_ticket {t len i k q : Nat} {σ : LV} {y : Nat → Int32} {MX MY : SX} (ht : t < 4) (hl : len ≤ 60) (hi : i < len) (hTX : TX t len y MX) (hTY : TY t len y MY) (hX : RX MX 0 q k σ) (hY : YS MY t len i k q) (hF : YF MY k σ) (hD : DV k σ) (hq : q ≤ i) (h2 : y i = 116) : Item t len i MX MY (p6_readsTicket MY) := by
  have hk6 := hD.1
  have tk1 := tx_t hX hk6
  rw [← h2] at tk1
  have sX1 : SameX MX (wI (wI MX 7 2 1) 7 1 3) := (same_wI (by omega)).trans (same_wI (by omega))
  by_cases hk2 : k < 2
  · rw [if_pos hk2] at tk1
    refine Or.inl ⟨i, _, MY, by omega, fun f hf => ?_, ?_, hY.2.1, sX1, SameY.refl _⟩
    · obtain ⟨g, rfl⟩ : ∃ g, f = g + 1 := ⟨f - 1, by omega⟩
      exact LX_no ht hl hi hTX tk1
    · rw [p6_readsTicket, hY.2.2.2.1, if_neg (show ¬ (2 : Int32) ≤ nI k from nI_ge (b := 2) hk2 (by decide))]
  · rw [if_neg hk2] at tk1
    have hX1 : RX (wI (wI MX 7 2 1) 7 1 3) 3 1 k σ := hX.bg.aw 3
    generalize wI (wI MX 7 2 1) 7 1 3 = X1 at tk1 sX1 hX1
    have TX1 := hTX.same sX1
    have sY1 : SameY MY (wI MY 0 13 (nI (i + 1))) := same_wI0 (by omega)
    have hY1 := hY.mv (i + 1)
    have TY1 := hTY.same sY1
    have eY1 : (wI MY 0 13 (nI (i + 1))).1 8 = MY.1 8 := by rw [wI_nk (by decide)]
    have ek : nI k - 1 = nI (k - 1) := pk_sub (b := 1) (by omega)
    have hrt : p6_readsTicket MY = bd (p6_figure (nI 0) (nI (k - 1)) (-9) (wI MY 0 13 (nI (i + 1)))) rtK := by
      rw [p6_readsTicket, hY.2.2.2.1, if_pos (show (2 : Int32) ≤ nI k from nI_le (a := 2) (by omega) (by omega)), hY.2.1, nI_1, lt_v, hY1.2.2.2.1, ek]
      rfl
    generalize wI MY 0 13 (nI (i + 1)) = Y1 at sY1 hY1 TY1 eY1 hrt
    have hF1 : YF Y1 k σ := hF.nk eY1
    rcases nextSign y (len := len) (p := i + 1) (by omega) with st | ⟨l1, p, hp9, e1⟩
    · refine Or.inl ⟨i + 1, X1, Y1, by omega, fun f hf => ?_, ?_, hY1.2.1, sX1, sY1⟩
      · obtain ⟨g, rfl⟩ : ∃ g, f = g + 1 + 1 := ⟨f - 2, by omega⟩
        rw [LX_go ht hl hi hTX tk1]
        exact stopX ht hl TX1 hX1.1 (by omega) (by omega) st
      · rw [hrt, stopY ht hl hY1 TY1 (by omega) (by omega) (-9) st, bd_s, rtK, if_pos rfl]
    · have tk2 := tx_p hX1 hD hp9
      rw [← e1] at tk2
      have sX2 : SameX MX (wI (wI X1 7 3 (nI p)) 7 1 4) := (sX1.trans (same_wI (by omega))).trans (same_wI (by omega))
      have fg1 := fig_d ht hl hY1 l1 TY1 (lo := 0) (hi := k - 1) (by omega) (by omega) (-9) hp9 e1
      by_cases cp : p < k ∧ σ 3 p = 0
      · have hpk := cp.1
        rw [if_pos cp] at tk2
        rw [if_pos ⟨by omega, by omega, nI_nm9 (by omega)⟩] at fg1
        have hX2 : RX (wI (wI X1 7 3 (nI p)) 7 1 4) 4 1 k σ := (hX1.ot (by omega)).aw 4
        have p2 : (wI (wI X1 7 3 (nI p)) 7 1 4).1 7 3 = nI p := by rw [wI_k, if_neg (by decide), wI_k, if_pos rfl]
        generalize wI (wI X1 7 3 (nI p)) 7 1 4 = X2 at tk2 sX2 hX2 p2
        have TX2 := hTX.same sX2
        have sY2 : SameY MY (wI Y1 0 13 (nI (i + 1 + 1))) := sY1.trans (same_wI0 (by omega))
        have hY2 := hY1.mv (i + 1 + 1)
        have eY2 : (wI Y1 0 13 (nI (i + 1 + 1))).1 8 = MY.1 8 := by rw [wI_nk (by decide)]; exact eY1
        generalize wI Y1 0 13 (nI (i + 1 + 1)) = Y2 at fg1 sY2 hY2 eY2
        have TY2 := hTY.same sY2
        have hF2 : YF Y2 k σ := hF.nk eY2
        have h93 : Y2.1 8 (5 * p + 3) = -9 := by rw [(hF2 p hpk).2.2.2.1, cp.2]; rfl
        have hK : rtK (nI p) Y2 = bd (p6_figure (nI 0) (nI (k - 1)) (nI p) Y2) (fun r11 M10 => if r11 = (-9 : Int32) then (p6_readsTicket_102 (nI p) r11 (-9) M10) else (bd (p6_figure (nI 1) (nI 9) (-9) M10) (fun r15 M14 => p6_readsTicket_102 (nI p) r11 r15 M14))) := by
          rw [rtK, if_neg (nI_nm9 (by omega)), show (5 : Int32) * nI p = nI (5 * p) from pk_mul 5 p, show nI (5 * p) + 3 = nI (5 * p + 3) from nI_add (5 * p) 3, gd_of (bIn_nI (by omega) (by decide)), nI_clamp (by omega), h93, if_pos rfl, hY2.2.2.2.1, ek]
          rfl
        rcases nextSign y (len := len) (p := i + 1 + 1) (by omega) with st | ⟨l2, g, hg9, e2⟩
        · refine Or.inl ⟨i + 1 + 1, X2, Y2, by omega, fun f hf => ?_, ?_, hY2.2.1, sX2, sY2⟩
          · obtain ⟨g, rfl⟩ : ∃ g, f = g + 1 + 1 + 1 := ⟨f - 3, by omega⟩
            rw [LX_go ht hl hi hTX tk1, LX_go ht hl l1 TX1 tk2]
            exact stopX ht hl TX2 hX2.1 (by omega) (by omega) st
          · rw [hrt, fg1, bd_s, hK, stopY ht hl hY2 TY2 (by omega) (by omega) (nI p) st, bd_s, if_pos rfl, p6_readsTicket_102, if_pos rfl]
        · have tk3 := tx_h hX2 hD p2 (by omega) hg9
          rw [← e2] at tk3
          have sX3 : SameX MX (wI (wI X2 7 4 (nI g)) 7 1 5) := (sX2.trans (same_wI (by omega))).trans (same_wI (by omega))
          have fg2 := fig_d ht hl hY2 l2 TY2 (lo := 0) (hi := k - 1) (by omega) (by omega) (nI p) hg9 e2
          by_cases cg : g < k ∧ g ≠ p
          · have hgk := cg.1
            rw [if_pos cg] at tk3
            rw [if_pos ⟨by omega, by omega, fun z => cg.2 ((nI_eq (by omega) (by omega)).mp z)⟩] at fg2
            have hX3 : RX (wI (wI X2 7 4 (nI g)) 7 1 5) 5 1 k σ := (hX2.ot (by omega)).aw 5
            have p3 : (wI (wI X2 7 4 (nI g)) 7 1 5).1 7 3 = nI p := by rw [wI_k, if_neg (by decide), wI_k, if_neg (by decide)]; exact p2
            have g3 : (wI (wI X2 7 4 (nI g)) 7 1 5).1 7 4 = nI g := by rw [wI_k, if_neg (by decide), wI_k, if_pos rfl]
            generalize wI (wI X2 7 4 (nI g)) 7 1 5 = X3 at tk3 sX3 hX3 p3 g3
            have TX3 := hTX.same sX3
            have sY3 : SameY MY (wI Y2 0 13 (nI (i + 1 + 1 + 1))) := sY2.trans (same_wI0 (by omega))
            have hY3 := hY2.mv (i + 1 + 1 + 1)
            have eY3 : (wI Y2 0 13 (nI (i + 1 + 1 + 1))).1 8 = MY.1 8 := by rw [wI_nk (by decide)]; exact eY2
            generalize wI Y2 0 13 (nI (i + 1 + 1 + 1)) = Y3 at fg2 sY3 hY3 eY3
            have TY3 := hTY.same sY3
            rcases nextSign y (len := len) (p := i + 1 + 1 + 1) (by omega) with st | ⟨l3, l, hl9, e3⟩
            · refine Or.inl ⟨i + 1 + 1 + 1, X3, Y3, by omega, fun f hf => ?_, ?_, hY3.2.1, sX3, sY3⟩
              · obtain ⟨u, rfl⟩ : ∃ u, f = u + 1 + 1 + 1 + 1 := ⟨f - 4, by omega⟩
                rw [LX_go ht hl hi hTX tk1, LX_go ht hl l1 TX1 tk2, LX_go ht hl l2 TX2 tk3]
                exact stopX ht hl TX3 hX3.1 (by omega) (by omega) st
              · rw [hrt, fg1, bd_s, hK, fg2, bd_s, if_neg (nI_nm9 (by omega)), stopY ht hl hY3 TY3 (by omega) (by omega) (-9) st, bd_s, p6_readsTicket_102, if_pos rfl]
            · have tk4 := tx_l hX3.1 p3 (by omega) g3 hl9
              rw [← e3] at tk4
              have sX4 : SameX MX (tkX X3 p g l) := (((sX3.trans (same_wI (by omega))).trans (same_wI (by omega))).trans (same_wI (by omega))).trans (same_wI (by omega))
              have fg3 := fig_d ht hl hY3 l3 TY3 (lo := 1) (hi := 9) (by omega) (by omega) (-9) hl9 e3
              by_cases cl : l < 1
              · rw [if_pos cl] at tk4
                rw [if_neg (fun z => by omega)] at fg3
                refine Or.inl ⟨i + 1 + 1 + 1, tkX X3 p g l, Y3, by omega, fun f hf => ?_, ?_, hY3.2.1, sX4, sY3⟩
                · obtain ⟨u, rfl⟩ : ∃ u, f = u + 1 + 1 + 1 + 1 := ⟨f - 4, by omega⟩
                  rw [LX_go ht hl hi hTX tk1, LX_go ht hl l1 TX1 tk2, LX_go ht hl l2 TX2 tk3]
                  exact LX_no ht hl l3 TX3 tk4
                · rw [hrt, fg1, bd_s, hK, fg2, bd_s, if_neg (nI_nm9 (by omega)), fg3, bd_s, p6_readsTicket_102, if_pos rfl]
              · rw [if_neg cl] at tk4
                rw [if_pos ⟨by omega, by omega, nI_nm9 (by omega)⟩] at fg3
                have hY4 := hY3.mv (i + 1 + 1 + 1 + 1)
                have hF4 : YF (wI Y3 0 13 (nI (i + 1 + 1 + 1 + 1))) k σ := hF.nk (by rw [wI_nk (by decide)]; exact eY3)
                refine Or.inr ⟨i + 1 + 1 + 1 + 1, k, q + 1, tick σ p g l, tkX X3 p g l, tkY (wI Y3 0 13 (nI (i + 1 + 1 + 1 + 1))) p g l q, by omega, by omega, fun f => ?_, ?_, tkX_RX hX3, tkY_YS hY4, tkY_YF hF4, tick_DV hD hpk hgk cg.2 (by omega) hl9, by omega, sX4, (sY3.trans (same_wI0 (by omega))).trans (tkY_same _ _ _ _ _)⟩
                · rw [show f + (i + 1 + 1 + 1 + 1 - i) = f + 1 + 1 + 1 + 1 by omega, LX_go ht hl hi hTX tk1, LX_go ht hl l1 TX1 tk2, LX_go ht hl l2 TX2 tk3, LX_go ht hl l3 TX3 tk4]
                  rfl
                · rw [hrt, fg1, bd_s, hK, fg2, bd_s, if_neg (nI_nm9 (by omega)), fg3, bd_s, rt102 hY4 (by omega) hl9]
          · rw [if_neg cg] at tk3
            have fgn : p6_figure (nI 0) (nI (k - 1)) (nI p) Y2 = some (-9, Y2) := by
              rw [fg2, if_neg (fun z => cg ⟨by omega, fun e => z.2.2 (by rw [e])⟩)]
            refine Or.inl ⟨i + 1 + 1, _, Y2, by omega, fun f hf => ?_, ?_, hY2.2.1, sX3, sY2⟩
            · obtain ⟨u, rfl⟩ : ∃ u, f = u + 1 + 1 + 1 := ⟨f - 3, by omega⟩
              rw [LX_go ht hl hi hTX tk1, LX_go ht hl l1 TX1 tk2]
              exact LX_no ht hl l2 TX2 tk3
            · rw [hrt, fg1, bd_s, hK, fgn, bd_s, if_pos rfl, p6_readsTicket_102, if_pos rfl]
      · rw [if_neg cp] at tk2
        have hXl : ∀ f, len - i < f → LX t len f i MX = some (nI (i + 1), wI (wI X1 7 3 (nI p)) 7 1 4) := fun f hf => by
          obtain ⟨u, rfl⟩ : ∃ u, f = u + 1 + 1 := ⟨f - 2, by omega⟩
          rw [LX_go ht hl hi hTX tk1]
          exact LX_no ht hl l1 TX1 tk2
        by_cases hpk : p < k
        · have h3 : ¬ σ 3 p = 0 := fun z => cp ⟨hpk, z⟩
          have h36 : σ 3 p ≤ 6 := Nat.le_trans (hD.2 p hpk).2.2.2.1 hk6
          rw [if_pos ⟨by omega, by omega, nI_nm9 (by omega)⟩] at fg1
          have hY2 := hY1.mv (i + 1 + 1)
          have hY3 := hY2.mv (i + 1)
          have h93 : (wI Y1 0 13 (nI (i + 1 + 1))).1 8 (5 * p + 3) = hv (σ 3 p) := by rw [wI_nk (by decide)]; exact (hF1 p hpk).2.2.2.1
          refine Or.inl ⟨i + 1, _, _, by omega, hXl, ?_, hY3.2.1, sX2, (sY1.trans (same_wI0 (by omega))).trans (same_wI0 (by omega))⟩
          rw [hrt, fg1, bd_s, rtK, if_neg (nI_nm9 (by omega)), show (5 : Int32) * nI p = nI (5 * p) from pk_mul 5 p, show nI (5 * p) + 3 = nI (5 * p + 3) from nI_add (5 * p) 3, gd_of (bIn_nI (by omega) (by decide)), nI_clamp (by omega), h93, if_neg (fun z => h3 ((hv_m9 h36).mp z)), hY2.2.1, nI_pred, lt_v]
        · rw [if_neg (fun z => by omega)] at fg1
          refine Or.inl ⟨i + 1, _, Y1, by omega, hXl, ?_, hY1.2.1, sX2, sY1⟩
          rw [hrt, fg1, bd_s, rtK, if_pos rfl]
