/-! a whole text -/
def FQ (MX MY : SX) (x z : Option (Int32 × SX)) : Prop := ∃ r MX' MY', x = some (r, MX') ∧ z = some (r, MY') ∧ SameX MX MX' ∧ SameY MY MY' ∧ (r = -9 → ∃ k σ, 2 ≤ k ∧ DV k σ ∧ XRep 8 MX' k σ ∧ MX'.1 (8 + 7) 1 = 0 ∧ MY'.1 0 16 = nI k ∧ YF MY' k σ)
theorem LX_blanks {t len : Nat} {y : Nat → Int32} (ht : t < 4) (hl : len ≤ 60) : ∀ (d e f : Nat) (M : SX), (∀ u, u < d → e + u < len ∧ y (e + u) = 32) → M.1 7 1 = nI 0 → TX t len y M → LX t len (f + d) e M = LX t len f (e + d) M
  | 0, _, _, _, _, _, _ => rfl
  | d + 1, e, f, M, h, ha, hT => by
    have h0 : e < len ∧ y e = 32 := h 0 (by omega)
    rw [show f + (d + 1) = (f + d) + 1 by omega, LX_go ht hl h0.1 hT (M' := M) (by rw [h0.2]; exact tx_blank ha), show e + (d + 1) = e + 1 + d by omega]
    refine LX_blanks ht hl d (e + 1) f M (fun u hu => ?_) ha hT
    have := h (u + 1) (by omega)
    rw [show e + 1 + u = e + (u + 1) by omega]
    exact this
theorem skip_Y {t len e k q : Nat} {y : Nat → Int32} {M : SX} (ht : t < 4) (hl : len ≤ 60) (h : YS M t len e k q) (he : e ≤ len) (hT : TY t len y M) : ∃ d, e + d ≤ len ∧ (∀ u, u < d → e + u < len ∧ y (e + u) = 32) ∧ (e + d < len → ¬ y (e + d) = 32) ∧ p6_skip M = some (wI M 0 13 (nI (e + d))) := by
  obtain ⟨d, h1, h2, h3⟩ : ∃ d, d ≤ len - e ∧ (∀ u, u < d → y (e + u) = 32) ∧ (d < len - e → ¬ y (e + d) = 32) := by
    refine ⟨fa_first (fun u => !decide (y (e + u) = 32)) (len - e), fa_first_le _ _, fun u hu => ?_, fun hh => ?_⟩
    · have := fa_first_no (fun u => !decide (y (e + u) = 32)) (len - e) u hu
      simpa using this
    · have := fa_first_yes (fun u => !decide (y (e + u) = 32)) (len - e) hh
      simpa using this
  refine ⟨d, by omega, fun u hu => ⟨by omega, h2 u hu⟩, fun z => h3 (by omega), ?_⟩
  have st : ∀ i, i < d → ∀ rc, p6_skip_0 rc (wI M 0 13 (nI (e + i))) = rc (wI M 0 13 (nI (e + (i + 1)))) := by
    intro i hi rc
    have hm := h.mv (e + i)
    rw [p6_skip_0, hm.2.1, hm.2.2.1, if_neg (nI_ge (by omega) (by omega)), here_Y ht hl hm (by omega) (hT.same (same_wI0 (by omega))), bd_s, if_pos (h2 i hi), hm.2.1, nI_1, lt_v, wI_wI]
    rfl
  have en : ∀ rc, p6_skip_0 rc (wI M 0 13 (nI (e + d))) = some (wI M 0 13 (nI (e + d))) := by
    intro rc
    have hm := h.mv (e + d)
    rw [p6_skip_0, hm.2.1, hm.2.2.1]
    by_cases c : e + d < len
    · rw [if_neg (nI_ge c (by omega)), here_Y ht hl hm c (hT.same (same_wI0 (by omega))), bd_s, if_neg (h3 (by omega))]
    · rw [if_pos (nI_le (by omega) (by omega))]
  have key : xlp0 p6_skip_0 (FU + 1) (wI M 0 13 (nI (e + 0))) = some (wI M 0 13 (nI (e + d))) := lp0_run (fun i => wI M 0 13 (nI (e + i))) d _ st en (FU + 1) 0 (Nat.zero_le _) (by unfold FU; omega)
  have e0 : wI M 0 13 (nI (e + 0)) = M := by rw [Nat.add_zero, ← h.2.1, wI_id]
  rw [e0] at key
  exact key
theorem read_end {t len fX fY k q : Nat} {σ : LV} {MX MY : SX} (hl : len ≤ 60) (h1 : 0 < fX) (h2 : 0 < fY) (hX : RX MX 0 q k σ) (hY : YS MY t len len k q) (hF : YF MY k σ) (hD : DV k σ) : FQ MX MY (LX t len fX len MX) (xlp1 p6_faultOf_39 fY 1 MY) := by
  obtain ⟨f, rfl⟩ : ∃ f, fX = f + 1 := ⟨fX - 1, by omega⟩
  obtain ⟨g, rfl⟩ : ∃ g, fY = g + 1 := ⟨fY - 1, by omega⟩
  have hk := hD.1
  refine ⟨if k < 2 then nI len else -9, MX, MY, LX_e0 hX hk, ?_, SameX.refl _, SameY.refl _, fun hr => ?_⟩
  · show p6_faultOf_39 (xlp1 p6_faultOf_39 g) 1 MY = _
    rw [p6_faultOf_39, if_neg i10, hY.2.1, hY.2.2.1, if_pos (Int32.le_refl _), p6_faultOf_86, if_neg i10, hY.2.2.2.1]
    by_cases c : k < 2
    · rw [if_pos (show nI k ≤ 1 from nI_le (b := 1) (by omega) (by decide)), p6_faultOf_103, hY.2.1, if_pos c]
    · rw [if_neg (show ¬ nI k ≤ 1 from nI_ge (a := 1) (by omega) (by omega)), if_neg c]
  · by_cases c : k < 2
    · rw [if_pos c] at hr
      exact absurd hr (nI_nm9 (by omega))
    · exact ⟨k, σ, by omega, hD, hX.rep, hX.2.2.2.2, hY.2.2.2.1, hF⟩
theorem xlp1_s {A β : Type} (body : (A → SX → Option β) → A → SX → Option β) (n : Nat) (a : A) (M : SX) : xlp1 body (n + 1) a M = body (xlp1 body n) a M := rfl
theorem stepY {t len i k q g : Nat} {y : Nat → Int32} {MY : SX} (ht : t < 4) (hl : len ≤ 60) (hi' : i < len) (hTY : TY t len y MY) (hY : YS MY t len i k q) : xlp1 p6_faultOf_39 (g + 1) 1 MY = bd (if y i = 116 then p6_readsTicket MY else p6_readsShop MY) (fun r M => p6_faultOf_74 (xlp1 p6_faultOf_39 g) r M) := by
  rw [xlp1_s]
  generalize xlp1 p6_faultOf_39 g = rc
  rw [p6_faultOf_39, if_neg i10, hY.2.1, hY.2.2.1, if_neg (nI_ge hi' (by omega)), here_Y ht hl hY hi' hTY, bd_s]
  by_cases c : y i = 116
  · rw [if_pos c, if_pos c]
  · rw [if_neg c, if_neg c]
theorem stepY0 (g : Nat) (MY : SX) : xlp1 p6_faultOf_39 (g + 1) 0 MY = some (MY.1 0 13, MY) := by
  rw [xlp1_s]
  generalize xlp1 p6_faultOf_39 g = rc
  rw [p6_faultOf_39, if_pos rfl, p6_faultOf_86, if_pos rfl, p6_faultOf_103]
theorem read_sim {t len : Nat} {y : Nat → Int32} (ht : t < 4) (hl : len ≤ 60) : ∀ (m i fX fY : Nat) (MX MY : SX) (k q : Nat) (σ : LV), len - i ≤ m → i ≤ len → (i < len → ¬ y i = 32) → len - i < fX → len - i + 1 < fY → TX t len y MX → TY t len y MY → RX MX 0 q k σ → YS MY t len i k q → YF MY k σ → DV k σ → q ≤ i → FQ MX MY (LX t len fX i MX) (xlp1 p6_faultOf_39 fY 1 MY) := by
  intro m
  induction m with
  | zero =>
    intro i fX fY MX MY k q σ hm hi hb hfX hfY hTX hTY hX hY hF hD hq
    have hil : i = len := by omega
    subst hil
    exact read_end hl (by omega) (by omega) hX hY hF hD
  | succ m ih =>
    intro i fX fY MX MY k q σ hm hi hb hfX hfY hTX hTY hX hY hF hD hq
    by_cases hil : i = len
    · subst hil
      exact read_end hl (by omega) (by omega) hX hY hF hD
    · have hi' : i < len := by omega
      obtain ⟨g, rfl⟩ : ∃ g, fY = g + 1 + 1 := ⟨fY - 2, by omega⟩
      have hit : Item t len i MX MY (if y i = 116 then p6_readsTicket MY else p6_readsShop MY) := by
        by_cases c : y i = 116
        · rw [if_pos c]
          exact item_ticket ht hl hi' hTX hTY hX hY hF hD hq c
        · rw [if_neg c]
          exact item_shop ht hl hi' hTX hTY hX hY hF hD hq (hb hi') c
      rw [stepY ht hl hi' hTY hY]
      rcases hit with ⟨e, MX', MY', he, hXl, hz, hp, sX, sY⟩ | ⟨e, k', q', σ', MX', MY', hie, hel, hXl, hz, hX', hY', hF', hD', hq', sX, sY⟩
      · rw [hXl fX hfX, hz, bd_s, p6_faultOf_74, if_pos rfl]
        refine ⟨nI e, MX', MY', rfl, ?_, sX, sY, fun z => absurd z (nI_nm9 (by omega))⟩
        rw [stepY0, hp]
      · obtain ⟨d, d1, d2, d3, d4⟩ := skip_Y ht hl hY' hel (hTY.same sY)
        obtain ⟨w, rfl⟩ : ∃ w, fX = w + d + (e - i) := ⟨fX - (e - i) - d, by omega⟩
        rw [hz, bd_s, p6_faultOf_74, if_neg i10, d4, bv_s, hXl, LX_blanks ht hl d e w MX' d2 hX'.1 (hTX.same sX)]
        obtain ⟨r, A, B, a1, a2, a3, a4, a5⟩ := ih (e + d) w (g + 1) MX' (wI MY' 0 13 (nI (e + d))) k' q' σ' (by omega) d1 d3 (by omega) (by omega) (hTX.same sX) ((hTY.same sY).same (same_wI0 (by omega))) hX' (hY'.mv _) (hF'.nk (wI_nk (by decide))) hD' (by omega)
        exact ⟨r, A, B, a1, a2, sX.trans a3, (sY.trans (same_wI0 (by omega))).trans a4, a5⟩
def σ0_ : LV := fun _ _ => 0
theorem faultOf_sim {MX MY : SX} (hR : Rel MX MY) {t len : Nat} (ht : t < 4) (hl : len ≤ 60) (a : MX.1 5 t = nI len) (b : MY.1 5 t = nI len) (hy : ∀ i, i < len → MX.1 6 (60 * t + i) = MY.1 6 (60 * t + i)) : FQ MX MY (p3_faultOf 4 (nI t) MX) (p6_faultOf (nI t) MY) := by
  have hTX : TX t len (fun i => MX.1 6 (60 * t + i)) MX := ⟨hR.2.1.1, fun i hi => rfl⟩
  have hTY : TY t len (fun i => MX.1 6 (60 * t + i)) MY := fun i hi => (hy i hi).symm
  have eM : (wI (wI MY 0 12 (nI (60 * t))) 0 13 0).1 5 t = nI len := by rw [wI_nk (by decide), wI_nk (by decide)]; exact b
  rw [p3_faultOf, p1_clear, lt_v, lt_v, bv_s, lt_v, lt_v, p6_faultOf, show (60 : Int32) * nI t = nI (60 * t) from pk_mul 60 t, lt_v, lt_v, gd_of (bIn_nI ht (by decide)), nI_clamp (by omega), eM, lt_v, lt_v, lt_v]
  have sX : SameX MX (wI (wI (wI (wI MX 8 0 0) (8 + 7) 1 0) 7 1 0) 7 2 0) := (((same_wI (by omega)).trans (same_wI (by omega))).trans (same_wI (by omega))).trans (same_wI (by omega))
  have hX : RX (wI (wI (wI (wI MX 8 0 0) (8 + 7) 1 0) 7 1 0) 7 2 0) 0 0 0 σ0_ := by
    refine ⟨?_, ?_, ?_, fun s hs => absurd hs (Nat.not_lt_zero s), ?_⟩
    · rw [wI_k, if_neg (by decide), wI_k, if_pos rfl]; rfl
    · rw [wI_k, if_pos rfl]; rfl
    · rw [wI_nk (by decide), wI_nk (by decide), wI_nk (by decide), wI_k, if_pos rfl]; rfl
    · rw [wI_nk (by decide), wI_nk (by decide), wI_k, if_pos rfl]
  have eS : p4_sizeOf 4 (nI t) (wI (wI (wI (wI MX 8 0 0) (8 + 7) 1 0) 7 1 0) 7 2 0) = some (nI len, wI (wI (wI (wI MX 8 0 0) (8 + 7) 1 0) 7 1 0) 7 2 0) := by
    rw [p4_sizeOf, gd_of (bIn_nI (n := szS 4) ht (by decide)), nI_clamp (by omega), wI_nk (by decide), wI_nk (by decide), wI_nk (by decide), wI_nk (by decide), show MX.1 (4 + 1) t = nI len from a]
  rw [eS, bd_s]
  generalize wI (wI (wI (wI MX 8 0 0) (8 + 7) 1 0) 7 1 0) 7 2 0 = X4 at sX hX
  have sY : SameY MY (wI (wI (wI (wI (wI MY 0 12 (nI (60 * t))) 0 13 0) 0 14 (nI len)) 0 16 0) 0 17 0) := ((((same_wI0 (by omega)).trans (same_wI0 (by omega))).trans (same_wI0 (by omega))).trans (same_wI0 (by omega))).trans (same_wI0 (by omega))
  have hY : YS (wI (wI (wI (wI (wI MY 0 12 (nI (60 * t))) 0 13 0) 0 14 (nI len)) 0 16 0) 0 17 0) t len 0 0 0 := by
    refine ⟨?_, ?_, ?_, ?_, ?_⟩
    · rw [wI_k, if_neg (by decide), wI_k, if_neg (by decide), wI_k, if_neg (by decide), wI_k, if_neg (by decide), wI_k, if_pos rfl]
    · rw [wI_k, if_neg (by decide), wI_k, if_neg (by decide), wI_k, if_neg (by decide), wI_k, if_pos rfl]; rfl
    · rw [wI_k, if_neg (by decide), wI_k, if_neg (by decide), wI_k, if_pos rfl]
    · rw [wI_k, if_neg (by decide), wI_k, if_pos rfl]; rfl
    · rw [wI_k, if_pos rfl]; rfl
  generalize wI (wI (wI (wI (wI MY 0 12 (nI (60 * t))) 0 13 0) 0 14 (nI len)) 0 16 0) 0 17 0 = Y6 at sY hY
  obtain ⟨d, d1, d2, d3, d4⟩ := skip_Y ht hl hY (Nat.zero_le _) (hTY.same sY)
  rw [d4, bv_s]
  have eX : LX t len FU 0 X4 = LX t len (FU - d) (0 + d) X4 := by
    have := LX_blanks ht hl d 0 (FU - d) X4 d2 hX.1 (hTX.same sX)
    rw [Nat.sub_add_cancel (by unfold FU; omega)] at this
    exact this
  have hF : YF (wI Y6 0 13 (nI (0 + d))) 0 σ0_ := fun s hs => absurd hs (Nat.not_lt_zero s)
  have hD : DV 0 σ0_ := ⟨by omega, fun s hs => absurd hs (Nat.not_lt_zero s)⟩
  obtain ⟨r, A, B, a1, a2, a3, a4, a5⟩ := read_sim ht hl len (0 + d) (FU - d) FU X4 (wI Y6 0 13 (nI (0 + d))) 0 0 σ0_ (by omega) d1 d3 (by unfold FU; omega) (by unfold FU; omega) (hTX.same sX) ((hTY.same sY).same (same_wI0 (by omega))) hX (hY.mv _) hF hD (Nat.zero_le _)
  rw [← eX] at a1
  exact ⟨r, A, B, a1, a2, sX.trans a3, (sY.trans (same_wI0 (by omega))).trans a4, a5⟩
theorem ag_fault (a1 : Int32) (MX MY : SX) (hR : Rel MX MY) : Ag (p5_fault a1 MX) (p6_fault a1 MY) := by
  rw [p5_fault, p6_fault, isText_Y, bd_s, it01]
  rcases four (a := a1) with ⟨q1, q2⟩ | ⟨t, ht, rfl⟩
  · rw [sheet_X0 (Or.inr rfl) q1, bd_s, if_neg (by decide), if_neg q2]
    exact ag_no hR _
  · rw [if_pos (fourI ht).2, gd_of (bIn_nI ht (by decide)), nI_clamp (by omega)]
    rcases txtThere hR ht with ⟨a, b⟩ | ⟨len, hl, a, b, hy⟩
    · rw [sheet_X1 (Or.inr rfl) ht a, bd_s, if_neg (by decide), b, if_neg m1_neg, find_Y 1 (by decide), bd_s]
      exact ag_findg 1 (by decide) hR
    · rw [sheet_X (Or.inr rfl) ht a (by omega), bd_s, if_pos rfl, b, if_pos (nI_pos' (by omega))]
      obtain ⟨r, A, B, e1, e2, s1, s2, _⟩ := faultOf_sim hR ht hl a b (fun i hi => (hy i hi).1)
      rw [e1, e2, bd_s, bd_s]
      exact ⟨r, A, B, rfl, rfl, rel_same hR s1 s2⟩
