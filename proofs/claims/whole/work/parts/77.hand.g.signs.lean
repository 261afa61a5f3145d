/-! a text read: sign by sign (the class), by items (the reference) -/
def kindC (c : Int32) : Int32 := if c = 115 then 0 else if c = 117 then 1 else if c = 104 then 2 else if c = 119 then 3 else if c = 97 then 4 else if c = 118 then 5 else -9
theorem kindOf_Y (c : Int32) (M : SX) : p6_kindOfLetter c M = some (kindC c, M) := by
  unfold p6_kindOfLetter kindC
  by_cases h1 : c = 115
  · rw [if_pos h1, if_pos h1]
  · rw [if_neg h1, if_neg h1]
    by_cases h2 : c = 117
    · rw [if_pos h2, if_pos h2]
    · rw [if_neg h2, if_neg h2]
      by_cases h3 : c = 104
      · rw [if_pos h3, if_pos h3]
      · rw [if_neg h3, if_neg h3]
        by_cases h4 : c = 119
        · rw [if_pos h4, if_pos h4]
        · rw [if_neg h4, if_neg h4]
          by_cases h5 : c = 97
          · rw [if_pos h5, if_pos h5]
          · rw [if_neg h5, if_neg h5]
            by_cases h6 : c = 118
            · rw [if_pos h6, if_pos h6]
            · rw [if_neg h6, if_neg h6]
theorem kindOf_X (c : Int32) (M : SX) : p3_kindOf c M = some (kindC c, M) := by
  unfold p3_kindOf
  by_cases h1 : c = 97
  · rw [if_pos h1, h1, show kindC 97 = 4 from by decide]
  · rw [if_neg h1]
    by_cases h2 : c = 104
    · rw [if_pos h2, h2, show kindC 104 = 2 from by decide]
    · rw [if_neg h2]
      by_cases h3 : c = 115
      · rw [if_pos h3, h3, show kindC 115 = 0 from by decide]
      · rw [if_neg h3]
        by_cases h4 : c = 117
        · rw [if_pos h4, h4, show kindC 117 = 1 from by decide]
        · rw [if_neg h4]
          by_cases h5 : c = 118
          · rw [if_pos h5, h5, show kindC 118 = 5 from by decide]
          · rw [if_neg h5]
            by_cases h6 : c = 119
            · rw [if_pos h6, h6, show kindC 119 = 3 from by decide]
            · rw [if_neg h6]
              unfold kindC
              rw [if_neg h3, if_neg h4, if_neg h2, if_neg h6, if_neg h1, if_neg h5]
theorem kindC_or (c : Int32) : kindC c = -9 ∨ ∃ w, w ≤ 5 ∧ kindC c = nI w := by
  unfold kindC
  by_cases h1 : c = 115
  · rw [if_pos h1]; exact Or.inr ⟨0, by omega, rfl⟩
  · rw [if_neg h1]
    by_cases h2 : c = 117
    · rw [if_pos h2]; exact Or.inr ⟨1, by omega, rfl⟩
    · rw [if_neg h2]
      by_cases h3 : c = 104
      · rw [if_pos h3]; exact Or.inr ⟨2, by omega, rfl⟩
      · rw [if_neg h3]
        by_cases h4 : c = 119
        · rw [if_pos h4]; exact Or.inr ⟨3, by omega, rfl⟩
        · rw [if_neg h4]
          by_cases h5 : c = 97
          · rw [if_pos h5]; exact Or.inr ⟨4, by omega, rfl⟩
          · rw [if_neg h5]
            by_cases h6 : c = 118
            · rw [if_pos h6]; exact Or.inr ⟨5, by omega, rfl⟩
            · rw [if_neg h6]; exact Or.inl rfl
theorem dig (c : Int32) : (∃ f, f ≤ 9 ∧ c = nI (48 + f)) ∨ ((c - 48 < 0 ∨ ¬ c - 48 ≤ 9) ∧ ∀ f, f ≤ 9 → ¬ c = nI (48 + f)) := by
  by_cases h : ∃ f, f ≤ 9 ∧ c = nI (48 + f)
  · exact Or.inl h
  · refine Or.inr ⟨?_, fun f hf e => h ⟨f, hf, e⟩⟩
    by_cases a : c - 48 < 0
    · exact Or.inl a
    · refine Or.inr (fun b => ?_)
      obtain ⟨j, hj, e⟩ := nI_of2 (M := 9) (n := 9) rfl a b
      have e2 : c = c - 48 + 48 := (Int32.sub_add_cancel c 48).symm
      rw [e] at e2
      refine h ⟨j, hj, ?_⟩
      rw [e2, Nat.add_comm]
      exact nI_add j 48
theorem dig_s (f : Nat) : nI (48 + f) - 48 = nI f := by
  have h : nI (48 + f) - nI 48 = nI (48 + f - 48) := pk_sub (by omega)
  rw [show 48 + f - 48 = f by omega] at h
  exact h
/-- what is read so far: the class's draft, the reference's row -/
def XF (M : SX) (k : Nat) (σ : LV) : Prop := ∀ s, s < k → M.1 (8 + 1) s = nI (σ 0 s) ∧ M.1 (8 + 2) s = nI (σ 1 s) ∧ M.1 (8 + 3) s = nI (σ 2 s) ∧ M.1 (8 + 4) s = hv (σ 3 s) ∧ M.1 (8 + 5) s = nI (σ 4 s) ∧ M.1 (8 + 6) s = nI (σ 5 s)
def RX (M : SX) (a q k : Nat) (σ : LV) : Prop := M.1 7 1 = nI a ∧ M.1 7 2 = (if q = 0 then 0 else 1) ∧ M.1 8 0 = nI k ∧ XF M k σ ∧ M.1 (8 + 7) 1 = 0
def YF (M : SX) (k : Nat) (σ : LV) : Prop := ∀ s, s < k → M.1 8 (5 * s) = nI (σ 0 s) ∧ M.1 8 (5 * s + 1) = nI (σ 1 s) ∧ M.1 8 (5 * s + 2) = nI (σ 2 s) ∧ M.1 8 (5 * s + 3) = hv (σ 3 s) ∧ M.1 8 (5 * s + 4) = nI (σ 4 s)
def YS (M : SX) (t len p k q : Nat) : Prop := M.1 0 12 = nI (60 * t) ∧ M.1 0 13 = nI p ∧ M.1 0 14 = nI len ∧ M.1 0 16 = nI k ∧ M.1 0 17 = nI q
def DV (k : Nat) (σ : LV) : Prop := k ≤ 6 ∧ ∀ s, s < k → σ 0 s ≤ 5 ∧ σ 1 s ≤ 9 ∧ σ 2 s ≤ 9 ∧ σ 3 s ≤ k ∧ σ 3 s ≠ s + 1 ∧ σ 4 s ≤ 9 ∧ σ 5 s = 0 ∧ (σ 3 s = 0 → σ 4 s = 0) ∧ (0 < σ 3 s → 1 ≤ σ 4 s)
def TX (t len : Nat) (y : Nat → Int32) (M : SX) : Prop := M.1 4 0 = nI 60 ∧ ∀ i, i < len → M.1 6 (60 * t + i) = y i
def TY (t len : Nat) (y : Nat → Int32) (M : SX) : Prop := ∀ i, i < len → M.1 6 (60 * t + i) = y i
theorem TX.same {t len : Nat} {y : Nat → Int32} {M M' : SX} (h : TX t len y M) (hs : SameX M M') : TX t len y M' := ⟨by rw [hs.1 4 (by omega)]; exact h.1, fun i hi => by rw [hs.1 6 (by omega)]; exact h.2 i hi⟩
theorem TY.same {t len : Nat} {y : Nat → Int32} {M M' : SX} (h : TY t len y M) (hs : SameY M M') : TY t len y M' := fun i hi => by rw [hs.1 6 (by omega) (by omega)]; exact h i hi
theorem RX.rep {M : SX} {a q k : Nat} {σ : LV} (h : RX M a q k σ) : XRep 8 M k σ := ⟨h.2.2.1, h.2.2.2.1⟩
theorem XRep.w7 {M : SX} {k j : Nat} {v : Int32} {σ : LV} (h : XRep 8 M k σ) : XRep 8 (wI M 7 j v) k σ := h.to (fun c h1 h2 => wI_nk (by omega))
theorem DV.valid {k : Nat} {σ : LV} (h : DV k σ) : Valid k 0 σ := by
  refine ⟨?_, fun s hs => ?_⟩
  · have := tot_le (f := σ 1) (c := 9) (n := k) (fun s hs => (h.2 s hs).2.1)
    have := h.1
    omega
  · obtain ⟨a0, a1, a2, a3, a4, a5, a6, a7, a8⟩ := h.2 s hs
    exact ⟨a0, a2, a3, a4, a5, by omega, fun z => ⟨a7 z, a6⟩, a8⟩
/-! the class's loop -/
def LX (t len f i : Nat) (M : SX) : Option (Int32 × SX) := xlp3 (p3_faultOf_26 4) f (nI t) (nI len) (nI i) M
theorem LX_step {t len i f : Nat} {y : Nat → Int32} {M : SX} (ht : t < 4) (hl : len ≤ 60) (hi : i < len) (hT : TX t len y M) : LX t len (f + 1) i M = bd (p3_takes (y i) M) (fun r M' => if r = 0 then some (nI i, M') else LX t len f (i + 1) M') := by
  show p3_faultOf_26 4 (xlp3 (p3_faultOf_26 4) f) (nI t) (nI len) (nI i) M = _
  rw [p3_faultOf_26, if_neg (nI_ge hi (by omega)), valueAt_X hT.1 (by omega), bd_s, show M.1 (4 + 2) (60 * t + i) = y i from hT.2 i hi]
  cases p3_takes (y i) M with
  | none => rfl
  | some z => rw [show (some z : Option (Int32 × SX)) = some (z.1, z.2) from rfl, bd_s, bd_s, lt_v, nI_1]; rfl
theorem LX_go {t len i f : Nat} {y : Nat → Int32} {M M' : SX} (ht : t < 4) (hl : len ≤ 60) (hi : i < len) (hT : TX t len y M) (h : p3_takes (y i) M = some (1, M')) : LX t len (f + 1) i M = LX t len f (i + 1) M' := by
  rw [LX_step ht hl hi hT, h, bd_s, if_neg i10]
theorem LX_no {t len i f : Nat} {y : Nat → Int32} {M M' : SX} (ht : t < 4) (hl : len ≤ 60) (hi : i < len) (hT : TX t len y M) (h : p3_takes (y i) M = some (0, M')) : LX t len (f + 1) i M = some (nI i, M') := by
  rw [LX_step ht hl hi hT, h, bd_s, if_pos rfl]
theorem LX_e0 {t len f q k : Nat} {M : SX} {σ : LV} (h : RX M 0 q k σ) (hk : k ≤ 6) : LX t len (f + 1) len M = some (if k < 2 then nI len else -9, M) := by
  show p3_faultOf_26 4 (xlp3 (p3_faultOf_26 4) f) (nI t) (nI len) (nI len) M = _
  rw [p3_faultOf_26, if_pos (Int32.le_refl _), h.1, if_pos nI_0, h.2.2.1]
  by_cases c : k < 2
  · rw [if_pos (show nI k < 2 from nI_lt (b := 2) c (by decide)), if_pos c]
  · rw [if_neg (show ¬ nI k < 2 from nI_nlt (b := 2) (by omega) (by omega)), if_neg c]
theorem LX_ea {t len f a : Nat} {M : SX} (h : M.1 7 1 = nI a) (h0 : 0 < a) (ha : a < 10) : LX t len (f + 1) len M = some (nI len, M) := by
  show p3_faultOf_26 4 (xlp3 (p3_faultOf_26 4) f) (nI t) (nI len) (nI len) M = _
  rw [p3_faultOf_26, if_pos (Int32.le_refl _), h, if_neg (nI_ne0 h0 (by omega))]
/-! a sign taken -/
theorem tx_blank {M : SX} (h : M.1 7 1 = nI 0) : p3_takes 32 M = some (1, M) := by
  rw [p3_takes, h, if_pos nI_0, if_pos rfl, p3_takes_21]
theorem tx_nodig {M : SX} {a : Nat} {c : Int32} (h : M.1 7 1 = nI a) (h0 : 0 < a) (ha : a < 10) (hc : c - 48 < 0 ∨ ¬ c - 48 ≤ 9) : p3_takes c M = some (0, M) := by
  rw [p3_takes, h, if_neg (nI_ne0 h0 (by omega)), lt_v]
  by_cases z : c - 48 < 0
  · rw [if_pos z]
  · rcases hc with hc | hc
    · exact absurd hc z
    · rw [if_neg z, if_neg hc]
theorem tx_t {M : SX} {q k : Nat} {σ : LV} (h : RX M 0 q k σ) (hk : k ≤ 6) : p3_takes 116 M = some (if k < 2 then 0 else 1, wI (wI M 7 2 1) 7 1 3) := by
  rw [p3_takes, h.1, if_pos nI_0, if_neg (by decide), p3_beginsItem, if_pos rfl, lt_v, lt_v]
  have e : (wI (wI M 7 2 1) 7 1 3).1 8 0 = nI k := by rw [wI_nk (by decide), wI_nk (by decide)]; exact h.2.2.1
  rw [e]
  by_cases c : k < 2
  · rw [if_pos (show nI k < 2 from nI_lt (b := 2) c (by decide)), bd_s, if_pos rfl, if_pos c]
  · rw [if_neg (show ¬ nI k < 2 from nI_nlt (b := 2) (by omega) (by omega)), bd_s, if_neg i10, if_neg c, p3_takes_21]
theorem tx_digit {M : SX} {a f : Nat} (h : M.1 7 1 = nI a) (h0 : 0 < a) (ha : a < 10) (hf : f ≤ 9) : p3_takes (nI (48 + f)) M = if 2 < a then bd (p3_takesOfTicket (nI f) M) (fun r8 M7 => gd (isB r8) ( some (r8, M7))) else bd (p3_takesOfShop (nI f) M) (fun r12 M11 => gd (isB r12) ( some (r12, M11))) := by
  rw [p3_takes, h, if_neg (nI_ne0 h0 (by omega)), lt_v, dig_s, if_neg (nI_pos (by omega)), if_pos (show nI f ≤ 9 from nI_le (b := 9) hf (by decide))]
  by_cases c : 2 < a
  · rw [if_pos c, if_pos (show (2 : Int32) < nI a from nI_lt (a := 2) c (by omega))]
  · rw [if_neg c, if_neg (show ¬ (2 : Int32) < nI a from nI_nlt (a := 2) (by omega) (by omega))]
theorem tx_p {M : SX} {q k f : Nat} {σ : LV} (h : RX M 3 q k σ) (hD : DV k σ) (hf : f ≤ 9) : p3_takes (nI (48 + f)) M = some (if f < k ∧ σ 3 f = 0 then 1 else 0, wI (wI M 7 3 (nI f)) 7 1 4) := by
  have hX : XRep 8 (wI (wI M 7 3 (nI f)) 7 1 4) k σ := h.rep.w7.w7
  have hk := hD.1
  rw [tx_digit h.1 (by omega) (by omega) hf, if_pos (by omega), p3_takesOfTicket, h.1, if_pos (show nI 3 = 3 from rfl), lt_v, lt_v, isShop_X hX, bd_s, it01]
  by_cases c : f < k
  · rw [if_pos (shop_in hk c), isPawned_X hX hk hD.valid c, bd_s, it01]
    by_cases c2 : 0 < σ 3 f
    · rw [if_pos c2, bd_s, gd_of (by decide), if_neg (fun z => by omega)]
    · rw [if_neg c2, bd_s, gd_of (by decide), if_pos ⟨c, by omega⟩]
  · rw [if_neg (fun z => c ((nI_ltI (by omega) (by omega)).mp z.2)), bd_s, gd_of (by decide), if_neg (fun z => c z.1)]
theorem tx_h {M : SX} {q k p f : Nat} {σ : LV} (h : RX M 4 q k σ) (hD : DV k σ) (hp : M.1 7 3 = nI p) (hp6 : p < 6) (hf : f ≤ 9) : p3_takes (nI (48 + f)) M = some (if f < k ∧ f ≠ p then 1 else 0, wI (wI M 7 4 (nI f)) 7 1 5) := by
  have hX : XRep 8 (wI (wI M 7 4 (nI f)) 7 1 5) k σ := h.rep.w7.w7
  have hk := hD.1
  have e3 : (wI (wI M 7 4 (nI f)) 7 1 5).1 7 3 = nI p := by rw [wI_k, if_neg (by decide), wI_k, if_neg (by decide)]; exact hp
  rw [tx_digit h.1 (by omega) (by omega) hf, if_pos (by omega), p3_takesOfTicket, h.1, if_neg (show ¬ nI 4 = 3 by decide), if_pos (show nI 4 = 4 from rfl), lt_v, lt_v, isShop_X hX, bd_s, it01]
  by_cases c : f < k
  · rw [if_pos (shop_in hk c), e3]
    by_cases c2 : f = p
    · rw [if_pos (by rw [c2]), bd_s, gd_of (by decide), if_neg (fun z => z.2 c2)]
    · rw [if_neg (fun z => c2 ((nI_eq (by omega) (by omega)).mp z)), bd_s, gd_of (by decide), if_pos ⟨c, c2⟩]
  · rw [if_neg (fun z => c ((nI_ltI (by omega) (by omega)).mp z.2)), bd_s, gd_of (by decide), if_neg (fun z => c z.1)]
theorem tx_l {M : SX} {p g f : Nat} (h : M.1 7 1 = nI 5) (hp : M.1 7 3 = nI p) (hp6 : p < 6) (hg : M.1 7 4 = nI g) (hf : f ≤ 9) : p3_takes (nI (48 + f)) M = some (if f < 1 then 0 else 1, wI (wI (wI (wI M (8 + 4) p (nI g)) (8 + 5) p (nI f)) (8 + 6) p 0) 7 1 0) := by
  rw [tx_digit h (by omega) (by omega) hf, if_pos (by omega), p3_takesOfTicket, h, if_neg (by decide), if_neg (by decide), hp, hg, p1_setTicket, gd_of (bIn_nI hp6 (by decide)), nI_clamp (by omega), lt_v, lt_v, lt_v, bv_s, lt_v]
  by_cases c : f < 1
  · rw [if_pos (show nI f < 1 from nI_lt (b := 1) c (by decide)), bd_s, gd_of (by decide), if_pos c]
  · rw [if_neg (show ¬ nI f < 1 from nI_nlt (b := 1) (by omega) (by omega)), bd_s, gd_of (by decide), if_neg c]
theorem tx_c {M : SX} {k f : Nat} (h : M.1 7 1 = nI 1) (hk : M.1 8 0 = nI (k + 1)) (hk6 : k < 6) (hf : f ≤ 9) : p3_takes (nI (48 + f)) M = some (1, wI (wI M (8 + 2) k (nI f)) 7 1 2) := by
  rw [tx_digit h (by omega) (by omega) hf, if_neg (by omega), p3_takesOfShop, hk, nI_pred, lt_v, if_pos (nI_pos' (by omega)), h, if_pos (show nI 1 = 1 from rfl), gd_of (bIn_nI hk6 (by decide)), nI_clamp (by omega), lt_v, lt_v, bd_s, gd_of (by decide)]
theorem tx_s {M : SX} {k f : Nat} (h : M.1 7 1 = nI 2) (hk : M.1 8 0 = nI (k + 1)) (hk6 : k < 6) (hf : f ≤ 9) : p3_takes (nI (48 + f)) M = some (1, wI (wI M (8 + 3) k (nI f)) 7 1 0) := by
  rw [tx_digit h (by omega) (by omega) hf, if_neg (by omega), p3_takesOfShop, hk, nI_pred, lt_v, if_pos (nI_pos' (by omega)), h, if_neg (by decide), gd_of (bIn_nI hk6 (by decide)), nI_clamp (by omega), lt_v, lt_v, bd_s, gd_of (by decide)]
theorem tx_b0 {M : SX} {q k : Nat} {σ : LV} {c : Int32} (h : RX M 0 q k σ) (hk : k ≤ 6) (h1 : ¬ c = 32) (h2 : ¬ c = 116) (hn : kindC c = -9 ∨ ¬ q = 0 ∨ k = 6) : p3_takes c M = some (0, M) := by
  rw [p3_takes, h.1, if_pos nI_0, if_neg h1, p3_beginsItem, if_neg h2, kindOf_X, bd_s]
  by_cases a : kindC c = -9
  · rw [if_pos a, bd_s, if_pos rfl]
  · rw [if_neg a, h.2.1]
    by_cases b : q = 0
    · rw [if_pos b, if_pos rfl, h.2.2.1]
      rcases hn with hn | hn | hn
      · exact absurd hn a
      · exact absurd b hn
      · rw [hn, if_pos (show nI 6 = 6 from rfl), bd_s, if_pos rfl]
    · rw [if_neg b, if_neg i10, bd_s, if_pos rfl]
def bgX (M : SX) (k w : Nat) : SX := wI (wI (wI (wI (wI (wI M (8 + 1) k (nI w)) (8 + 4) k (-9)) (8 + 5) k 0) (8 + 6) k 0) 8 0 (nI (k + 1))) 7 1 1
theorem tx_b1 {M : SX} {q k w : Nat} {σ : LV} {c : Int32} (h : RX M 0 q k σ) (h1 : ¬ c = 32) (h2 : ¬ c = 116) (hw : kindC c = nI w) (hw5 : w ≤ 5) (hq : q = 0) (hk : k < 6) : p3_takes c M = some (1, bgX M k w) := by
  have e3 : (wI M (8 + 1) k (nI w)).1 8 0 = nI k := by rw [wI_nk (by decide)]; exact h.2.2.1
  have e5 : (wI (wI (wI (wI M (8 + 1) k (nI w)) (8 + 4) k (-9)) (8 + 5) k 0) (8 + 6) k 0).1 8 0 = nI k := by rw [wI_nk (by decide), wI_nk (by decide), wI_nk (by decide)]; exact e3
  rw [p3_takes, h.1, if_pos nI_0, if_neg h1, p3_beginsItem, if_neg h2, kindOf_X, bd_s, hw, if_neg (nI_nm9 (by omega)), h.2.1, if_pos hq, if_pos rfl, h.2.2.1, if_neg (show ¬ nI k = 6 from fun z => by have := (nI_eq (b := 6) (by omega) (by decide)).mp z; omega), p1_addShop, h.2.2.1, if_neg (show ¬ (6 : Int32) ≤ nI k from nI_ge (b := 6) hk (by decide)), gd_of (bIn_nI hk (by decide)), nI_clamp (by omega), lt_v, e3, p1_removeTicket, p1_setTicket, gd_of (bIn_nI hk (by decide)), nI_clamp (by omega), lt_v, lt_v, lt_v, bv_s, bv_s, e5, nI_1, lt_v, bv_s, lt_v, bd_s, if_neg i10, p3_takes_21]
  rfl
/-! the reference's figures -/
theorem YS.mv {M : SX} {t len p k q : Nat} (h : YS M t len p k q) (p' : Nat) : YS (wI M 0 13 (nI p')) t len p' k q := by
  obtain ⟨a, b, c, d, e⟩ := h
  refine ⟨?_, ?_, ?_, ?_, ?_⟩
  · rw [wI_k, if_neg (by decide)]; exact a
  · rw [wI_k, if_pos rfl]
  · rw [wI_k, if_neg (by decide)]; exact c
  · rw [wI_k, if_neg (by decide)]; exact d
  · rw [wI_k, if_neg (by decide)]; exact e
theorem here_Y {M : SX} {t len p k q : Nat} {y : Nat → Int32} (ht : t < 4) (hl : len ≤ 60) (h : YS M t len p k q) (hp : p < len) (hT : TY t len y M) : p6_here M = some (y p, M) := by
  rw [p6_here, h.1, h.2.1, nI_add, gd_of (bIn_nI (by omega) (by decide)), nI_clamp (by omega), hT p hp]
theorem fig_e {M : SX} {t len k q : Nat} (h : YS M t len len k q) (a b u : Int32) : p6_figure a b u M = some (-9, M) := by
  rw [p6_figure, h.2.1, h.2.2.1, if_pos rfl]
theorem fig_i {M : SX} {t len p k q : Nat} {y : Nat → Int32} (ht : t < 4) (hl : len ≤ 60) (h : YS M t len p k q) (hp : p < len) (hT : TY t len y M) (lo hi : Nat) (u : Int32) : p6_figure (nI lo) (nI hi) u M = if nI (48 + lo) ≤ y p ∧ y p ≤ nI (48 + hi) then (if y p - 48 = u then some (-9, M) else some (y p - 48, wI M 0 13 (nI (p + 1)))) else some (-9, M) := by
  have h1 := h.mv (p + 1)
  have hT1 : (wI M 0 13 (nI (p + 1))).1 6 (60 * t + p) = y p := by rw [wI_nk (by decide)]; exact hT p hp
  rw [p6_figure, h.2.1, h.2.2.1, if_neg (fun z => by have := (nI_eq (by omega) (by omega)).mp z; omega), here_Y ht hl h hp hT, bd_s, show (48 : Int32) + nI lo = nI (48 + lo) from nI_add 48 lo, show (48 : Int32) + nI hi = nI (48 + hi) from nI_add 48 hi, in_YI, bd_s, it01]
  by_cases c : nI (48 + lo) ≤ y p ∧ y p ≤ nI (48 + hi)
  · rw [if_pos c, if_pos c, here_Y ht hl h hp hT, bd_s]
    by_cases c2 : y p - 48 = u
    · rw [if_pos c2, if_pos c2]
    · rw [if_neg c2, if_neg c2, h.2.1, nI_1, lt_v, h1.1, h1.2.1, nI_add, show nI (60 * t + (p + 1)) - 1 = nI (60 * t + p) from nI_pred (60 * t + p), gd_of (bIn_nI (by omega) (by decide)), nI_clamp (by omega), hT1]
  · rw [if_neg c, if_neg c]
theorem fig_d {M : SX} {t len p k q f : Nat} {y : Nat → Int32} (ht : t < 4) (hl : len ≤ 60) (h : YS M t len p k q) (hp : p < len) (hT : TY t len y M) {lo hi : Nat} (hlo : lo ≤ 1) (hh : hi ≤ 9) (u : Int32) (hf : f ≤ 9) (e : y p = nI (48 + f)) : p6_figure (nI lo) (nI hi) u M = if lo ≤ f ∧ f ≤ hi ∧ ¬ nI f = u then some (nI f, wI M 0 13 (nI (p + 1))) else some (-9, M) := by
  rw [fig_i ht hl h hp hT lo hi u, e, dig_s]
  by_cases c : nI (48 + lo) ≤ nI (48 + f) ∧ nI (48 + f) ≤ nI (48 + hi)
  · rw [if_pos c]
    have c1 : f ≤ hi := by have := (nI_leI (by omega) (by omega)).mp c.2; omega
    have c0 : lo ≤ f := by have := (nI_leI (by omega) (by omega)).mp c.1; omega
    by_cases c2 : nI f = u
    · rw [if_pos c2, if_neg (fun z => z.2.2 c2)]
    · rw [if_neg c2, if_pos ⟨c0, c1, c2⟩]
  · rw [if_neg c, if_neg (fun z => c ⟨nI_le (by omega) (by omega), nI_le (by omega) (by omega)⟩)]
theorem fig_n {M : SX} {t len p k q : Nat} {y : Nat → Int32} (ht : t < 4) (hl : len ≤ 60) (h : YS M t len p k q) (hp : p < len) (hT : TY t len y M) {lo hi : Nat} (hlo : lo ≤ 1) (hh : hi ≤ 9) (u : Int32) (e : ∀ f, f ≤ 9 → ¬ y p = nI (48 + f)) : p6_figure (nI lo) (nI hi) u M = some (-9, M) := by
  rw [fig_i ht hl h hp hT lo hi u, if_neg]
  rintro ⟨h1, h2⟩
  rcases ix3 (y p) 58 (by decide) with z | z | ⟨j, hj, z⟩
  · exact absurd (Int32.le_trans (nI_pos' (n := 48 + lo) (by omega)) h1) (Int32.not_le.mpr z)
  · have := Int32.le_trans z h2
    exact absurd this (nI_ge (by omega) (by omega))
  · rw [z] at h1
    have := (nI_leI (by omega) (by omega)).mp h1
    exact e (j - 48) (by omega) (by rw [z, show 48 + (j - 48) = j by omega])
