/-! sets that grow to an end -/
def sub (S T : Nat) : Prop := ∀ v, S.testBit v = true → T.testBit v = true
theorem sub_refl (S : Nat) : sub S S := fun _ h => h
theorem sub_trans {A B C : Nat} (h : sub A B) (g : sub B C) : sub A C := fun v z => g v (h v z)
theorem sub_anti {A B : Nat} (h : sub A B) (g : sub B A) : A = B := Nat.eq_of_testBit_eq (fun i => by
  cases e : A.testBit i <;> cases e2 : B.testBit i
  · rfl
  · exact absurd (g i e2) (by rw [e]; decide)
  · exact absurd (h i e) (by rw [e2]; decide)
  · rfl)
theorem sub_or {S k : Nat} : sub S (S ||| k) := fun v h => by rw [Nat.testBit_or, h]; rfl
def ctb (n S : Nat) : Nat := fb_ct (fun v => S.testBit v) n
theorem ctb_lt {n S T : Nat} (hS : S < 2 ^ n) (hT : T < 2 ^ n) (h : sub S T) (hne : ¬ S = T) : ctb n S < ctb n T := by
  have e : ctb n T = ctb n S + fb_ct (fun v => T.testBit v && !S.testBit v) n := by
    unfold ctb
    rw [← fb_ct_or (fun k _ z => by
      have z2 := z.2
      rw [show (S.testBit k) = true from z.1] at z2
      simp at z2)]
    refine fb_ct_cong (fun k _ => ?_)
    cases e1 : S.testBit k
    · simp
    · simp [h k e1]
  have : 0 < fb_ct (fun v => T.testBit v && !S.testBit v) n := by
    refine fb_ct_pos.mpr ?_
    refine Classical.byContradiction (fun z => hne (sub_anti h (fun v hv0 => ?_)))
    cases e1 : S.testBit v
    · exact absurd ⟨v, tb_lt hT hv0, by rw [hv0, e1]; rfl⟩ z
    · rfl
  omega
def itF (F : Nat → Nat) : Nat → Nat → Nat
  | 0, S => S
  | k + 1, S => F (itF F k S)
theorem itF_lt {F : Nat → Nat} {n : Nat} (hF : ∀ S, S < 2 ^ n → F S < 2 ^ n) {S : Nat} (hS : S < 2 ^ n) : ∀ k, itF F k S < 2 ^ n
  | 0 => hS
  | k + 1 => hF _ (itF_lt hF hS k)
theorem itF_fix {F : Nat → Nat} {n : Nat} (hF : ∀ S, S < 2 ^ n → F S < 2 ^ n) (hs : ∀ S, S < 2 ^ n → sub S (F S)) {S : Nat} (hS : S < 2 ^ n) (h0 : ∃ v, S.testBit v = true) : F (itF F (n - 1) S) = itF F (n - 1) S := by
  have key : ∀ k, F (itF F k S) = itF F k S ∨ k + 1 ≤ ctb n (itF F k S) := by
    intro k
    induction k with
    | zero =>
      obtain ⟨v, hv0⟩ := h0
      exact Or.inr (fb_ct_pos.mpr ⟨v, tb_lt hS hv0, hv0⟩)
    | succ k ih =>
      rcases ih with ih | ih
      · refine Or.inl ?_
        show F (F (itF F k S)) = F (itF F k S)
        rw [ih, ih]
      · by_cases e : itF F k S = F (itF F k S)
        · refine Or.inl ?_
          show F (F (itF F k S)) = F (itF F k S)
          rw [← e, ← e]
        · have := ctb_lt (itF_lt hF hS k) (hF _ (itF_lt hF hS k)) (hs _ (itF_lt hF hS k)) e
          refine Or.inr ?_
          show k + 1 + 1 ≤ ctb n (F (itF F k S))
          omega
  rcases key (n - 1) with h | h
  · exact h
  · by_cases hn : n = 0
    · subst hn
      obtain ⟨v, hv0⟩ := h0
      exact absurd (tb_lt hS hv0) (Nat.not_lt_zero v)
    have hl := itF_lt hF hS (n - 1)
    have ha : ctb n (itF F (n - 1) S) = n := by
      have := fb_ct_le (fun v => (itF F (n - 1) S).testBit v) n
      unfold ctb at *
      omega
    refine (sub_anti (hs _ hl) (fun v hv0 => ?_)).symm
    exact fb_ct_all.mp ha v (tb_lt (hF _ hl) hv0)
theorem itF_add {F : Nat → Nat} {S k : Nat} (h : F (itF F k S) = itF F k S) : ∀ j, itF F (k + j) S = itF F k S
  | 0 => rfl
  | j + 1 => by
    show F (itF F (k + j) S) = _
    rw [itF_add h j, h]
theorem itF_to6 {F : Nat → Nat} {n : Nat} (hn : n ≤ 6) (hF : ∀ S, S < 2 ^ n → F S < 2 ^ n) (hs : ∀ S, S < 2 ^ n → sub S (F S)) {S : Nat} (hS : S < 2 ^ n) (h0 : ∃ v, S.testBit v = true) : itF F 6 S = itF F (n - 1) S := by
  have h := itF_add (itF_fix hF hs hS h0) (6 - (n - 1))
  rw [show n - 1 + (6 - (n - 1)) = 6 by omega] at h
  exact h
/-! what is inside -/
def heldIn (σ : LV) (v T : Nat) : Bool := decide (0 < σ 3 v) && T.testBit (σ 3 v - 1)
def swp (σ : LV) : Nat → Nat → Nat
  | 0, S => S
  | i + 1, S => if heldIn σ i (swp σ i S) = true then swp σ i S ||| 2 ^ i else swp σ i S
theorem or2_lt {S i n : Nat} (hS : S < 2 ^ n) (hi : i < n) : S ||| 2 ^ i < 2 ^ n := Nat.or_lt_two_pow hS (Nat.pow_lt_pow_right (by decide) hi)
theorem swp_lt (σ : LV) {n : Nat} : ∀ i, i ≤ n → ∀ S, S < 2 ^ n → swp σ i S < 2 ^ n
  | 0, _, _, h => h
  | i + 1, hi, S, h => by
    have ih := swp_lt σ i (by omega) S h
    rw [swp]
    split
    · exact or2_lt ih (by omega)
    · exact ih
theorem swp_sub (σ : LV) : ∀ i S, sub S (swp σ i S)
  | 0, S => sub_refl S
  | i + 1, S => by
    rw [swp]
    split
    · exact sub_trans (swp_sub σ i S) sub_or
    · exact swp_sub σ i S
def insS (n : Nat) (σ : LV) (s : Nat) : Nat := itF (swp σ n) 6 (2 ^ s)
theorem one_lt {n s : Nat} (hs : s < n) : 2 ^ s < 2 ^ n := Nat.pow_lt_pow_right (by decide) hs
theorem tb_self (s : Nat) : (2 ^ s).testBit s = true := by rw [Nat.testBit_two_pow]; simp
theorem insS_lt {n : Nat} (σ : LV) {s : Nat} (hs : s < n) : insS n σ s < 2 ^ n := itF_lt (fun S h => swp_lt σ n (Nat.le_refl n) S h) (one_lt hs) 6
theorem insS_X {n : Nat} (hn : n ≤ 6) (σ : LV) {s : Nat} (hs : s < n) : insS n σ s = itF (swp σ n) (n - 1) (2 ^ s) := itF_to6 hn (fun S h => swp_lt σ n (Nat.le_refl n) S h) (fun S _ => swp_sub σ n S) (one_lt hs) ⟨s, tb_self s⟩
theorem l31 {n S : Nat} (hn : n ≤ 6) (hS : S < 2 ^ n) : S < 2 ^ 31 := Nat.lt_of_lt_of_le (Nat.lt_of_lt_of_le hS (pw6 hn)) (by decide)
theorem l64 {n S : Nat} (hn : n ≤ 6) (hS : S < 2 ^ n) : S < 64 := Nat.lt_of_lt_of_le hS (pw6 hn)
section Ins
variable {b n d : Nat} {M : SX} {σ : LV}
theorem isHeldIn_X (hX : XRep b M n σ) (hn : n ≤ 6) (hV : Valid n d σ) {v S : Nat} (hv0 : v < n) (hS : S < 2 ^ n) : p1_isHeldIn b (nI v) (nI S) M = some (if heldIn σ v S = true then 1 else 0, M) := by
  rw [p1_isHeldIn, isPawned_X hX hn hV hv0, bd_s, it01]
  unfold heldIn
  match he : σ 3 v with
  | 0 => rw [if_neg (by omega)]; rfl
  | h + 1 =>
    have hh : h < n := by have := (hV.2 v hv0).2.2.1; omega
    have e4 := (hX.2 v hv0).2.2.2.1
    rw [he] at e4
    rw [if_pos (by omega), gd_of (bIn_nI (by omega) (by decide)), nI_clamp (by omega), e4, show hv (h + 1) = nI h from rfl, isIn_X (l31 hn hS) (by omega), bd_s, it01, show (decide (0 < h + 1) && S.testBit (h + 1 - 1)) = S.testBit h by simp]
    by_cases t : S.testBit h = true
    · rw [if_pos t, if_pos t]
    · rw [if_neg t, if_neg t]
theorem insideOf_X (hX : XRep b M n σ) (hn : n ≤ 6) (hV : Valid n d σ) {s : Nat} (hs : s < n) : p1_insideOf b (nI s) M = some (nI (insS n σ s), M) := by
  rw [p1_insideOf, lt_v, shl1 s (by omega), insS_X hn σ hs]
  refine lp2_go (fun j => nI (itF (swp σ n) j (2 ^ s))) (fun j => nI (1 + j)) (fun _ => M) (n - 1) (by omega) _ (fun j hj rc => ?_) (fun rc => ?_)
  · have hS : itF (swp σ n) j (2 ^ s) < 2 ^ n := itF_lt (fun S h => swp_lt σ n (Nat.le_refl n) S h) (one_lt hs) j
    show p1_insideOf_6 b rc (nI (itF (swp σ n) j (2 ^ s))) (nI (1 + j)) M = rc (nI (swp σ n (itF (swp σ n) j (2 ^ s)))) (nI (1 + (j + 1))) M
    generalize itF (swp σ n) j (2 ^ s) = S at hS
    rw [p1_insideOf_6, hX.1, if_neg (nI_ge (by omega) (by omega))]
    refine lp3_go (fun i => nI (swp σ i S)) (fun _ => nI (1 + j)) (fun i => nI i) (fun _ => M) n (by omega) _ (fun i hi rc2 => ?_) (fun rc2 => ?_)
    · have hT := swp_lt σ i (n := n) (by omega) S hS
      rw [p1_insideOf_17, hX.1, if_neg (nI_ge hi (by omega)), isHeldIn_X hX hn hV hi hT, bd_s, it01, swp]
      by_cases h : heldIn σ i (swp σ i S) = true
      · rw [if_pos h, if_pos h, lt_v, p1_insideOf_43, lt_v, shl1 i (by omega), or_nI, nI_1]
      · rw [if_neg h, if_neg h, p1_insideOf_43, lt_v, nI_1]
    · rw [p1_insideOf_17, hX.1, if_pos (Int32.le_refl _), lt_v, nI_1]
      rfl
  · rw [p1_insideOf_6, hX.1, if_pos (nI_le (by omega) (by omega))]
theorem insideOf_Y (h0 : M.1 0 1 = nI n) (hY : YRep 0 M n σ) (hn : n ≤ 6) (hV : Valid n d σ) {s : Nat} (hs : s < n) : p6_insideOf (nI s) M = some (nI (insS n σ s), M) := by
  rw [p6_insideOf, lt_v, shl1 s (by omega)]
  refine lp2_go (fun j => nI (itF (swp σ n) j (2 ^ s))) (fun j => nI j) (fun _ => M) 6 (by omega) _ (fun j hj rc => ?_) (fun rc => ?_)
  · have hS : itF (swp σ n) j (2 ^ s) < 2 ^ n := itF_lt (fun S h => swp_lt σ n (Nat.le_refl n) S h) (one_lt hs) j
    show p6_insideOf_6 rc (nI (itF (swp σ n) j (2 ^ s))) (nI j) M = rc (nI (swp σ n (itF (swp σ n) j (2 ^ s)))) (nI (j + 1)) M
    generalize itF (swp σ n) j (2 ^ s) = S at hS
    rw [p6_insideOf_6, if_neg (show ¬ (6 : Int32) ≤ nI j from nI_ge (b := 6) (by omega) (by omega))]
    refine lp3_go (fun i => nI (swp σ i S)) (fun _ => nI j) (fun i => nI i) (fun _ => M) n (by omega) _ (fun i hi rc2 => ?_) (fun rc2 => ?_)
    · have hT := swp_lt σ i (n := n) (by omega) S hS
      rw [p6_insideOf_15, h0, if_neg (nI_ge hi (by omega)), isPawned_Y hY hn hV hi, bd_s, it01, swp]
      have no : heldIn σ i (swp σ i S) = false → p6_insideOf_58 rc rc2 (nI j) (nI i) (nI (swp σ i S)) M = rc2 (nI (if heldIn σ i (swp σ i S) = true then swp σ i S ||| 2 ^ i else swp σ i S)) (nI j) (nI (i + 1)) M := by
        intro e
        rw [e, if_neg (by decide), p6_insideOf_58, p6_insideOf_59, lt_v, lt_v, or0, nI_1]
      match he : σ 3 i with
      | 0 => rw [if_neg (by omega)]; exact no (by unfold heldIn; rw [he]; rfl)
      | h + 1 =>
        have hh : h < n := by have := (hV.2 i hi).2.2.1; omega
        have e4 := (hY i hi).2.2.2.1
        rw [he, Nat.zero_add] at e4
        have ix := ix7 (s := i) (by omega)
        have eh : heldIn σ i (swp σ i S) = (swp σ i S).testBit h := by unfold heldIn; rw [he]; simp
        rw [if_pos (by omega), gd_of ix.1, ix.2, e4, show hv (h + 1) = nI h from rfl, has_Y (l31 hn hT) (by omega), bd_s, it01]
        by_cases t : (swp σ i S).testBit h = true
        · rw [if_pos t, eh, if_pos t, p6_insideOf_59, lt_v, lt_v, shl1 i (by omega), or_nI, nI_1]
        · rw [if_neg t]
          exact no (by rw [eh]; simpa using t)
    · rw [p6_insideOf_15, h0, if_pos (Int32.le_refl _), lt_v, nI_1]
  · rw [p6_insideOf_6, if_pos (by decide)]
    rfl
end Ins
theorem ag_inside (a1 : Int32) (MX MY : SX) (hR : Rel MX MY) : Ag (p5_inside a1 MX) (p6_inside a1 MY) := by
  obtain ⟨n, d, σ, hH⟩ := rel_here hR
  rw [p5_inside, p6_inside]
  refine ag_shopg hR hH a1 (fun s hs e => ?_) (by rw [if_pos rfl]) (by rw [if_pos rfl])
  subst e
  obtain ⟨hn, hd, h0, hX, hY, hV, h7, h1⟩ := hH
  rw [if_neg i10, if_neg i10, insideOf_X hX hn hV hs, insideOf_Y h0 hY hn hV hs, bd_s, bd_s]
  exact ag_no hR _
def stockS (n : Nat) (σ : LV) (S : Nat) : Nat := tot n (fun k => if S.testBit k = true then σ 2 k else 0)
theorem ag_goods (a1 : Int32) (MX MY : SX) (hR : Rel MX MY) : Ag (p5_goods a1 MX) (p6_goods a1 MY) := by
  obtain ⟨n, d, σ, hH⟩ := rel_here hR
  rw [p5_goods, p6_goods]
  refine ag_shopg hR hH a1 (fun s hs e => ?_) (by rw [if_pos rfl]) (by rw [if_pos rfl])
  subst e
  obtain ⟨hn, hd, h0, hX, hY, hV, h7, h1⟩ := hH
  have hS := insS_lt σ hs
  rw [if_neg i10, if_neg i10, insideOf_X hX hn hV hs, insideOf_Y h0 hY hn hV hs, bd_s, bd_s]
  generalize insS n σ s = S at hS
  have eX : p1_stockOf 17 (nI S) MX = some (nI (stockS n σ S), MX) := by
    rw [p1_stockOf]
    refine lp3_go (fun _ => nI S) (fun i => nI (stockS i σ S)) (fun i => nI i) (fun _ => MX) n (by omega) _ (fun i hi rc => ?_) (fun rc => ?_)
    · have e : stockS (i + 1) σ S = stockS i σ S + if S.testBit i = true then σ 2 i else 0 := rfl
      rw [p1_stockOf_4, hX.1, if_neg (nI_ge hi (by omega)), isIn_X (l31 hn hS) (by omega), bd_s, it01, e]
      by_cases t : S.testBit i = true
      · rw [if_pos t, if_pos t, gd_of (bIn_nI (by omega) (by decide)), nI_clamp (by omega), (hX.2 i hi).2.2.1, lt_v, p1_stockOf_29, lt_v, nI_add, nI_1]
      · rw [if_neg t, if_neg t, p1_stockOf_29, lt_v, nI_1, Nat.add_zero (stockS i σ S)]
    · rw [p1_stockOf_4, hX.1, if_pos (Int32.le_refl _)]
  have eY : xlp3 p6_goods_21 FU (nI S) 0 0 MY = some (nI (stockS n σ S), MY) := by
    refine lp3_go (fun _ => nI S) (fun i => nI (stockS i σ S)) (fun i => nI i) (fun _ => MY) n (by omega) _ (fun i hi rc => ?_) (fun rc => ?_)
    · have e : stockS (i + 1) σ S = stockS i σ S + if S.testBit i = true then σ 2 i else 0 := rfl
      have ix := ix25 (s := i) (by omega)
      have hy := (hY i hi).2.2.1
      rw [Nat.zero_add] at hy
      rw [p6_goods_21, h0, if_neg (nI_ge hi (by omega)), has_Y (l31 hn hS) (by omega), bd_s, it01, e]
      by_cases t : S.testBit i = true
      · rw [if_pos t, if_pos t, gd_of ix.1, ix.2, hy, p6_goods_54, lt_v, lt_v, nI_add, nI_1]
      · rw [if_neg t, if_neg t, p6_goods_54, lt_v, lt_v, add0, nI_1, Nat.add_zero (stockS i σ S)]
    · rw [p6_goods_21, h0, if_pos (Int32.le_refl _)]
  rw [eX, eY, bd_s]
  exact ag_no hR _
