/-! what only serves a call, and is forgotten -/
def SameX (M M' : SX) : Prop := (∀ k, (k < 7 ∨ (17 ≤ k ∧ k < 54) ∨ 59 ≤ k) → M'.1 k = M.1 k) ∧ M'.2 = M.2
def SameY (M M' : SX) : Prop := (∀ k, 1 ≤ k → k ≤ 7 → M'.1 k = M.1 k) ∧ (∀ j, j ≤ 10 → M'.1 0 j = M.1 0 j) ∧ M'.2 0 = M.2 0
theorem SameX.refl (M : SX) : SameX M M := ⟨fun _ _ => rfl, rfl⟩
theorem SameX.trans {A B C : SX} (h : SameX A B) (g : SameX B C) : SameX A C := ⟨fun k hk => (g.1 k hk).trans (h.1 k hk), g.2.trans h.2⟩
theorem SameY.refl (M : SX) : SameY M M := ⟨fun _ _ _ => rfl, fun _ _ => rfl, rfl⟩
theorem SameY.trans {A B C : SX} (h : SameY A B) (g : SameY B C) : SameY A C := ⟨fun k h1 h2 => (g.1 k h1 h2).trans (h.1 k h1 h2), fun j hj => (g.2.1 j hj).trans (h.2.1 j hj), g.2.2.trans h.2.2⟩
theorem same_wI {M : SX} {k j : Nat} {v : Int32} (h : (7 ≤ k ∧ k < 17) ∨ (54 ≤ k ∧ k < 59)) : SameX M (wI M k j v) := ⟨fun i hi => wI_nk (by omega), rfl⟩
theorem same_wR {M : SX} {k : Nat} {f : Nat → Int32} (h : (7 ≤ k ∧ k < 17) ∨ (54 ≤ k ∧ k < 59)) : SameX M (wR M k f) := ⟨fun i hi => wR_nk (by omega), rfl⟩
theorem same_wI0 {M : SX} {j : Nat} {v : Int32} (h : 11 ≤ j) : SameY M (wI M 0 j v) := ⟨fun i h1 h2 => wI_nk (by omega), fun i hi => by rw [wI_k, if_neg (by omega)], rfl⟩
theorem same_wIY {M : SX} {k j : Nat} {v : Int32} (h : 8 ≤ k) : SameY M (wI M k j v) := ⟨fun i h1 h2 => wI_nk (by omega), fun i hi => by rw [wI_nk (by omega)], rfl⟩
theorem same_wRY {M : SX} {k : Nat} {f : Nat → Int32} (h : 8 ≤ k) : SameY M (wR M k f) := ⟨fun i h1 h2 => wR_nk (by omega), fun i hi => by rw [wR_nk (by omega)], rfl⟩
theorem same_wLY {M : SX} {k : Nat} {f : Nat → Int64} (h : 8 ≤ k) : SameY M (wL M k f) := ⟨fun i h1 h2 => rfl, fun i hi => rfl, by rw [wL_ne (by omega)]⟩
theorem rel_same {MX MY MX' MY' : SX} (hR : Rel MX MY) (hx : SameX MX MX') (hy : SameY MY MY') : Rel MX' MY' := by
  obtain ⟨hr, ht, hl, hn⟩ := hR
  refine ⟨hr.to (hx.1 1 (by omega)) (hx.1 2 (by omega)) (hx.1 3 (by omega)) (hy.1 3 (by omega) (by omega)) (hy.1 4 (by omega) (by omega)), ht.to (hx.1 4 (by omega)) (hx.1 5 (by omega)) (hx.1 6 (by omega)) (hy.1 5 (by omega) (by omega)) (hy.1 6 (by omega) (by omega)), hl.to (by rw [hx.1 0 (by omega)]) (by rw [hx.1 0 (by omega)]) (by rw [hx.2]) (hx.1 59 (by omega)) (hy.2.1 7 (by omega)) (hy.2.1 10 (by omega)) hy.2.2 (hy.1 7 (by omega) (by omega)), hn.to (fun k a b => hx.1 k (by omega)) (hy.2.1 1 (by omega)) (hy.1 1 (by omega) (by omega)) (hy.1 2 (by omega) (by omega))⟩
theorem XRep.same {M M' : SX} {n : Nat} {σ : LV} (h : XRep 17 M n σ) (hx : SameX M M') : XRep 17 M' n σ := h.to (fun k a b => hx.1 k (by omega))
theorem YRep.same {o : Nat} {M M' : SX} {n : Nat} {σ : LV} (h : YRep o M n σ) (hy : SameY M M') : YRep o M' n σ := by
  unfold YRep at *
  rw [hy.1 1 (by omega) (by omega), hy.1 2 (by omega) (by omega)]
  exact h
theorem Here.same {MX MY MX' MY' : SX} {n d : Nat} {σ : LV} (h : Here MX MY n d σ) (hx : SameX MX MX') (hy : SameY MY MY') : Here MX' MY' n d σ := by
  obtain ⟨hn, hd, h0, hX, hY, hV, h7, h1⟩ := h
  exact ⟨hn, hd, by rw [hy.2.1 1 (by omega)]; exact h0, hX.same hx, hY.same hy, hV, by rw [hx.1 (17 + 7) (by omega)]; exact h7, by rw [hy.1 1 (by omega) (by omega)]; exact h1⟩
/-! orders: a lane looked at -/
def OX (M : SX) (n P : Nat) (H D C : Nat → Nat) : Prop := M.1 54 0 = nI n ∧ M.1 54 1 = nI P ∧ ∀ v, v < n → M.1 55 v = nI (C v) ∧ M.1 56 v = hv (H v) ∧ M.1 57 v = nI (D v)
def OY (M : SX) (n P : Nat) (H D C : Nat → Nat) : Prop := M.1 0 1 = nI n ∧ M.1 0 22 = nI P ∧ ∀ v, v < n → M.1 12 v = nI (C v) ∧ M.1 1 (7 + v) = hv (H v) ∧ M.1 11 v = nI (D v)
def OG (n P : Nat) (H D C : Nat → Nat) : Prop := n ≤ 6 ∧ P < 2 ^ n ∧ ∀ v, v < n → H v ≤ 6 ∧ D v ≤ 1000 ∧ C v ≤ 10000
def cashZ (n : Nat) (H D C : Nat → Nat) (S v : Nat) : Int := (C v : Int) - ((if S.testBit v = true then D v else 0 : Nat) : Int) + ((tot n (fun i => if H i = v + 1 ∧ S.testBit i = true then D i else 0) : Nat) : Int)
def goB (n P : Nat) (H D C : Nat → Nat) (S v : Nat) : Bool := P.testBit v && !S.testBit v && decide ((D v : Int) ≤ cashZ n H D C S v)
theorem goB_iff {n P : Nat} {H D C : Nat → Nat} {S v : Nat} : goB n P H D C S v = true ↔ P.testBit v = true ∧ S.testBit v = false ∧ (D v : Int) ≤ cashZ n H D C S v := by
  unfold goB
  simp [Bool.and_eq_true, and_assoc]
theorem ofI (k : Nat) : Int32.ofInt (k : Int) = nI k := Int32.ofInt_eq_ofNat
theorem ofI_lt {a b : Int} (h1 : -1000000 ≤ a) (h2 : a ≤ 1000000) (h3 : -1000000 ≤ b) (h4 : b ≤ 1000000) : Int32.ofInt a < Int32.ofInt b ↔ a < b := by
  rw [Int32.lt_iff_toInt_lt, Int32.toInt_ofInt_of_le (by omega) (by omega), Int32.toInt_ofInt_of_le (by omega) (by omega)]
section Ord
variable {M : SX} {n P : Nat} {H D C : Nat → Nat}
theorem cashZ_b (hG : OG n P H D C) {S v : Nat} (hv0 : v < n) : -1000 ≤ cashZ n H D C S v ∧ cashZ n H D C S v ≤ 16000 := by
  obtain ⟨hn, _, hg⟩ := hG
  have h1 := hg v hv0
  have h2 : tot n (fun i => if H i = v + 1 ∧ S.testBit i = true then D i else 0) ≤ n * 1000 := tot_le (fun k hk => by
    show (if H k = v + 1 ∧ S.testBit k = true then D k else 0) ≤ 1000
    have := (hg k hk).2.1
    split <;> omega)
  unfold cashZ
  have h3 : (if S.testBit v = true then D v else 0) ≤ 1000 := by split <;> omega
  generalize hA : (if S.testBit v = true then D v else 0) = A at h3 ⊢
  generalize hT : tot n (fun i => if H i = v + 1 ∧ S.testBit i = true then D i else 0) = T at h2 ⊢
  have : n * 1000 ≤ 6000 := by omega
  omega
theorem hvI {h v : Nat} (hh : h ≤ 6) (hv0 : v < 6) : hv h = nI v ↔ h = v + 1 := hv_eq hh hv0
theorem cash_step {S v i : Nat} (A : Int) (f : Nat → Nat) (hf : f = fun i => if H i = v + 1 ∧ S.testBit i = true then D i else 0) : Int32.ofInt (A + (tot i f : Nat)) + nI (f i) = Int32.ofInt (A + (tot (i + 1) f : Nat)) := by
  rw [← ofI, ← Int32.ofInt_add]
  congr 1
  show _ = A + ((tot i f + f i : Nat) : Int)
  omega
theorem cashAfter_X (hO : OX M n P H D C) (hG : OG n P H D C) {S v : Nat} (hS : S < 64) (hv0 : v < n) : p2_cashAfter (nI S) (nI v) M = some (Int32.ofInt (cashZ n H D C S v), M) := by
  obtain ⟨o0, o1, o2⟩ := hO
  have hn := hG.1
  have hov := o2 v hv0
  rw [p2_cashAfter, isIn_X (by omega) (by omega), bd_s, it01]
  have key : ∀ A : Int, A = (C v : Int) - ((if S.testBit v = true then D v else 0 : Nat) : Int) → p2_cashAfter_30 (nI S) (nI v) (Int32.ofInt A) M = some (Int32.ofInt (cashZ n H D C S v), M) := by
    intro A hA
    rw [p2_cashAfter_30]
    unfold cashZ
    rw [← hA]
    generalize hf : (fun i => if H i = v + 1 ∧ S.testBit i = true then D i else 0) = f
    have e0 : Int32.ofInt A = Int32.ofInt (A + ((tot 0 f : Nat) : Int)) := by
      show _ = Int32.ofInt (A + ((0 : Nat) : Int))
      congr 1; omega
    rw [e0]
    refine lp4_go (fun _ => nI S) (fun _ => nI v) (fun i => Int32.ofInt (A + ((tot i f : Nat) : Int))) (fun i => nI i) (fun _ => M) n (by omega) _ (fun i hi rc => ?_) (fun rc => ?_)
    · have hoi := o2 i hi
      have hh := (hG.2.2 i hi).1
      have hfi : f i = if H i = v + 1 ∧ S.testBit i = true then D i else 0 := by rw [← hf]
      rw [p2_cashAfter_34, o0, if_neg (nI_ge hi (by omega)), gd_of (bIn_nI (by omega) (by decide)), nI_clamp (by omega), hoi.2.1, ← cash_step A f hf.symm]
      by_cases e : H i = v + 1
      · rw [if_pos ((hvI hh (by omega)).mpr e), isIn_X (by omega) (by omega), bd_s, it01]
        by_cases t : S.testBit i = true
        · rw [if_pos t, hoi.2.2, lt_v, p2_cashAfter_73, lt_v, nI_1, hfi, if_pos ⟨e, t⟩]
        · rw [if_neg t, p2_cashAfter_73, lt_v, nI_1, hfi, if_neg (fun z => t z.2), show nI 0 = 0 from rfl, Int32.add_zero]
      · rw [if_neg (fun z => e ((hvI hh (by omega)).mp z)), p2_cashAfter_73, lt_v, nI_1, hfi, if_neg (fun z => e z.1), show nI 0 = 0 from rfl, Int32.add_zero]
    · rw [p2_cashAfter_34, o0, if_pos (Int32.le_refl _)]
  by_cases h : S.testBit v = true
  · rw [if_pos h, gd_of (bIn_nI (by omega) (by decide)), nI_clamp (by omega), hov.1, hov.2.2, ← ofI (C v), ← ofI (D v), ← Int32.ofInt_sub]
    exact key _ (by rw [if_pos h])
  · rw [if_neg h, gd_of (bIn_nI (by omega) (by decide)), nI_clamp (by omega), hov.1, ← ofI (C v)]
    exact key _ (by rw [if_neg h]; omega)
theorem cashBy_Y (hO : OY M n P H D C) (hG : OG n P H D C) {S v : Nat} (hS : S < 64) (hv0 : v < n) : p6_cashBy (nI v) (nI S) M = some (Int32.ofInt (cashZ n H D C S v), M) := by
  obtain ⟨o0, o1, o2⟩ := hO
  have hn := hG.1
  have hov := o2 v hv0
  rw [p6_cashBy, gd_of (bIn_nI (by omega) (by decide)), has_Y (by omega) (by omega), bd_s, it01]
  have key : ∀ A : Int, A = (C v : Int) - ((if S.testBit v = true then D v else 0 : Nat) : Int) → xlp4 p6_cashBy_29 FU (nI v) (nI S) (Int32.ofInt A) 0 M = some (Int32.ofInt (cashZ n H D C S v), M) := by
    intro A hA
    unfold cashZ
    rw [← hA]
    generalize hf : (fun i => if H i = v + 1 ∧ S.testBit i = true then D i else 0) = f
    have e0 : Int32.ofInt A = Int32.ofInt (A + ((tot 0 f : Nat) : Int)) := by
      show _ = Int32.ofInt (A + ((0 : Nat) : Int))
      congr 1; omega
    rw [e0]
    refine lp4_go (fun _ => nI v) (fun _ => nI S) (fun i => Int32.ofInt (A + ((tot i f : Nat) : Int))) (fun i => nI i) (fun _ => M) n (by omega) _ (fun i hi rc => ?_) (fun rc => ?_)
    · have hoi := o2 i hi
      have hh := (hG.2.2 i hi).1
      have hfi : f i = if H i = v + 1 ∧ S.testBit i = true then D i else 0 := by rw [← hf]
      have ix := ix7 (s := i) (by omega)
      rw [p6_cashBy_29, o0, if_neg (nI_ge hi (by omega)), has_Y (by omega) (by omega), bd_s, it01, ← cash_step A f hf.symm]
      by_cases t : S.testBit i = true
      · rw [if_pos t, gd_of ix.1, ix.2, hoi.2.1]
        by_cases e : H i = v + 1
        · rw [if_pos ((hvI hh (by omega)).mpr e), gd_of (bIn_nI (by omega) (by decide)), nI_clamp (by omega), hoi.2.2, p6_cashBy_73, lt_v, lt_v, nI_1, hfi, if_pos ⟨e, t⟩]
        · rw [if_neg (fun z => e ((hvI hh (by omega)).mp z)), p6_cashBy_72, p6_cashBy_73, lt_v, lt_v, nI_1, hfi, if_neg (fun z => e z.1)]
          rfl
      · rw [if_neg t, p6_cashBy_72, p6_cashBy_73, lt_v, lt_v, nI_1, hfi, if_neg (fun z => t z.2)]
        rfl
    · rw [p6_cashBy_29, o0, if_pos (Int32.le_refl _)]
  by_cases h : S.testBit v = true
  · rw [if_pos h, nI_clamp (by omega), hov.1, hov.2.2, p6_cashBy_24, lt_v, ← ofI (C v), ← ofI (D v), ← Int32.ofInt_sub]
    exact key _ (by rw [if_pos h])
  · rw [if_neg h, nI_clamp (by omega), hov.1, p6_cashBy_24, lt_v, Int32.sub_zero, ← ofI (C v)]
    exact key _ (by rw [if_neg h]; omega)
end Ord
