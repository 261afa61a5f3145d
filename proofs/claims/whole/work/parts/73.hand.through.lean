/-! through a set -/
theorem push_on {P : Nat} {go : Nat → Nat → Bool} (hf : Fwd P go) (hP : P < 64) {n : Nat} (hn : n ≤ 6) {a0 : Nat} (ha : a0 ≤ P) : ∀ k, a0 + k ≤ P → wsum (onE P n go) (pushS go n a0 (dlt a0) k) (a0 + k) = onE P n go a0
  | 0, _ => wsum_dlt _ (by omega)
  | k + 1, h => by
    have ih := push_on hf hP hn ha k (by omega)
    have e1 := wsum_S (onE P n go) (pushS go n a0 (dlt a0) k) (S := a0 + k) (by omega)
    have e2 := wsum_V hf hP (onE P n go) (S := a0 + k) (by omega) (pushS go n a0 (dlt a0) k) n hn
    have e3 := onE_eq hf hn (S := a0 + k) (by omega)
    rw [if_neg (by omega), Nat.zero_add] at e3
    rw [← e3] at e2
    show wsum (onE P n go) (pushV go (a0 + k) (pushS go n a0 (dlt a0) k) n) (a0 + k + 1) = _
    omega
theorem sub_le {A B : Nat} (h : sub A B) : A ≤ B := by
  have h3 : A &&& B = A := Nat.eq_of_testBit_eq (fun i => by
    rw [Nat.testBit_and]
    cases e : A.testBit i
    · rfl
    · rw [h i e]; rfl)
  rw [← h3]
  exact Nat.and_le_right
theorem dlt_sup {P a0 : Nat} (ha : sub a0 P) : ∀ T, ¬ dlt a0 T = 0 → sub T P := fun T hT => by
  unfold dlt at hT
  by_cases e : T = a0
  · rw [e]; exact ha
  · rw [if_neg e] at hT; exact absurd rfl hT
theorem push_end {P : Nat} {go : Nat → Nat → Bool} (hf : Fwd P go) (hP : P < 64) {n : Nat} (hn : n ≤ 6) {a0 : Nat} (ha : sub a0 P) : pushS go n a0 (dlt a0) (P + 1 - a0) P = onE P n go a0 := by
  have hle := sub_le ha
  have e := push_on hf hP hn hle (P - a0) (by omega)
  rw [show a0 + (P - a0) = P by omega] at e
  have hsup := pushS_sup hf n a0 (dlt a0) (dlt_sup ha) (P - a0)
  have eP : onE P n go P = 1 := by
    rw [onE_eq hf hn hP, if_pos rfl]
    have : tot n (fun v => if go P v = true then onE P n go (P ||| 2 ^ v) else 0) = tot n (fun _ => 0) := tot_eq (fun v _ => by
      by_cases g : go P v = true
      · have := hf P v g
        rw [this.1] at this
        exact absurd this.2 (by decide)
      · rw [if_neg g])
    rw [this, tot_zero]
  have e2 : wsum (onE P n go) (pushS go n a0 (dlt a0) (P - a0)) P = pushS go n a0 (dlt a0) (P - a0) P := by
    unfold wsum
    have := tot_upd (f := fun T => if P ≤ T then pushS go n a0 (dlt a0) (P - a0) T * onE P n go T else 0) (g := fun _ => 0) (i := P) (x := pushS go n a0 (dlt a0) (P - a0) P) hP (fun k hk => by
      show (if P ≤ k then pushS go n a0 (dlt a0) (P - a0) k * onE P n go k else 0) = 0
      split
      · by_cases z : pushS go n a0 (dlt a0) (P - a0) k = 0
        · rw [z, Nat.zero_mul]
        · have := sub_le (hsup k z)
          omega
      · rfl) (by
      show (if P ≤ P then pushS go n a0 (dlt a0) (P - a0) P * onE P n go P else 0) = 0 + pushS go n a0 (dlt a0) (P - a0) P
      rw [if_pos (Nat.le_refl _), eP, Nat.mul_one, Nat.zero_add])
    rw [this, tot_zero, Nat.zero_add]
  rw [show P + 1 - a0 = (P - a0) + 1 by omega]
  show pushV go (a0 + (P - a0)) (pushS go n a0 (dlt a0) (P - a0)) n P = _
  rw [pushV_le hf _ _ (by omega), ← e2, e]
theorem and_inv (x p : Int32) (h : x &&& (p ^^^ (-1)) = 0) : x = x &&& p := by
  apply Int32.toBitVec.inj
  apply BitVec.eq_of_getLsbD_eq
  intro i hi
  have h2 := congrArg (fun z : Int32 => z.toBitVec.getLsbD i) h
  simp only [Int32.toBitVec_and, Int32.toBitVec_xor, BitVec.getLsbD_and, BitVec.getLsbD_xor] at h2 ⊢
  have e1 : (-1 : Int32).toBitVec.getLsbD i = true := by
    have : (-1 : Int32).toBitVec = BitVec.allOnes 32 := rfl
    rw [this, BitVec.getLsbD_allOnes]
    simp [hi]
  have e0 : (0 : Int32).toBitVec.getLsbD i = false := by
    have : (0 : Int32).toBitVec = 0#32 := rfl
    rw [this, BitVec.getLsbD_zero]
  rw [e1, e0] at h2
  cases a : x.toBitVec.getLsbD i <;> cases b : p.toBitVec.getLsbD i <;> simp_all
theorem thr_arg (x : Int32) {P : Nat} (hP : P < 64) (h : x &&& (nI P ^^^ (-1)) = 0) : ∃ a, a < 64 ∧ x = nI a := by
  have e := and_inv x (nI P) h
  have e2 := congrArg (fun z : Int32 => z.toBitVec.toNat) e
  simp only [Int32.toBitVec_and, BitVec.toNat_and] at e2
  have hp : (nI P).toBitVec.toNat = P := by
    have : (nI P).toBitVec = BitVec.ofNat 32 P := rfl
    rw [this, BitVec.toNat_ofNat]
    omega
  rw [hp] at e2
  have hle : x.toBitVec.toNat ≤ P := by rw [e2]; exact Nat.and_le_right
  refine ⟨x.toBitVec.toNat, by omega, ?_⟩
  apply Int32.toBitVec.inj
  show x.toBitVec = BitVec.ofNat 32 x.toBitVec.toNat
  refine BitVec.eq_of_toNat_eq ?_
  rw [BitVec.toNat_ofNat]
  omega
theorem dif0_sub : ∀ a, a < 64 → ∀ P, P < 64 → dif a P = 0 → a &&& P = a := by decide +kernel
theorem sub_of_and {a P : Nat} (h : a &&& P = a) : sub a P := fun v hv0 => by
  rw [← h, Nat.testBit_and, Bool.and_eq_true] at hv0
  exact hv0.2
theorem ag_through (a1 : Int32) (MX MY : SX) (hR : Rel MX MY) : Ag (p5_through a1 MX) (p6_through a1 MY) := by
  obtain ⟨n, d, σ, hn, hd, h0, hX, hY, hV, h7, h1⟩ := rel_here hR
  have hP := pawnS_lt hn σ
  have hPn : pawnS n σ < 2 ^ n := bset_lt _ n
  have h2n : 2 ^ n ≤ 64 := pw6 hn
  have h2p : 0 < 2 ^ n := Nat.two_pow_pos n
  rw [p5_through, p6_through, pawnedSet_X hX hn hV, bd_s, h0, shl1 n (by omega), show nI (2 ^ n) - 1 = nI (2 ^ n - 1) from pk_sub (b := 1) h2p, show p6_in a1.toInt64 0 (nI (2 ^ n - 1)).toInt64 MY = _ from in_YI a1 0 (nI (2 ^ n - 1)) MY, bd_s, it01]
  by_cases hz : a1 &&& (nI (pawnS n σ) ^^^ (-1)) = 0
  · obtain ⟨a, ha, rfl⟩ := thr_arg a1 hP hz
    have hz' := hz
    rw [dif_I a ha _ hP] at hz'
    have hd0 : dif a (pawnS n σ) = 0 := by
      have := dif_lt (P := a) (S := pawnS n σ) ha
      exact (nI_eq (b := 0) (by omega) (by decide)).mp hz'
    have hsub := sub_of_and (dif0_sub a ha _ hP hd0)
    have hle := sub_le hsub
    have hG := og_of hn hd hV (w := 0) (by omega)
    have hf := goB_fwd n (pawnS n σ) (σ 3) (fun v => due σ v 0) (σ 1)
    obtain ⟨MX1, eX1, sX1, oX1⟩ := lookAt_X hX hn hV hd (w := 0) (by omega)
    obtain ⟨MX2, eX2, cX2, jX2, aX2⟩ := countFrom_X oX1 hG (a0 := 0) (Nat.zero_le _)
    have oX2 := oX1.c58 cX2
    obtain ⟨MX3, eX3, cX3, jX3, aX3⟩ := countFrom_X oX2 hG (a0 := a) hle
    obtain ⟨MY1, eY1, sY1, oY1⟩ := layTried_Y0 h0 hY hn hV hd (w := 0) (by omega)
    obtain ⟨MY2, eY2, cY2, jY2, aY2⟩ := layWays_Y oY1 hG
    have oY2 := oY1.same1 cY2
    obtain ⟨MY3, eY3, cY3, jY3, aY3⟩ := layOn_Y oY2 hG
    have sX := (sX1.trans (sameX58 cX2 jX2)).trans (sameX58 cX3 jX3)
    have sY := (sY1.trans (sameY13 cY2 jY2)).trans (sameY14 cY3 jY3)
    have hl1 := way_le hG ha
    have hl2 := onE_le hf hn (S := a) ha
    rw [if_pos hz, if_pos ⟨nI_pos' (by omega), nI_le (by omega) (by omega)⟩, show p2_lookAt 17 0 MX = some MX1 from eX1, bv_s, show p2_countFrom 0 MX1 = some MX2 from eX2, bv_s, p2_countOf, gd_of (bIn_nI ha (by decide)), nI_clamp (by omega), aX2 _ ha, bd_s, lt_v, show pushS (goB n (pawnS n σ) (σ 3) (fun v => due σ v 0) (σ 1)) n 0 (dlt 0) (pawnS n σ + 1 - 0) a = wayN n (pawnS n σ) (σ 3) (fun v => due σ v 0) (σ 1) a from rfl, eX3, bv_s, p2_countOf, gd_of (bIn_nI hP (by decide)), nI_clamp (by omega), aX3 _ hP, bd_s, push_end hf hP hn hsub, nI_l (by omega), nI_l (by omega), tell_1, bv_s, pawned_Y h0 hY hn hV, bd_s, if_pos hz, show p6_layTried 0 0 MY = some MY1 from eY1, bv_s, eY2, bv_s, eY3, bv_s, gd_of (bIn_nI ha (by decide)), jY3 13 (by decide), aY2 _ ha, aY3 _ ha, p6_tellMany, lt_v, lt_v, bd_s]
    exact ⟨_, _, _, rfl, rfl, rel_tellL _ _ (rel_same hR sX sY)⟩
  · rw [if_neg hz]
    by_cases c : 0 ≤ a1 ∧ a1 ≤ nI (2 ^ n - 1)
    · rw [if_pos c, pawned_Y h0 hY hn hV, bd_s, if_neg hz]
      exact ag_no hR _
    · rw [if_neg c]
      exact ag_no hR _
