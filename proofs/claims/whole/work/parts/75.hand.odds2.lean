/-! of those left only -/
theorem cashZ_cong {n : Nat} {H D D' C : Nat → Nat} {S v : Nat} (h : ∀ i, S.testBit i = true → D' i = D i) : cashZ n H D' C S v = cashZ n H D C S v := by
  unfold cashZ
  have e : tot n (fun i => if H i = v + 1 ∧ S.testBit i = true then D' i else 0) = tot n (fun i => if H i = v + 1 ∧ S.testBit i = true then D i else 0) := tot_eq (fun k _ => by
    by_cases c : H k = v + 1 ∧ S.testBit k = true
    · rw [if_pos c, if_pos c, h k c.2]
    · rw [if_neg c, if_neg c])
  rw [e]
  by_cases c : S.testBit v = true
  · rw [if_pos c, if_pos c, h v c]
  · rw [if_neg c, if_neg c]
theorem go_left {n P Q : Nat} {H D D' C : Nat → Nat} (hQ : sub Q P) (hD : ∀ i, Q.testBit i = true → D' i = D i) {S v : Nat} (hS : sub S Q) (hv0 : Q.testBit v = true) : goB n Q H D' C S v = goB n P H D C S v := by
  unfold goB
  rw [hv0, hQ v hv0, cashZ_cong (fun i hi => hD i (hS i hi)), hD v hv0]
theorem sub_or2 {S v Q : Nat} (h : sub (S ||| 2 ^ v) Q) : sub S Q ∧ Q.testBit v = true := ⟨sub_trans sub_or h, h v (by rw [Nat.testBit_or, tb_self, Bool.or_true])⟩
theorem pushV_left {n P Q : Nat} {H D D' C : Nat → Nat} (hQ : sub Q P) (hD : ∀ i, Q.testBit i = true → D' i = D i) {a a' : Nat → Nat} (h : ∀ T, sub T Q → a' T = a T) (S : Nat) : ∀ v T, sub T Q → pushV (goB n Q H D' C) S a' v T = pushV (goB n P H D C) S a v T
  | 0, T, hT => h T hT
  | v + 1, T, hT => by
    rw [pushV, pushV]
    by_cases e : T = S ||| 2 ^ v
    · have hs := sub_or2 (e ▸ hT)
      rw [go_left hQ hD hs.1 hs.2]
      split
      · rw [e, updN_s, updN_s, pushV_left hQ hD h S v _ (e ▸ hT), h S hs.1]
      · exact pushV_left hQ hD h S v T hT
    · have r1 : (if goB n Q H D' C S v = true then updN (pushV (goB n Q H D' C) S a' v) (S ||| 2 ^ v) (pushV (goB n Q H D' C) S a' v (S ||| 2 ^ v) + a' S) else pushV (goB n Q H D' C) S a' v) T = pushV (goB n Q H D' C) S a' v T := by
        split
        · exact updN_n _ e
        · rfl
      have r2 : (if goB n P H D C S v = true then updN (pushV (goB n P H D C) S a v) (S ||| 2 ^ v) (pushV (goB n P H D C) S a v (S ||| 2 ^ v) + a S) else pushV (goB n P H D C) S a v) T = pushV (goB n P H D C) S a v T := by
        split
        · exact updN_n _ e
        · rfl
      rw [r1, r2]
      exact pushV_left hQ hD h S v T hT
theorem pushS_left {n P Q : Nat} {H D D' C : Nat → Nat} (hQ : sub Q P) (hD : ∀ i, Q.testBit i = true → D' i = D i) : ∀ k T, sub T Q → pushS (goB n Q H D' C) n 0 (dlt 0) k T = pushS (goB n P H D C) n 0 (dlt 0) k T
  | 0, T, _ => rfl
  | k + 1, T, hT => pushV_left hQ hD (fun T hT => pushS_left hQ hD k T hT) (0 + k) n T hT
theorem way_left {n P Q : Nat} {H D D' C : Nat → Nat} (hG : OG n P H D C) (hG' : OG n Q H D' C) (hQ : sub Q P) (hD : ∀ i, Q.testBit i = true → D' i = D i) : wayN n Q H D' C Q = wayN n P H D C Q := by
  rw [← way_64 hG', ← way_64 hG]
  exact pushS_left hQ hD 64 Q (sub_refl Q)
/-! sums over sets -/
theorem tot_shift {f : Nat → Nat} : ∀ n, tot (n + 1) f = f 0 + tot n (fun k => f (k + 1))
  | 0 => by show 0 + f 0 = f 0 + 0; omega
  | n + 1 => by
    show tot (n + 1) f + f (n + 1) = f 0 + (tot n (fun k => f (k + 1)) + f (n + 1))
    rw [tot_shift n]
    omega
theorem tot_rev {f : Nat → Nat} : ∀ n, tot (n + 1) f = tot (n + 1) (fun k => f (n - k))
  | 0 => rfl
  | n + 1 => by
    rw [tot_shift (f := fun k => f (n + 1 - k)) (n + 1)]
    show tot (n + 1) f + f (n + 1) = f (n + 1 - 0) + tot (n + 1) (fun k => f (n + 1 - (k + 1)))
    rw [tot_rev n, Nat.sub_zero, Nat.add_comm]
    refine congrArg (fun z => f (n + 1) + z) (tot_eq (fun k hk => ?_))
    show f (n - k) = f (n + 1 - (k + 1))
    rw [show n + 1 - (k + 1) = n - k by omega]
def inP (P v : Nat) : Bool := v &&& P == v
theorem inP_1 : ∀ P, P < 64 → ∀ v, v < 64 → inP P v = true → v ≤ P ∧ dif P v = P - v ∧ inP P (P - v) = true := by decide +kernel
theorem inP_2 : ∀ P, P < 64 → ∀ v, v < 64 → inP P v = true → pc (P - v) = pc P - pc v ∧ pc P - pc (P - v) = pc v := by decide +kernel
theorem inP_3 : ∀ P, P < 64 → ∀ v, v < 64 → v ≤ P → inP P (P - v) = true → inP P v = true := by decide +kernel
theorem inP_4 : ∀ P, P < 64 → ∀ v, v < 64 → (dif v P = 0 ↔ inP P v = true) := by decide +kernel
theorem inP_sub {P v : Nat} (h : inP P v = true) : sub v P := sub_of_and (by unfold inP at h; exact eq_of_beq h)
theorem sub_inP {P v : Nat} (h : sub v P) : inP P v = true := by
  unfold inP
  refine beq_iff_eq.mpr (Nat.eq_of_testBit_eq (fun i => ?_))
  rw [Nat.testBit_and]
  cases e : v.testBit i
  · rfl
  · rw [h i e]; rfl
/-- how it weighs that just these are eaten -/
def wt (m P v : Nat) : Nat := m ^ pc v * (12 - m) ^ (pc P - pc v)
theorem wt_all : ∀ P, P < 64 → ∀ m, m ≤ 12 → tot 64 (fun v => if inP P v = true then wt m P v else 0) = 12 ^ pc P := by decide +kernel
/-- the sum of the object's side -/
def oX (w : Nat → Nat) (m P v : Nat) : Nat := if w v = 0 then 0 else (12 - m) ^ pc v * m ^ (pc P - pc v)
def oY (w : Nat → Nat) (m P v : Nat) : Nat := if inP P v = true then (if w (dif P v) = 0 then 0 else wt m P v) else 0
theorem odds_eq {w : Nat → Nat} {m P : Nat} (hP : P < 64) (hw : ∀ T, T < 64 → ¬ w T = 0 → inP P T = true) : tot 64 (oX w m P) = tot 64 (oY w m P) := by
  have hx : tot 64 (oX w m P) = tot (P + 1) (oX w m P) := by
    have := tot_tail (f := oX w m P) (m := P + 1) (k := 63 - P) (fun i h1 h2 => by
      unfold oX
      by_cases z : w i = 0
      · rw [if_pos z]
      · have := (inP_1 P hP i (by omega) (hw i (by omega) z)).1
        omega)
    rw [show P + 1 + (63 - P) = 64 by omega] at this
    exact this
  have hy : tot 64 (oY w m P) = tot (P + 1) (oY w m P) := by
    have := tot_tail (f := oY w m P) (m := P + 1) (k := 63 - P) (fun i h1 h2 => by
      unfold oY
      by_cases z : inP P i = true
      · have := (inP_1 P hP i (by omega) z).1
        omega
      · rw [if_neg z])
    rw [show P + 1 + (63 - P) = 64 by omega] at this
    exact this
  rw [hx, hy, tot_rev]
  refine tot_eq (fun v hv0 => ?_)
  have hv6 : v < 64 := by omega
  unfold oX oY
  by_cases z : inP P v = true
  · have h1 := inP_1 P hP v hv6 z
    have h2 := inP_2 P hP v hv6 z
    rw [if_pos z, h1.2.1]
    by_cases z2 : w (P - v) = 0
    · rw [if_pos z2, if_pos z2]
    · rw [if_neg z2, if_neg z2]
      unfold wt
      rw [h2.2, h2.1, Nat.mul_comm]
  · rw [if_neg z]
    by_cases z2 : w (P - v) = 0
    · rw [if_pos z2]
    · exact absurd (inP_3 P hP v hv6 (by omega) (hw _ (by omega) z2)) z
theorem wt_le {m P v : Nat} (hm : m ≤ 12) : wt m P v ≤ 12 ^ 12 := by
  unfold wt
  have h1 : m ^ pc v ≤ 12 ^ 6 := Nat.le_trans (Nat.pow_le_pow_left hm _) (Nat.pow_le_pow_right (by decide) (pc_le v))
  have h2 : (12 - m) ^ (pc P - pc v) ≤ 12 ^ 6 := Nat.le_trans (Nat.pow_le_pow_left (by omega) _) (Nat.pow_le_pow_right (by decide) (by have := pc_le P; omega))
  exact Nat.le_trans (Nat.mul_le_mul h1 h2) (by decide)
theorem oY_le {w : Nat → Nat} {m P : Nat} (hm : m ≤ 12) : tot 64 (oY w m P) < 2 ^ 62 := by
  have h := tot_le (f := oY w m P) (c := 12 ^ 12) (n := 64) (fun k _ => by
    unfold oY
    split
    · split
      · exact Nat.zero_le _
      · exact wt_le hm
    · exact Nat.zero_le _)
  have e : 64 * 12 ^ 12 < 2 ^ 62 := by decide
  omega
/-- the reference's product -/
def prW (m P v : Nat) : Nat → Nat
  | 0 => 1
  | i + 1 => prW m P v i * (if P.testBit i = true then (if v.testBit i = true then m else 12 - m) else 1)
def cIn (P v : Nat) : Nat → Nat
  | 0 => 0
  | i + 1 => cIn P v i + (if (P.testBit i && v.testBit i) = true then 1 else 0)
def cOut (P v : Nat) : Nat → Nat
  | 0 => 0
  | i + 1 => cOut P v i + (if (P.testBit i && !v.testBit i) = true then 1 else 0)
theorem prW_eq (m P v : Nat) : ∀ i, prW m P v i = m ^ cIn P v i * (12 - m) ^ cOut P v i
  | 0 => rfl
  | i + 1 => by
    rw [prW, cIn, cOut, prW_eq m P v i]
    cases a : P.testBit i <;> cases b : v.testBit i
    · simp
    · simp
    · simp [Nat.pow_succ, Nat.mul_assoc]
    · simp [Nat.pow_succ, Nat.mul_assoc, Nat.mul_comm, Nat.mul_left_comm]
theorem c6 : ∀ P, P < 64 → ∀ v, v < 64 → inP P v = true → cIn P v 6 = pc v ∧ cOut P v 6 = pc P - pc v := by decide +kernel
theorem prW_stop {m P v n : Nat} (hP : P < 2 ^ n) : ∀ j, prW m P v (n + j) = prW m P v n
  | 0 => rfl
  | j + 1 => by
    show prW m P v (n + j) * (if P.testBit (n + j) = true then (if v.testBit (n + j) = true then m else 12 - m) else 1) = _
    have : ¬ P.testBit (n + j) = true := fun z => by have := tb_lt hP z; omega
    rw [if_neg this, Nat.mul_one, prW_stop hP j]
theorem prW_wt {m P v n : Nat} (hn : n ≤ 6) (hP : P < 2 ^ n) (hv0 : v < 64) (h : inP P v = true) : prW m P v n = wt m P v := by
  have e := prW_stop (m := m) (v := v) hP (6 - n)
  have h6 := c6 P (l64 hn hP) v hv0 h
  rw [← e, show n + (6 - n) = 6 by omega, prW_eq, h6.1, h6.2]
  rfl
theorem ag_odds (a1 : Int32) (MX MY : SX) (hR : Rel MX MY) : Ag (p5_odds a1 MX) (p6_odds a1 MY) := by
  obtain ⟨n, d, σ, hn, hd, h0, hX, hY, hV, h7, h1⟩ := rel_here hR
  rw [p5_odds, p6_odds, show p6_in a1.toInt64 0 12 MY = _ from in_YI a1 0 12 MY, bd_s, it01]
  rcases arg3 a1 0 12 (by decide) (by decide) with ⟨g1, g2⟩ | ⟨g1, g2, g3⟩ | ⟨m, _, hm, rfl⟩
  · rw [if_pos (show a1 < 0 from g1), if_neg (show ¬ (0 ≤ a1 ∧ a1 ≤ 12) from g2)]
    exact ag_no hR _
  · rw [if_neg (show ¬ a1 < 0 from g1), if_neg (show ¬ (0 ≤ a1 ∧ a1 ≤ 12) from g3), if_neg (show ¬ a1 ≤ 12 from Int32.not_le.mpr g2)]
    exact ag_no hR _
  · rw [if_neg (show ¬ nI m < 0 from nI_pos (by omega)), if_pos (show nI m ≤ 12 from nI_le (b := 12) hm (by decide)), if_pos (show 0 ≤ nI m ∧ nI m ≤ 12 from ⟨nI_pos' (by omega), nI_le (b := 12) hm (by decide)⟩), hX.1, h0]
    by_cases hn0 : n = 0
    · subst hn0
      rw [if_pos nI_0, if_pos nI_0]
      exact ag_no hR _
    · have hz0 := nI_ne0 (n := n) (by omega) (by omega)
      have hG := og_of hn hd hV (w := 0) (by omega)
      have hP := hG.p64
      have hPn := hG.2.1
      have hf := goB_fwd n (pawnS n σ) (σ 3) (fun v => due σ v 0) (σ 1)
      obtain ⟨MX1, eX1, sX1, oX1⟩ := lookAt_X hX hn hV hd (w := 0) (by omega)
      obtain ⟨MX2, eX2, cX2, jX2, aX2⟩ := countFrom_X oX1 hG (a0 := 0) (Nat.zero_le _)
      have sX := sX1.trans (sameX58 cX2 jX2)
      have aX2' : ∀ T, T < 64 → MX2.1 58 T = nI (wayN n (pawnS n σ) (σ 3) (fun v => due σ v 0) (σ 1) T) := aX2
      have hle := fun T (hT : T < 64) => way_le hG hT
      have hsup : ∀ T, T < 64 → ¬ wayN n (pawnS n σ) (σ 3) (fun v => due σ v 0) (σ 1) T = 0 → inP (pawnS n σ) T = true := fun T hT z => sub_inP (pushS_sup hf n 0 (dlt 0) (dlt_sup (fun v z => by rw [Nat.zero_testBit] at z; exact absurd z (by decide))) _ T z)
      have hleft : ∀ v, inP (pawnS n σ) v = true → v < 64 → OG n (dif (pawnS n σ) v) (σ 3) (fun u => if (dif (pawnS n σ) v).testBit u = true then due σ u 0 else 0) (σ 1) ∧ wayN n (dif (pawnS n σ) v) (σ 3) (fun u => if (dif (pawnS n σ) v).testBit u = true then due σ u 0 else 0) (σ 1) (dif (pawnS n σ) v) = wayN n (pawnS n σ) (σ 3) (fun v => due σ v 0) (σ 1) (dif (pawnS n σ) v) := by
        intro v hv1 hv2
        have hG' : OG n (dif (pawnS n σ) v) (σ 3) (fun u => if (dif (pawnS n σ) v).testBit u = true then due σ u 0 else 0) (σ 1) := by
          refine ⟨hn, Nat.lt_of_le_of_lt Nat.and_le_left hPn, fun u hu => ⟨(hG.2.2 u hu).1, ?_, (hG.2.2 u hu).2.2⟩⟩
          have := (hG.2.2 u hu).2.1
          show (if (dif (pawnS n σ) v).testBit u = true then due σ u 0 else 0) ≤ 1000
          split
          · exact this
          · omega
        refine ⟨hG', way_left hG hG' (fun u hu => ?_) (fun i hi => if_pos hi)⟩
        rw [dif_tb hP hv2, Bool.and_eq_true] at hu
        exact hu.1
      rw [if_neg hz0, if_neg hz0, show p2_lookAt 17 0 MX = some MX1 from eX1, bv_s, show p2_countFrom 0 MX1 = some MX2 from eX2, bv_s, pawnedSet_X (hX.same sX) hn hV, bd_s, bits_X hP, bd_s, pawned_Y h0 hY hn hV, bd_s]
      have e12 : (12 : Int32) - nI m = nI (12 - m) := pk_sub (a := 12) hm
      generalize hw : wayN n (pawnS n σ) (σ 3) (fun v => due σ v 0) (σ 1) = w at aX2' hle hsup hleft
      generalize hPP : pawnS n σ = P at hP hPn hsup hleft
      have hR2 := rel_same hR sX (SameY.refl MY)
      have hu := oY_le (w := w) (P := P) hm
      have hpw : 12 ^ pc P ≤ 12 ^ 6 := Nat.pow_le_pow_right (by decide) (pc_le P)
      have hp0 : 0 < 12 ^ pc P := Nat.pow_pos (by decide)
      have hpl : 12 ^ pc P < 2 ^ 40 := Nat.lt_of_le_of_lt hpw (by decide)
      -- the reference
      have eY : ∃ M' : SX, xlp5 p6_odds_37 FU (nI m) (nI P) 0 0 0 MY = bd (p6_tellParts (lN (tot 64 (oY w m P))) (lN (12 ^ pc P)) M') (fun r4 M3 => some (r4, M3)) ∧ SameY MY M' := by
        rw [← wt_all P hP m hm]
        refine lp5_inv (fun _ => nI m) (fun _ => nI P) (fun v => lN (tot v (oY w m P))) (fun v => lN (tot v (fun v => if inP P v = true then wt m P v else 0))) (fun v => nI v) (fun v N => SameY MY N) 64 (by omega) (fun x => ∃ M' : SX, x = bd (p6_tellParts (lN (tot 64 (oY w m P))) (lN (tot 64 (fun v => if inP P v = true then wt m P v else 0))) M') (fun r4 M3 => some (r4, M3)) ∧ SameY MY M') ?_ ?_ MY (SameY.refl _)
        · intro v hv0 N hS rc
          have e0 : N.1 0 1 = nI n := by rw [hS.2.1 1 (by omega)]; exact h0
          have t1 : tot (v + 1) (oY w m P) = tot v (oY w m P) + oY w m P v := rfl
          have t2 : tot (v + 1) (fun v => if inP P v = true then wt m P v else 0) = tot v (fun v => if inP P v = true then wt m P v else 0) + (if inP P v = true then wt m P v else 0) := rfl
          have h4 := inP_4 P hP v hv0
          have hdl : dif v P < 64 := dif_lt hv0
          rw [p6_odds_37, if_neg (show ¬ (64 : Int32) ≤ nI v from nI_ge (b := 64) hv0 (by omega)), dif_I v hv0 P hP]
          by_cases z : inP P v = true
          · rw [if_pos (by rw [h4.mpr z]; rfl)]
            have hgw := hleft v z hv0
            -- the product, then the trial
            refine lp7_inv (fun _ => nI m) (fun _ => nI P) (fun _ => lN (tot v (oY w m P))) (fun _ => lN (tot v (fun v => if inP P v = true then wt m P v else 0))) (fun _ => nI v) (fun i => lN (prW m P v i)) (fun i => nI i) (fun i N' => N' = N) n (by omega) (fun x => ∃ M' : SX, x = rc (nI m) (nI P) (lN (tot (v + 1) (oY w m P))) (lN (tot (v + 1) (fun v => if inP P v = true then wt m P v else 0))) (nI (v + 1)) M' ∧ SameY MY M') ?_ ?_ N rfl
            · rintro i hi N' rfl rc2
              refine ⟨N', ?_, rfl⟩
              rw [p6_odds_59, e0, if_neg (nI_ge hi (by omega)), has_Y (by omega) (by omega), bd_s, it01, prW]
              by_cases a : P.testBit i = true
              · rw [if_pos a, if_pos a, has_Y (by omega) (by omega), bd_s, it01]
                by_cases b : v.testBit i = true
                · rw [if_pos b, if_pos b, p6_odds_103, lt_v, lt_v, nI_l (by omega), lN_mul, nI_1]
                · rw [if_neg b, if_neg b, p6_odds_103, lt_v, lt_v, e12, nI_l (by omega), lN_mul, nI_1]
              · rw [if_neg a, if_neg a, p6_odds_103, lt_v, lt_v, Int64.mul_one, nI_1, Nat.mul_one]
            · rintro N' rfl rc2
              rw [← hPP] at hgw
              obtain ⟨N1, f1, s1, o1⟩ := layTried_Y e0 (hY.same hS) hn hV hd (w := 0) (ex := v) (by omega) hv0
              obtain ⟨N2, f2, c2, j2⟩ := canAll_Y o1 hgw.1
              refine ⟨N2, ?_, (hS.trans s1).trans (sameY13 c2 j2)⟩
              rw [p6_odds_59, e0, if_pos (Int32.le_refl _), show p6_layTried 0 (nI v) N' = some N1 from f1, bv_s, f2, bd_s, hgw.2, prW_wt hn hPn hv0 z, t1, t2, if_pos z]
              rw [hPP]
              unfold oY
              rw [if_pos z]
              by_cases zz : w (dif P v) = 0
              · rw [if_pos zz, if_pos rfl, p6_odds_133, lt_v, lt_v, p6_odds_142, lt_v, nI_1, show (0 : Int64) = lN 0 from rfl, lN_add, lN_add, if_pos zz]
              · rw [if_neg zz, if_neg i10, p6_odds_133, lt_v, lt_v, p6_odds_142, lt_v, nI_1, lN_add, lN_add, if_neg zz]
          · have hdn : ¬ nI (dif v P) = 0 := fun y => z (h4.mp ((nI_eq (b := 0) (by omega) (by decide)).mp y))
            refine ⟨N, ?_, hS⟩
            rw [if_neg hdn, p6_odds_142, lt_v, nI_1, t1, t2, if_neg z]
            unfold oY
            rw [if_neg z]
            rfl
        · intro N hS rc
          rw [p6_odds_37, if_pos (by decide)]
          exact ⟨N, rfl, hS⟩
      obtain ⟨MY', eY', sY⟩ := eY
      have hR3 := rel_same hR sX sY
      obtain ⟨MX4, MY4, k1, k2, hR4⟩ := tell_ag hR3 hu hp0 hpl
      have eX : xlp4 p5_odds_61 FU (nI m) (nI (pc P)) 0 0 MX2 = some (1, MX4) := by
        have hpc := pc_le P
        have k1' := k1
        rw [← odds_eq hP hsup] at k1'
        refine lp4_go (fun _ => nI m) (fun _ => nI (pc P)) (fun v => lN (tot v (oX w m P))) (fun v => nI v) (fun _ => MX2) 64 (by omega) _ (fun v hv0 rc => ?_) (fun rc => ?_)
        · have t1 : tot (v + 1) (oX w m P) = tot v (oX w m P) + oX w m P v := rfl
          have hl := hle v hv0
          rw [p5_odds_61, if_neg (show ¬ (64 : Int32) ≤ nI v from nI_ge (b := 64) hv0 (by omega)), p2_countOf, gd_of (bIn_nI hv0 (by decide)), nI_clamp (by omega), aX2' v hv0, bd_s, t1]
          unfold oX
          by_cases z : w v = 0
          · rw [if_pos (by rw [z]; decide), p5_odds_108, lt_v, nI_1, if_pos z]
            rfl
          · have hpv := (inP_2 P hP v hv0 (hsup v hv0 z))
            have hpl2 := pc_le v
            have hle2 : pc v ≤ pc P := by
              have h1' := (inP_1 P hP v hv0 (hsup v hv0 z))
              have e1 := hpv.1
              have e2 := hpv.2
              omega
            rw [if_neg (nI_nle (by omega) (by omega)), bits_X hv0, bd_s, e12, power_X (by omega) (by omega), bd_s, pk_sub hle2, power_X (by omega) (by omega), bd_s, lt_v, lN_mul, lN_add, p5_odds_108, lt_v, nI_1, if_neg z]
        · rw [p5_odds_61, if_pos (by decide), show p5_power 12 (nI (pc P)) MX2 = _ from power_X (b := 12) (by decide) (by omega) MX2, bd_s, k1', bv_s]
      rw [eX, eY', k2, bd_s]
      exact ⟨_, _, _, rfl, rfl, hR4⟩
