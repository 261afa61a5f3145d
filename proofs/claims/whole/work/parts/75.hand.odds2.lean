/-! of those left only -/
theorem cashZ_cong {n : Nat} {H D D' C : Nat → Nat} {S v : Nat} (h : ∀ i, S.testBit i = true → D' i = D i) : cashZ n H D' C S v = cashZ n H D C S v := by
  unfold cashZ
  have e : tot n (fun i => if H i = v + 1 ∧ S.testBit i = true then D' i else 0) = tot n (fun i => if H i = v + 1 ∧ S.testBit i = true then D i else 0) := tot_eq (fun k _ => by
    by_cases c : H k = v + 1 ∧ S.testBit k = true
    · rw [if_pos c, if_pos c, h k c.2]
    · rw [if_neg c, if_neg c])
  rw [e]
  by_cases c : S.testBit v = true
  · rw [if_pos c, if_pos c, h v c]
  · rw [if_neg c, if_neg c]
theorem go_left {n P Q : Nat} {H D D' C : Nat → Nat} (hQ : sub Q P) (hD : ∀ i, Q.testBit i = true → D' i = D i) {S v : Nat} (hS : sub S Q) (hv0 : Q.testBit v = true) : goB n Q H D' C S v = goB n P H D C S v := by
  unfold goB
  rw [hv0, hQ v hv0, cashZ_cong (fun i hi => hD i (hS i hi)), hD v hv0]
theorem sub_or2 {S v Q : Nat} (h : sub (S ||| 2 ^ v) Q) : sub S Q ∧ Q.testBit v = true := ⟨sub_trans sub_or h, h v (by rw [Nat.testBit_or, tb_self, Bool.or_true])⟩
theorem pushV_left {n P Q : Nat} {H D D' C : Nat → Nat} (hQ : sub Q P) (hD : ∀ i, Q.testBit i = true → D' i = D i) {a a' : Nat → Nat} (h : ∀ T, sub T Q → a' T = a T) (S : Nat) : ∀ v T, sub T Q → pushV (goB n Q H D' C) S a' v T = pushV (goB n P H D C) S a v T
  | 0, T, hT => h T hT
  | v + 1, T, hT => by
    rw [pushV, pushV]
    by_cases e : T = S ||| 2 ^ v
    · have hs := sub_or2 (e ▸ hT)
      rw [go_left hQ hD hs.1 hs.2]
      split
      · rw [e, updN_s, updN_s, pushV_left hQ hD h S v _ (e ▸ hT), h S hs.1]
      · exact pushV_left hQ hD h S v T hT
    · have r1 : (if goB n Q H D' C S v = true then updN (pushV (goB n Q H D' C) S a' v) (S ||| 2 ^ v) (pushV (goB n Q H D' C) S a' v (S ||| 2 ^ v) + a' S) else pushV (goB n Q H D' C) S a' v) T = pushV (goB n Q H D' C) S a' v T := by
        split
        · exact updN_n _ e
        · rfl
      have r2 : (if goB n P H D C S v = true then updN (pushV (goB n P H D C) S a v) (S ||| 2 ^ v) (pushV (goB n P H D C) S a v (S ||| 2 ^ v) + a S) else pushV (goB n P H D C) S a v) T = pushV (goB n P H D C) S a v T := by
        split
        · exact updN_n _ e
        · rfl
      rw [r1, r2]
      exact pushV_left hQ hD h S v T hT
theorem pushS_left {n P Q : Nat} {H D D' C : Nat → Nat} (hQ : sub Q P) (hD : ∀ i, Q.testBit i = true → D' i = D i) : ∀ k T, sub T Q → pushS (goB n Q H D' C) n 0 (dlt 0) k T = pushS (goB n P H D C) n 0 (dlt 0) k T
  | 0, T, _ => rfl
  | k + 1, T, hT => pushV_left hQ hD (fun T hT => pushS_left hQ hD k T hT) (0 + k) n T hT
theorem way_left {n P Q : Nat} {H D D' C : Nat → Nat} (hG : OG n P H D C) (hG' : OG n Q H D' C) (hQ : sub Q P) (hD : ∀ i, Q.testBit i = true → D' i = D i) : wayN n Q H D' C Q = wayN n P H D C Q := by
  rw [← way_64 hG', ← way_64 hG]
  exact pushS_left hQ hD 64 Q (sub_refl Q)
/-! sums over sets -/
theorem tot_shift {f : Nat → Nat} : ∀ n, tot (n + 1) f = f 0 + tot n (fun k => f (k + 1))
  | 0 => by show 0 + f 0 = f 0 + 0; omega
  | n + 1 => by
    show tot (n + 1) f + f (n + 1) = f 0 + (tot n (fun k => f (k + 1)) + f (n + 1))
    rw [tot_shift n]
    omega
theorem tot_rev {f : Nat → Nat} : ∀ n, tot (n + 1) f = tot (n + 1) (fun k => f (n - k))
  | 0 => rfl
  | n + 1 => by
    rw [tot_shift (f := fun k => f (n + 1 - k)) (n + 1)]
    show tot (n + 1) f + f (n + 1) = f (n + 1 - 0) + tot (n + 1) (fun k => f (n + 1 - (k + 1)))
    rw [tot_rev n, Nat.sub_zero, Nat.add_comm]
    refine congrArg (fun z => f (n + 1) + z) (tot_eq (fun k hk => ?_))
    show f (n - k) = f (n + 1 - (k + 1))
    rw [show n + 1 - (k + 1) = n - k by omega]
def inP (P v : Nat) : Bool := v &&& P == v
theorem inP_f : ∀ P, P < 64 → ∀ v, v < 64 → (inP P v = true → v ≤ P ∧ dif P v = P - v ∧ inP P (P - v) = true ∧ pc (P - v) = pc P - pc v ∧ pc P - pc (P - v) = pc v) ∧ (v ≤ P → inP P (P - v) = true → inP P v = true) ∧ (dif v P = 0 ↔ inP P v = true) := by decide +kernel
theorem inP_sub {P v : Nat} (h : inP P v = true) : sub v P := sub_of_and (by unfold inP at h; exact eq_of_beq h)
theorem sub_inP {P v : Nat} (h : sub v P) : inP P v = true := by
  unfold inP
  refine beq_iff_eq.mpr (Nat.eq_of_testBit_eq (fun i => ?_))
  rw [Nat.testBit_and]
  cases e : v.testBit i
  · rfl
  · rw [h i e]; rfl
/-- how it weighs that just these are eaten -/
def wt (m P v : Nat) : Nat := m ^ pc v * (12 - m) ^ (pc P - pc v)
theorem wt_all : ∀ P, P < 64 → ∀ m, m ≤ 12 → tot 64 (fun v => if inP P v = true then wt m P v else 0) = 12 ^ pc P := by decide +kernel
