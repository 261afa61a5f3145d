/-! the least to be lent -/
section Ls
variable {n P : Nat} {H D C : Nat → Nat}
def lack (n : Nat) (H D C : Nat → Nat) (S u : Nat) : Int := (D u : Int) - cashZ n H D C S u
def okU (n P : Nat) (H D C : Nat → Nat) (v S u : Nat) : Bool := (P.testBit u && !S.testBit u) && (decide (u = v) || decide (lack n H D C S u ≤ 0))
def mxN (a b : Nat) : Nat := if a < b then b else a
def miN (a b : Nat) : Nat := if b < a then b else a
def spV (n P : Nat) (H D C : Nat → Nat) (v S : Nat) (a : Nat → Nat) : Nat → Nat → Nat
  | 0 => a
  | u + 1 => if okU n P H D C v S u = true then updN (spV n P H D C v S a u) (S ||| 2 ^ u) (miN (spV n P H D C v S a u (S ||| 2 ^ u)) (mxN (a S) (lack n H D C S u).toNat)) else spV n P H D C v S a u
def nd0 : Nat → Nat := fun T => if T = 0 then 0 else 1000000
def spS (n P : Nat) (H D C : Nat → Nat) (v : Nat) : Nat → Nat → Nat
  | 0 => nd0
  | k + 1 => if 1000000 ≤ spS n P H D C v k k then spS n P H D C v k else spV n P H D C v k (spS n P H D C v k) n
theorem spV_le (v S : Nat) (a : Nat → Nat) {T : Nat} (hT : T ≤ S) : ∀ u, spV n P H D C v S a u T = a T
  | 0 => rfl
  | u + 1 => by
    rw [spV]
    split
    · rename_i h
      unfold okU at h
      rw [Bool.and_eq_true, Bool.and_eq_true, Bool.not_eq_true'] at h
      have := or_gt h.1.2
      rw [updN_n _ (by omega)]
      exact spV_le v S a hT u
    · exact spV_le v S a hT u
theorem spV_cap (v S : Nat) (a : Nat → Nat) (h : ∀ T, a T ≤ 1000000) : ∀ u T, spV n P H D C v S a u T ≤ 1000000
  | 0, T => h T
  | u + 1, T => by
    rw [spV]
    split
    · by_cases e : T = S ||| 2 ^ u
      · rw [e, updN_s]
        have := spV_cap v S a h u (S ||| 2 ^ u)
        unfold miN
        split <;> omega
      · rw [updN_n _ e]
        exact spV_cap v S a h u T
    · exact spV_cap v S a h u T
theorem spS_cap (v : Nat) : ∀ k T, spS n P H D C v k T ≤ 1000000
  | 0, T => by
    show nd0 T ≤ 1000000
    unfold nd0
    split <;> omega
  | k + 1, T => by
    rw [spS]
    split
    · exact spS_cap v k T
    · exact spV_cap v k _ (spS_cap v k) n T
/-- with so much lent to v -/
def lent (C : Nat → Nat) (v L : Nat) : Nat → Nat := updN C v (C v + L)
theorem cash_lent (v L S u : Nat) : cashZ n H D (lent C v L) S u = cashZ n H D C S u + (if u = v then (L : Int) else 0) := by
  unfold cashZ lent
  by_cases e : u = v
  · subst e
    rw [updN_s, if_pos rfl]
    omega
  · rw [updN_n _ e, if_neg e]
    omega
theorem go_lent (v L S u : Nat) : goB n P H D (lent C v L) S u = true ↔ (P.testBit u && !S.testBit u) = true ∧ lack n H D C S u ≤ (if u = v then (L : Int) else 0) := by
  unfold goB lack
  rw [cash_lent, Bool.and_eq_true, decide_eq_true_iff]
  constructor
  · rintro ⟨a, b⟩
    exact ⟨a, by omega⟩
  · rintro ⟨a, b⟩
    exact ⟨a, by omega⟩
theorem min_le (a b L : Nat) : miN a b ≤ L ↔ (a ≤ L ∨ b ≤ L) := by
  unfold miN
  split <;> omega
theorem max_le (a b L : Nat) : mxN a b ≤ L ↔ (a ≤ L ∧ b ≤ L) := by
  unfold mxN
  split <;> omega
/-- both reach the same sets -/
theorem sp_V {v L S : Nat} {a b : Nat → Nat} (h : ∀ T, a T ≤ L ↔ ¬ b T = 0) : ∀ u T, spV n P H D C v S a u T ≤ L ↔ ¬ pushV (goB n P H D (lent C v L)) S b u T = 0
  | 0, T => h T
  | u + 1, T => by
    have ih : ∀ T, spV n P H D C v S a u T ≤ L ↔ ¬ pushV (goB n P H D (lent C v L)) S b u T = 0 := fun T => sp_V h u T
    rw [spV, pushV]
    by_cases e : T = S ||| 2 ^ u
    · rw [e]
      have ihT := ih (S ||| 2 ^ u)
      have hSS := h S
      by_cases ok : okU n P H D C v S u = true
      · rw [if_pos ok, updN_s, min_le, max_le]
        unfold okU at ok
        rw [Bool.and_eq_true, Bool.or_eq_true, decide_eq_true_iff, decide_eq_true_iff] at ok
        by_cases g : goB n P H D (lent C v L) S u = true
        · have hl := (go_lent v L S u).mp g
          rw [if_pos g, updN_s]
          have : (lack n H D C S u).toNat ≤ L := by
            have h2 := hl.2
            split at h2 <;> omega
          omega
        · rw [if_neg g]
          have hl : ¬ lack n H D C S u ≤ (if u = v then (L : Int) else 0) := fun z => g ((go_lent v L S u).mpr ⟨ok.1, z⟩)
          have : ¬ (lack n H D C S u).toNat ≤ L := by
            by_cases e2 : u = v
            · rw [if_pos e2] at hl
              omega
            · rw [if_neg e2] at hl
              rcases ok.2 with q | q
              · exact absurd q e2
              · exact absurd q hl
          omega
      · rw [if_neg ok]
        have g : ¬ goB n P H D (lent C v L) S u = true := fun z => by
          have hl := (go_lent v L S u).mp z
          refine ok ?_
          unfold okU
          rw [Bool.and_eq_true, Bool.or_eq_true, decide_eq_true_iff, decide_eq_true_iff]
          refine ⟨hl.1, ?_⟩
          by_cases e2 : u = v
          · exact Or.inl e2
          · have := hl.2
            rw [if_neg e2] at this
            exact Or.inr this
        rw [if_neg g]
        exact ihT
    · have r1 : (if okU n P H D C v S u = true then updN (spV n P H D C v S a u) (S ||| 2 ^ u) (miN (spV n P H D C v S a u (S ||| 2 ^ u)) (mxN (a S) (lack n H D C S u).toNat)) else spV n P H D C v S a u) T = spV n P H D C v S a u T := by
        split
        · exact updN_n _ e
        · rfl
      have r2 : (if goB n P H D (lent C v L) S u = true then updN (pushV (goB n P H D (lent C v L)) S b u) (S ||| 2 ^ u) (pushV (goB n P H D (lent C v L)) S b u (S ||| 2 ^ u) + b S) else pushV (goB n P H D (lent C v L)) S b u) T = pushV (goB n P H D (lent C v L)) S b u T := by
        split
        · exact updN_n _ e
        · rfl
      rw [r1, r2]
      exact ih T
theorem sp_S {v L : Nat} (hL : L < 1000000) : ∀ k T, spS n P H D C v k T ≤ L ↔ ¬ pushS (goB n P H D (lent C v L)) n 0 (dlt 0) k T = 0
  | 0, T => by
    show nd0 T ≤ L ↔ ¬ dlt 0 T = 0
    unfold nd0 dlt
    by_cases e : T = 0
    · rw [if_pos e, if_pos e]
      omega
    · rw [if_neg e, if_neg e]
      omega
  | k + 1, T => by
    have ih : ∀ T, spS n P H D C v k T ≤ L ↔ ¬ pushS (goB n P H D (lent C v L)) n 0 (dlt 0) k T = 0 := fun T => sp_S hL k T
    rw [spS]
    show _ ↔ ¬ pushV (goB n P H D (lent C v L)) (0 + k) (pushS (goB n P H D (lent C v L)) n 0 (dlt 0) k) n T = 0
    rw [Nat.zero_add]
    split
    · rename_i h
      have hz : pushS (goB n P H D (lent C v L)) n 0 (dlt 0) k k = 0 := Classical.byContradiction (fun z => by
        have := (ih k).mpr z
        omega)
      rw [pushV_zero _ _ hz]
      exact ih T
    · exact sp_V ih n T
def need (n P : Nat) (H D C : Nat → Nat) (v : Nat) : Nat := spS n P H D C v P P
theorem need_iff {v L : Nat} (hL : L < 1000000) : need n P H D C v ≤ L ↔ ¬ wayN n P H D (lent C v L) P = 0 := by
  unfold need wayN
  rw [sp_S hL]
  show _ ↔ ¬ pushV (goB n P H D (lent C v L)) (0 + P) (pushS (goB n P H D (lent C v L)) n 0 (dlt 0) P) n P = 0
  rw [pushV_le (goB_fwd n P H D (lent C v L)) _ _ (by omega)]
theorem jmxN {a : Nat} {z : Int} (ha : a ≤ 1000000) (h1 : -100000 ≤ z) (h2 : z ≤ 100000) : jmax (nI a) (Int32.ofInt z) = nI (mxN a z.toNat) := by
  unfold jmax mxN
  rw [← ofI a]
  by_cases c : a < z.toNat
  · rw [if_pos ((ofI_lt (by omega) (by omega) (by omega) (by omega)).mpr (by omega)), if_pos c, ← ofI, show ((z.toNat : Nat) : Int) = z by omega]
  · rw [if_neg (fun y => c (by have := (ofI_lt (by omega) (by omega) (by omega) (by omega)).mp y; omega)), if_neg c, ofI]
theorem needOf_X {M : SX} (hO : OX M n P H D C) (hG : OG n P H D C) {v : Nat} (hv0 : v < n) : ∃ M' : SX, p2_needOf (nI v) M = some (if 1000000 ≤ need n P H D C v then -9 else nI (need n P H D C v), M') ∧ (∀ c, c ≠ 58 → M'.1 c = M.1 c) ∧ M'.2 = M.2 := by
  have hn := hG.1
  have hP := hG.p64
  obtain ⟨M1, e1, f1, f2, f3⟩ := fill_X (v := 1000000) M
  rw [p2_needOf, show pj_fill 64 58 1000000 M = some M1 from e1, bv_s, gd_of (by decide), z0, lt_v]
  refine lp2_inv (fun _ => nI v) (fun k => nI k) (fun k N => (∀ c, c ≠ 58 → N.1 c = M.1 c) ∧ N.2 = M.2 ∧ ∀ T, T < 64 → N.1 58 T = nI (spS n P H D C v k T)) P (by omega) (fun x => ∃ M' : SX, x = some (if 1000000 ≤ need n P H D C v then -9 else nI (need n P H D C v), M') ∧ (∀ c, c ≠ 58 → M'.1 c = M.1 c) ∧ M'.2 = M.2) ?_ ?_ _ ⟨fun c hc => by rw [wI_nk hc]; exact f1 c hc, f2, fun T hT => ?_⟩
  · rintro S hSP N ⟨u1, u2, u3⟩ rc
    have hS : S < 64 := by omega
    have hOi := hO.c58 u1
    have hcap := spS_cap (n := n) (P := P) (H := H) (D := D) (C := C) v S
    rw [p2_needOf_18, hOi.2.1, if_neg (nI_ge hSP (by omega)), gd_of (bIn_nI hS (by decide)), nI_clamp (by omega), u3 S hS]
    have hcS := hcap S
    by_cases c : 1000000 ≤ spS n P H D C v S S
    · refine ⟨N, ?_, u1, u2, fun T hT => ?_⟩
      · rw [if_pos (show (1000000 : Int32) ≤ nI (spS n P H D C v S S) from nI_le (a := 1000000) c (by omega)), p2_needOf_43, lt_v, nI_1]
      · rw [spS, if_pos c]; exact u3 T hT
    · rw [if_neg (show ¬ (1000000 : Int32) ≤ nI (spS n P H D C v S S) from nI_ge (b := 1000000) (by omega) (by omega))]
      have sp : ∃ M' : SX, p2_spreadNeed (nI S) (nI v) N = some M' ∧ (∀ c, c ≠ 58 → M'.1 c = M.1 c) ∧ M'.2 = M.2 ∧ ∀ T, T < 64 → M'.1 58 T = nI (spV n P H D C v S (spS n P H D C v S) n T) := by
        generalize spS n P H D C v S = arr at u3 hcap hcS
        rw [p2_spreadNeed]
        refine lp3_inv (fun _ => nI S) (fun _ => nI v) (fun u => nI u) (fun u N => (∀ c, c ≠ 58 → N.1 c = M.1 c) ∧ N.2 = M.2 ∧ ∀ T, T < 64 → N.1 58 T = nI (spV n P H D C v S arr u T)) n (by omega) (fun x => ∃ M' : SX, x = some M' ∧ (∀ c, c ≠ 58 → M'.1 c = M.1 c) ∧ M'.2 = M.2 ∧ ∀ T, T < 64 → M'.1 58 T = nI (spV n P H D C v S arr n T)) ?_ ?_ N ⟨u1, u2, u3⟩
        · rintro u hu N ⟨w1, w2, w3⟩ rc2
          have hOi := hO.c58 w1
          have hcb := cashZ_b (S := S) hG hu
          have hDu := (hG.2.2 u hu).2.1
          have hor := or_64 hS (show u < 6 by omega)
          have hSS : N.1 58 S = nI (arr S) := by rw [w3 S hS, spV_le v S arr (Nat.le_refl S)]
          have hlk : nI (D u) - Int32.ofInt (cashZ n H D C S u) = Int32.ofInt (lack n H D C S u) := by
            unfold lack
            rw [← ofI, ← Int32.ofInt_sub]
          have hlb : -100000 ≤ lack n H D C S u ∧ lack n H D C S u ≤ 100000 := by unfold lack; omega
          have hcapT := spV_cap (n := n) (P := P) (H := H) (D := D) (C := C) v S arr hcap u (S ||| 2 ^ u)
          have hmx : mxN (arr S) (lack n H D C S u).toNat < 2 ^ 31 := by
            unfold mxN
            split <;> omega
          have yes : okU n P H D C v S u = true → ∃ M' : SX, p2_spreadNeed_44 rc2 (nI S) (nI v) (nI u) (Int32.ofInt (lack n H D C S u)) N = rc2 (nI S) (nI v) (nI (u + 1)) M' ∧ (∀ c, c ≠ 58 → M'.1 c = M.1 c) ∧ M'.2 = M.2 ∧ ∀ T, T < 64 → M'.1 58 T = nI (spV n P H D C v S arr (u + 1) T) := by
            intro ok
            refine ⟨wI N 58 (S ||| 2 ^ u) (nI (miN (spV n P H D C v S arr u (S ||| 2 ^ u)) (mxN (arr S) (lack n H D C S u).toNat))), ?_, fun c hc => by rw [wI_nk hc]; exact w1 c hc, w2, fun T hT => ?_⟩
            · rw [p2_spreadNeed_44, lt_v, shl1 u (by omega), or_nI, gd_of (bIn_nI hor (by decide)), gd_of (bIn_nI hS (by decide)), nI_clamp (by omega), nI_clamp (by omega), hSS, w3 _ hor, jmxN hcS hlb.1 hlb.2, jminN (by omega) hmx, lt_v, p2_spreadNeed_79, lt_v, nI_1]
              rfl
            · rw [wI_k, spV, if_pos ok]
              by_cases e : T = S ||| 2 ^ u
              · rw [if_pos e, e, updN_s]
              · rw [if_neg e, updN_n _ e]; exact w3 T hT
          have no : ¬ okU n P H D C v S u = true → ∃ M' : SX, p2_spreadNeed_79 rc2 (nI S) (nI v) (nI u) N = rc2 (nI S) (nI v) (nI (u + 1)) M' ∧ (∀ c, c ≠ 58 → M'.1 c = M.1 c) ∧ M'.2 = M.2 ∧ ∀ T, T < 64 → M'.1 58 T = nI (spV n P H D C v S arr (u + 1) T) := by
            intro ok
            refine ⟨N, by rw [p2_spreadNeed_79, lt_v, nI_1], w1, w2, fun T hT => ?_⟩
            rw [spV, if_neg ok]; exact w3 T hT
          rw [p2_spreadNeed_2, hOi.1, if_neg (nI_ge hu (by omega)), gd_of (bIn_nI (by omega) (by decide)), cashAfter_X hOi hG hS hu, bd_s, nI_clamp (by omega), (hOi.2.2 u hu).2.2, hlk, lt_v, isLeft_X hOi hG hS (by omega), bd_s, it01]
          have eok : okU n P H D C v S u = ((P.testBit u && !S.testBit u) && (decide (u = v) || decide (lack n H D C S u ≤ 0))) := rfl
          by_cases l : (P.testBit u && !S.testBit u) = true
          · rw [if_pos l]
            by_cases e : u = v
            · rw [if_pos (by rw [e])]
              exact yes (by rw [eok, l, decide_eq_true e]; rfl)
            · rw [if_neg (fun z => e ((nI_eq (by omega) (by omega)).mp z))]
              by_cases q : lack n H D C S u ≤ 0
              · rw [if_neg (show ¬ (0 : Int32) < Int32.ofInt (lack n H D C S u) from fun z => by
                  have := (ofI_lt (a := 0) (by omega) (by omega) (by omega) (by omega)).mp z
                  omega)]
                exact yes (by rw [eok, l, decide_eq_true q, Bool.or_true]; rfl)
              · rw [if_pos (show (0 : Int32) < Int32.ofInt (lack n H D C S u) from (ofI_lt (a := 0) (by omega) (by omega) (by omega) (by omega)).mpr (by omega))]
                exact no (by rw [eok, l, decide_eq_false e, decide_eq_false q]; decide)
          · rw [if_neg l]
            exact no (fun z => l (by rw [eok, Bool.and_eq_true] at z; exact z.1))
        · rintro N ⟨w1, w2, w3⟩ rc2
          have hOi := hO.c58 w1
          rw [p2_spreadNeed_2, hOi.1, if_pos (Int32.le_refl _)]
          exact ⟨N, rfl, w1, w2, w3⟩
      obtain ⟨N', s1, s2, s3, s4⟩ := sp
      refine ⟨N', ?_, s2, s3, fun T hT => ?_⟩
      · rw [s1, bv_s, p2_needOf_43, lt_v, nI_1]
      · rw [spS, if_neg c]; exact s4 T hT
  · rintro N ⟨u1, u2, u3⟩ rc
    have hOi := hO.c58 u1
    have hcap := spS_cap (n := n) (P := P) (H := H) (D := D) (C := C) v P P
    refine ⟨N, ?_, u1, u2⟩
    rw [p2_needOf_18, hOi.2.1, if_pos (Int32.le_refl _), gd_of (bIn_nI hP (by decide)), nI_clamp (by omega), u3 P hP]
    unfold need
    by_cases c : 1000000 ≤ spS n P H D C v P P
    · rw [if_pos (show (1000000 : Int32) ≤ nI (spS n P H D C v P P) from nI_le (a := 1000000) c (by omega)), if_pos c]
    · rw [if_neg (show ¬ (1000000 : Int32) ≤ nI (spS n P H D C v P P) from nI_ge (b := 1000000) (by omega) (by omega)), if_neg c]
  · rw [wI_k]
    show _ = nI (nd0 T)
    unfold nd0
    by_cases e : T = 0
    · rw [if_pos e, if_pos e]; rfl
    · rw [if_neg e, if_neg e]; exact f3 T hT
end Ls
/-- the best so far, and whose -/
def lb (nd : Nat → Nat) : Nat → Nat × Int32
  | 0 => (100, -9)
  | i + 1 => if nd i < (lb nd i).1 then (nd i, nI i) else lb nd i
theorem lb_f (nd : Nat → Nat) : ∀ i, ((lb nd i).1 = 100 ∧ (lb nd i).2 = -9 ∧ ∀ j, j < i → 100 ≤ nd j) ∨ ∃ w, w < i ∧ (lb nd i).2 = nI w ∧ (lb nd i).1 = nd w ∧ nd w < 100 ∧ (∀ j, j < i → nd w ≤ nd j) ∧ ∀ j, j < w → nd w < nd j
  | 0 => Or.inl ⟨rfl, rfl, fun j hj => absurd hj (Nat.not_lt_zero j)⟩
  | i + 1 => by
    rw [lb]
    rcases lb_f nd i with ⟨a1, a2, a3⟩ | ⟨w, b1, b2, b3, b4, b5, b6⟩
    · by_cases c : nd i < (lb nd i).1
      · rw [if_pos c]
        refine Or.inr ⟨i, by omega, rfl, rfl, by omega, fun j hj => ?_, fun j hj => ?_⟩
        · by_cases e : j = i
          · rw [e]; exact Nat.le_refl _
          · have := a3 j (by omega); omega
        · have := a3 j hj; omega
      · rw [if_neg c]
        refine Or.inl ⟨a1, a2, fun j hj => ?_⟩
        by_cases e : j = i
        · rw [e]; omega
        · exact a3 j (by omega)
    · by_cases c : nd i < (lb nd i).1
      · rw [if_pos c]
        refine Or.inr ⟨i, by omega, rfl, rfl, by omega, fun j hj => ?_, fun j hj => ?_⟩
        · by_cases e : j = i
          · rw [e]; exact Nat.le_refl _
          · have := b5 j (by omega); omega
        · have := b5 j hj; omega
      · rw [if_neg c]
        refine Or.inr ⟨w, by omega, b2, b3, b4, fun j hj => ?_, b6⟩
        by_cases e : j = i
        · rw [e]; omega
        · exact b5 j (by omega)
theorem ag_least (MX MY : SX) (hR : Rel MX MY) : Ag (p5_least MX) (p6_least MY) := by
  obtain ⟨n, d, σ, hn, hd, h0, hX, hY, hV, h7, h1⟩ := rel_here hR
  rw [p5_least, p6_least, hX.1, h0]
  by_cases hn0 : n = 0
  · subst hn0
    rw [if_pos nI_0, if_pos nI_0]
    exact ag_no hR _
  · have hz0 := nI_ne0 (n := n) (by omega) (by omega)
    have hG := og_of hn hd hV (w := 0) (by omega)
    obtain ⟨MX1, eX1, sX1, oX1⟩ := lookAt_X hX hn hV hd (w := 0) (by omega)
    obtain ⟨MY1, eY1, sY1, oY1⟩ := layTried_Y0 h0 hY hn hV hd (w := 0) (by omega)
    rw [if_neg hz0, if_neg hz0, show p2_lookAt 17 0 MX = some MX1 from eX1, bv_s, show p6_layTried 0 0 MY = some MY1 from eY1, bv_s]
    have hGL : ∀ v L, v < n → L ≤ 99 → OG n (pawnS n σ) (σ 3) (fun v => due σ v 0) (lent (σ 1) v L) := by
      intro v L hv0 hL
      refine ⟨hn, hG.2.1, fun u hu => ⟨(hG.2.2 u hu).1, (hG.2.2 u hu).2.1, ?_⟩⟩
      have := cash_le hV hu
      unfold lent
      by_cases e : u = v
      · subst e; rw [updN_s]; omega
      · rw [updN_n _ e]; omega
    have hnd : ∀ v L, L ≤ 99 → (need n (pawnS n σ) (σ 3) (fun v => due σ v 0) (σ 1) v ≤ L ↔ ¬ wayN n (pawnS n σ) (σ 3) (fun v => due σ v 0) (lent (σ 1) v L) (pawnS n σ) = 0) := fun v L hL => need_iff (by omega)
    have eX : ∃ M' : SX, xlp3 p5_least_33 FU 100 (-9) 0 MX1 = (if (lb (need n (pawnS n σ) (σ 3) (fun v => due σ v 0) (σ 1)) n).2 = -9 then some (-9, M') else some (nI (lb (need n (pawnS n σ) (σ 3) (fun v => due σ v 0) (σ 1)) n).1, wI M' 0 8 (lb (need n (pawnS n σ) (σ 3) (fun v => due σ v 0) (σ 1)) n).2)) ∧ SameX MX M' := by
      have hcap : ∀ i, need n (pawnS n σ) (σ 3) (fun v => due σ v 0) (σ 1) i ≤ 1000000 := fun i => spS_cap i _ _
      generalize hnd' : need n (pawnS n σ) (σ 3) (fun v => due σ v 0) (σ 1) = nd at hcap
      refine lp3_inv (fun i => nI (lb nd i).1) (fun i => (lb nd i).2) (fun i => nI i) (fun i N => (∀ c, c ≠ 58 → N.1 c = MX1.1 c) ∧ N.2 = MX1.2) n (by omega) (fun x => ∃ M' : SX, x = (if (lb nd n).2 = -9 then some (-9, M') else some (nI (lb nd n).1, wI M' 0 8 (lb nd n).2)) ∧ SameX MX M') ?_ ?_ MX1 ⟨fun _ _ => rfl, rfl⟩
      · rintro i hi N ⟨u1, u2⟩ rc
        have hXi := (hX.same sX1).same (sameX58 u1 u2)
        obtain ⟨N', e, w1, w2⟩ := needOf_X (oX1.c58 u1) hG hi
        rw [hnd'] at e
        have hc := hcap i
        have hb : (lb nd i).1 ≤ 100 := by
          rcases lb_f nd i with ⟨a1, _⟩ | ⟨w, _, _, b3, b4, _⟩ <;> omega
        refine ⟨N', ?_, fun c hc => by rw [w1 c hc]; exact u1 c hc, by rw [w2]; exact u2⟩
        rw [p5_least_33, hXi.1, if_neg (nI_ge hi (by omega)), e, bd_s, lb]
        by_cases q : nd i < (lb nd i).1
        · rw [if_neg (show ¬ 1000000 ≤ nd i by omega), if_neg (nI_nm9 (by omega)), if_neg (nI_ge q (by omega)), p5_least_72, lt_v, nI_1, if_pos q]
        · rw [if_neg q]
          by_cases q2 : 1000000 ≤ nd i
          · rw [if_pos q2, if_pos rfl, p5_least_72, lt_v, nI_1]
          · rw [if_neg q2, if_neg (nI_nm9 (by omega)), if_pos (nI_le (by omega) (by omega)), p5_least_72, lt_v, nI_1]
      · rintro N ⟨u1, u2⟩ rc
        have hXi := (hX.same sX1).same (sameX58 u1 u2)
        refine ⟨N, ?_, sX1.trans (sameX58 u1 u2)⟩
        rw [p5_least_33, hXi.1, if_pos (Int32.le_refl _), lt_v]
    -- the reference: one trial
    have tryY : ∀ N, SameY MY N → OY N n (pawnS n σ) (σ 3) (fun v => due σ v 0) (σ 1) → ∀ L v, L ≤ 99 → v < n → ∀ k18 k26, ∃ N' : SX, p6_least_26 k18 k26 (nI L) (nI v) N = (if need n (pawnS n σ) (σ 3) (fun v => due σ v 0) (σ 1) v ≤ L then some (nI L, wI N' 0 7 (nI v)) else k26 (nI L) (nI (v + 1)) N') ∧ SameY MY N' ∧ OY N' n (pawnS n σ) (σ 3) (fun v => due σ v 0) (σ 1) := by
      intro N hS hO L v hL hv0 k18 k26
      have hOL : OY (wI N 12 v (nI (σ 1 v + L))) n (pawnS n σ) (σ 3) (fun v => due σ v 0) (lent (σ 1) v L) := by
        obtain ⟨o0, o1, o2⟩ := hO
        refine ⟨by rw [wI_nk (by decide)]; exact o0, by rw [wI_nk (by decide)]; exact o1, fun u hu => ⟨?_, by rw [wI_nk (by decide)]; exact (o2 u hu).2.1, by rw [wI_nk (by decide)]; exact (o2 u hu).2.2⟩⟩
        rw [wI_k]
        unfold lent
        by_cases e : u = v
        · rw [if_pos e, e, updN_s]
        · rw [if_neg e, updN_n _ e]; exact (o2 u hu).1
      obtain ⟨N2, e2, c2, j2⟩ := canAll_Y hOL (hGL v L hv0 hL)
      have h12 : N2.1 12 v = nI (σ 1 v + L) := by rw [c2, wI_k, if_pos rfl]
      have hiff := hnd v L hL
      have sN : SameY MY (wI N2 12 v (nI (σ 1 v))) := ((hS.trans (same_wIY (by omega))).trans (sameY13 c2 j2)).trans (same_wIY (by omega))
      have oN : OY (wI N2 12 v (nI (σ 1 v))) n (pawnS n σ) (σ 3) (fun v => due σ v 0) (σ 1) := by
        obtain ⟨o0, o1, o2⟩ := hO
        refine ⟨by rw [wI_nk (by decide), c2, wI_nk (by decide)]; exact o0, by rw [wI_nk (by decide), c2, wI_nk (by decide)]; exact o1, fun u hu => ⟨?_, by rw [wI_nk (by decide), c2, wI_nk (by decide)]; exact (o2 u hu).2.1, by rw [wI_nk (by decide), c2, wI_nk (by decide)]; exact (o2 u hu).2.2⟩⟩
        rw [wI_k]
        by_cases e : u = v
        · rw [if_pos e, e]
        · rw [if_neg e, c2, wI_k, if_neg e]; exact (o2 u hu).1
      refine ⟨wI N2 12 v (nI (σ 1 v)), ?_, sN, oN⟩
      rw [p6_least_26, hO.1, if_neg (nI_ge hv0 (by omega)), gd_of (bIn_nI (by omega) (by decide)), nI_clamp (by omega), (hO.2.2 v hv0).1, nI_add, lt_v, e2, bd_s, h12, pk_sub (by omega), Nat.add_sub_cancel, lt_v]
      by_cases z : wayN n (pawnS n σ) (σ 3) (fun v => due σ v 0) (lent (σ 1) v L) (pawnS n σ) = 0
      · rw [if_pos z, if_pos rfl, lt_v, nI_1, if_neg (fun y => (hiff.mp y) z)]
      · rw [if_neg z, if_neg i10, lt_v, if_pos (hiff.mpr z)]
    obtain ⟨MX', e1, s1⟩ := eX
    rw [e1]
    generalize hnd' : need n (pawnS n σ) (σ 3) (fun v => due σ v 0) (σ 1) = nd at tryY
    rcases lb_f nd n with ⟨a1, a2, a3⟩ | ⟨w, b1, b2, b3, b4, b5, b6⟩
    · -- none will do
      have eY : ∃ M' : SX, xlp1 p6_least_18 FU 0 MY1 = some (-9, M') ∧ SameY MY M' := by
        refine lp1_inv (fun L => nI L) (fun L N => SameY MY N ∧ OY N n (pawnS n σ) (σ 3) (fun v => due σ v 0) (σ 1)) 100 (by omega) (fun x => ∃ M' : SX, x = some (-9, M') ∧ SameY MY M') ?_ ?_ MY1 ⟨sY1, oY1⟩
        · rintro L hL N ⟨u1, u2⟩ rc
          rw [p6_least_18, if_neg (show ¬ (100 : Int32) ≤ nI L from nI_ge (b := 100) hL (by omega))]
          refine lp2_inv (fun _ => nI L) (fun v => nI v) (fun v N => SameY MY N ∧ OY N n (pawnS n σ) (σ 3) (fun v => due σ v 0) (σ 1)) n (by omega) (fun x => ∃ M' : SX, x = rc (nI (L + 1)) M' ∧ SameY MY M' ∧ OY M' n (pawnS n σ) (σ 3) (fun v => due σ v 0) (σ 1)) ?_ ?_ N ⟨u1, u2⟩
          · rintro v hv0 N ⟨u1, u2⟩ rc2
            obtain ⟨N', f1, f2, f3⟩ := tryY N u1 u2 L v (by omega) hv0 rc rc2
            have := a3 v hv0
            rw [if_neg (by omega)] at f1
            exact ⟨N', f1, f2, f3⟩
          · rintro N ⟨u1, u2⟩ rc2
            rw [p6_least_26, u2.1, if_pos (Int32.le_refl _), lt_v, nI_1]
            exact ⟨N, rfl, u1, u2⟩
        · rintro N ⟨u1, u2⟩ rc
          rw [p6_least_18, if_pos (by decide)]
          exact ⟨N, rfl, u1⟩
      obtain ⟨MY', e2, s2⟩ := eY
      rw [e2, a2, if_pos rfl]
      exact ag_no (rel_same hR s1 s2) _
    · have eY : ∃ M' : SX, xlp1 p6_least_18 FU 0 MY1 = some (nI (nd w), wI M' 0 7 (nI w)) ∧ SameY MY M' := by
        refine lp1_inv (fun L => nI L) (fun L N => SameY MY N ∧ OY N n (pawnS n σ) (σ 3) (fun v => due σ v 0) (σ 1)) (nd w) (by omega) (fun x => ∃ M' : SX, x = some (nI (nd w), wI M' 0 7 (nI w)) ∧ SameY MY M') ?_ ?_ MY1 ⟨sY1, oY1⟩
        · rintro L hL N ⟨u1, u2⟩ rc
          rw [p6_least_18, if_neg (show ¬ (100 : Int32) ≤ nI L from nI_ge (b := 100) (by omega) (by omega))]
          refine lp2_inv (fun _ => nI L) (fun v => nI v) (fun v N => SameY MY N ∧ OY N n (pawnS n σ) (σ 3) (fun v => due σ v 0) (σ 1)) n (by omega) (fun x => ∃ M' : SX, x = rc (nI (L + 1)) M' ∧ SameY MY M' ∧ OY M' n (pawnS n σ) (σ 3) (fun v => due σ v 0) (σ 1)) ?_ ?_ N ⟨u1, u2⟩
          · rintro v hv0 N ⟨u1, u2⟩ rc2
            obtain ⟨N', f1, f2, f3⟩ := tryY N u1 u2 L v (by omega) hv0 rc rc2
            have := b5 v hv0
            rw [if_neg (by omega)] at f1
            exact ⟨N', f1, f2, f3⟩
          · rintro N ⟨u1, u2⟩ rc2
            rw [p6_least_26, u2.1, if_pos (Int32.le_refl _), lt_v, nI_1]
            exact ⟨N, rfl, u1, u2⟩
        · rintro N ⟨u1, u2⟩ rc
          rw [p6_least_18, if_neg (show ¬ (100 : Int32) ≤ nI (nd w) from nI_ge (b := 100) (by omega) (by omega))]
          refine lp2_inv (fun _ => nI (nd w)) (fun v => nI v) (fun v N => SameY MY N ∧ OY N n (pawnS n σ) (σ 3) (fun v => due σ v 0) (σ 1)) w (by omega) (fun x => ∃ M' : SX, x = some (nI (nd w), wI M' 0 7 (nI w)) ∧ SameY MY M') ?_ ?_ N ⟨u1, u2⟩
          · rintro v hv0 N ⟨u1, u2⟩ rc2
            obtain ⟨N', f1, f2, f3⟩ := tryY N u1 u2 (nd w) v (by omega) (by omega) rc rc2
            have := b6 v hv0
            rw [if_neg (by omega)] at f1
            exact ⟨N', f1, f2, f3⟩
          · rintro N ⟨u1, u2⟩ rc2
            obtain ⟨N', f1, f2, f3⟩ := tryY N u1 u2 (nd w) w (by omega) b1 rc rc2
            rw [if_pos (Nat.le_refl _)] at f1
            exact ⟨N', f1, f2⟩
      obtain ⟨MY', e2, s2⟩ := eY
      rw [e2, b2, if_neg (nI_nm9 (by omega)), b3]
      exact ⟨_, _, _, rfl, rfl, rel_tell _ (rel_same hR s1 s2)⟩
