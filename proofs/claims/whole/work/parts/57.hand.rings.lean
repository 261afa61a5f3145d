/-! rings -/
def mk_ (σ : LV) (x : Nat) : Nat → Nat
  | 0 => 0
  | i + 1 => mk_ σ x i ||| 2 ^ (gi σ i x - 1)
theorem mk_tb (σ : LV) (x u : Nat) : ∀ i, (∀ j, j < i → ¬ gi σ j x = 0) → ((mk_ σ x i).testBit u = true ↔ ∃ j, j < i ∧ gi σ j x = u + 1)
  | 0, _ => by
    constructor
    · intro h
      rw [mk_, Nat.zero_testBit] at h
      exact absurd h (by decide)
    · rintro ⟨j, hj, _⟩
      exact absurd hj (Nat.not_lt_zero j)
  | i + 1, h => by
    have ih := mk_tb σ x u i (fun j hj => h j (by omega))
    have hi := h i (by omega)
    rw [mk_, Nat.testBit_or, Bool.or_eq_true, ih, Nat.testBit_two_pow, decide_eq_true_iff]
    constructor
    · rintro (⟨j, hj, e⟩ | e)
      · exact ⟨j, by omega, e⟩
      · exact ⟨i, by omega, by omega⟩
    · rintro ⟨j, hj, e⟩
      by_cases hji : j = i
      · subst hji
        exact Or.inr (by omega)
      · exact Or.inl ⟨j, by omega, e⟩
theorem mk_lt {n d : Nat} {σ : LV} (hV : Valid n d σ) {x : Nat} (hx : x ≤ n) : ∀ i, (∀ j, j < i → ¬ gi σ j x = 0) → mk_ σ x i < 2 ^ n
  | 0, _ => Nat.two_pow_pos n
  | i + 1, h => by
    have h1 := gi_le hV hx i
    have h2 := h i (by omega)
    exact or2_lt (mk_lt hV hx i (fun j hj => h j (by omega))) (by omega)
def k0_ (σ : LV) (n s : Nat) : Nat := fa_first (fun i => decide (gi σ (i + 1) (s + 1) = s + 1)) n
def ringS (n : Nat) (σ : LV) (s : Nat) : Nat := if k0_ σ n s < n then mk_ σ (s + 1) (k0_ σ n s + 1) else 0
theorem k0_yes {σ : LV} {n s : Nat} (h : k0_ σ n s < n) : gi σ (k0_ σ n s + 1) (s + 1) = s + 1 := of_decide_eq_true (fa_first_yes (fun i => decide (gi σ (i + 1) (s + 1) = s + 1)) n h)
theorem k0_no {σ : LV} {n s i : Nat} (h : i < k0_ σ n s) : ¬ gi σ (i + 1) (s + 1) = s + 1 := of_decide_eq_false (fa_first_no (fun i => decide (gi σ (i + 1) (s + 1) = s + 1)) n i h)
theorem k0_nz {σ : LV} {n s : Nat} (h : k0_ σ n s < n) : ∀ j, j ≤ k0_ σ n s + 1 → ¬ gi σ j (s + 1) = 0 := fun j hj z => by
  have := gi_ends σ hj z
  rw [k0_yes h] at this
  omega
theorem never_back {n d : Nat} {σ : LV} (hV : Valid n d σ) {s : Nat} (hs : s < n) (h : ¬ k0_ σ n s < n) : ∀ k, 1 ≤ k → ¬ gi σ k (s + 1) = s + 1 := by
  have hk : k0_ σ n s = n := by
    have := fa_first_le (fun i => decide (gi σ (i + 1) (s + 1) = s + 1)) n
    unfold k0_ at *
    omega
  have hno : ∀ k, 1 ≤ k → k ≤ n → ¬ gi σ k (s + 1) = s + 1 := by
    intro k h1 h2
    have := k0_no (σ := σ) (n := n) (s := s) (i := k - 1) (by rw [hk]; omega)
    rw [show k - 1 + 1 = k by omega] at this
    exact this
  by_cases hE : gi σ n (s + 1) = 0
  · intro k h1 z
    by_cases h2 : k ≤ n
    · exact hno k h1 h2 z
    · rw [gi_ends σ (by omega) hE] at z
      omega
  · have hall := gi_never hV (show s + 1 ≤ n by omega) hE
    obtain ⟨i, j, hij, hj, e⟩ := fb_twice (m := n) (n := n + 1) (f := fun i => gi σ i (s + 1) - 1) (fun i hi => by
      have h1 := gi_le hV (show s + 1 ≤ n by omega) i
      have h2 := hall i
      show gi σ i (s + 1) - 1 < n
      omega) (by omega)
    have e2 : gi σ i (s + 1) = gi σ j (s + 1) := by
      have h1 := hall i
      have h2 := hall j
      have e' : gi σ i (s + 1) - 1 = gi σ j (s + 1) - 1 := e
      omega
    have per : ∀ m, gi σ (m + i) (s + 1) = gi σ (m + j) (s + 1) := fun m => by rw [gi_add, gi_add, e2]
    intro k
    induction k using Nat.strongRecOn with
    | _ k ih =>
      intro h1
      by_cases hk2 : k ≤ n
      · exact hno k h1 hk2
      · have := per (k - j)
        rw [show k - j + j = k by omega] at this
        rw [← this]
        exact ih _ (by omega) (by omega)
theorem gi_per {σ : LV} {p x : Nat} (h : gi σ p x = x) : ∀ m, gi σ (m * p) x = x
  | 0 => by rw [Nat.zero_mul]; rfl
  | m + 1 => by rw [Nat.succ_mul, gi_add, h, gi_per h m]
/-- in the ring of s: it comes back to itself, and passes u -/
theorem ring_tb {n d : Nat} {σ : LV} (hV : Valid n d σ) {s u : Nat} (hs : s < n) : (ringS n σ s).testBit u = true ↔ (∃ k, 1 ≤ k ∧ gi σ k (s + 1) = s + 1) ∧ ∃ j, gi σ j (s + 1) = u + 1 := by
  unfold ringS
  by_cases h : k0_ σ n s < n
  · rw [if_pos h, mk_tb σ (s + 1) u _ (fun j hj => k0_nz h j (by omega))]
    constructor
    · rintro ⟨j, _, e⟩
      exact ⟨⟨_, by omega, k0_yes h⟩, j, e⟩
    · rintro ⟨_, j, e⟩
      refine ⟨j % (k0_ σ n s + 1), Nat.mod_lt _ (by omega), ?_⟩
      have := Nat.mod_add_div j (k0_ σ n s + 1)
      rw [Nat.mul_comm] at this
      rw [← this, gi_add, gi_per (k0_yes h)] at e
      exact e
  · rw [if_neg h, Nat.zero_testBit]
    constructor
    · intro z; exact absurd z (by decide)
    · rintro ⟨⟨k, h1, e⟩, _⟩
      exact absurd e (never_back hV hs h k h1)
theorem ring_lt {n d : Nat} {σ : LV} (hV : Valid n d σ) {s : Nat} (hs : s < n) : ringS n σ s < 2 ^ n := by
  unfold ringS
  by_cases h : k0_ σ n s < n
  · rw [if_pos h]
    exact mk_lt hV (by omega) _ (fun j hj => k0_nz h j (by omega))
  · rw [if_neg h]
    exact Nat.two_pow_pos n
theorem ring_self {n d : Nat} {σ : LV} (hV : Valid n d σ) {s : Nat} (hs : s < n) (h : ¬ ringS n σ s = 0) : (ringS n σ s).testBit s = true := by
  refine (ring_tb hV hs).mpr ⟨?_, 0, rfl⟩
  by_cases h2 : k0_ σ n s < n
  · exact ⟨_, by omega, k0_yes h2⟩
  · unfold ringS at h
    rw [if_neg h2] at h
    exact absurd rfl h
theorem ring_eq {n d : Nat} {σ : LV} (hV : Valid n d σ) {u v : Nat} (hu : u < n) (hv0 : v < n) (h : (ringS n σ u).testBit v = true) : ringS n σ v = ringS n σ u := by
  obtain ⟨⟨k, hk, e⟩, j, ej⟩ := (ring_tb hV hu).mp h
  have eb : gi σ ((j + 1) * k - j) (v + 1) = u + 1 := by
    rw [← ej, ← gi_add, show (j + 1) * k - j + j = (j + 1) * k by
      have : j + 1 ≤ (j + 1) * k := Nat.le_mul_of_pos_right _ hk
      omega, gi_per e]
  have ev : gi σ k (v + 1) = v + 1 := by rw [← ej, ← gi_add, Nat.add_comm, gi_add, e]
  refine sub_anti (fun w hw => ?_) (fun w hw => ?_)
  · obtain ⟨_, i, ei⟩ := (ring_tb hV hv0).mp hw
    exact (ring_tb hV hu).mpr ⟨⟨k, hk, e⟩, i + j, by rw [gi_add, ej, ei]⟩
  · obtain ⟨_, i, ei⟩ := (ring_tb hV hu).mp hw
    exact (ring_tb hV hv0).mpr ⟨⟨k, hk, ev⟩, i + ((j + 1) * k - j), by rw [gi_add, eb, ei]⟩
section Rg
variable {b n d : Nat} {M : SX} {σ : LV}
theorem gi_pred {u i x : Nat} (hu : gi σ i x = u + 1) : gi σ (i + 1) x = σ 3 u := by show stp σ (gi σ i x) = _; rw [hu]; rfl
theorem hv_nI {h : Nat} (h0 : ¬ h = 0) : hv h = nI (h - 1) := by
  match h with
  | 0 => exact absurd rfl h0
  | k + 1 => rfl
theorem ringOf_X (hX : XRep b M n σ) (hn : n ≤ 6) (hV : Valid n d σ) {s : Nat} (hs : s < n) : p1_ringOf b (nI s) M = some (nI (ringS n σ s), M) := by
  rw [p1_ringOf]
  have hle : ∀ i, gi σ i (s + 1) ≤ n := gi_le hV (by omega)
  have st : ∀ i, i < n → ∀ rc, ¬ gi σ i (s + 1) = 0 → ¬ gi σ (i + 1) (s + 1) = 0 → p1_ringOf_7 b rc (nI s) (nI (mk_ σ (s + 1) i)) (nI (gi σ i (s + 1) - 1)) (nI i) M = if gi σ (i + 1) (s + 1) = s + 1 then some (nI (mk_ σ (s + 1) (i + 1)), M) else rc (nI s) (nI (mk_ σ (s + 1) (i + 1))) (nI (gi σ (i + 1) (s + 1) - 1)) (nI (i + 1)) M := by
    intro i hi rc g1 g2
    have hl := hle i
    have hl2 := hle (i + 1)
    obtain ⟨u, hu⟩ : ∃ u, gi σ i (s + 1) = u + 1 := ⟨gi σ i (s + 1) - 1, by omega⟩
    have hun : u < n := by omega
    have e4 := (hX.2 u hun).2.2.2.1
    have e3 := gi_pred hu
    rw [← e3] at e4
    have hmk : mk_ σ (s + 1) (i + 1) = mk_ σ (s + 1) i ||| 2 ^ u := by rw [mk_, hu]; rfl
    rw [hu, show u + 1 - 1 = u by omega, p1_ringOf_7, hX.1, if_neg (nI_ge hi (by omega)), isPawned_X hX hn hV hun, bd_s, it01, if_pos (by omega), lt_v, gd_of (bIn_nI (by omega) (by decide)), nI_clamp (by omega), e4, lt_v, hv_nI g2, shl1 u (by omega), or_nI, ← hmk]
    by_cases c : gi σ (i + 1) (s + 1) = s + 1
    · rw [if_pos c, if_pos (by rw [c]; rfl)]
    · rw [if_neg c, if_neg (fun z => c (by have := (nI_eq (by omega) (by omega)).mp z; omega)), lt_v, nI_1]
  by_cases h : k0_ σ n s < n
  · have hr : ringS n σ s = mk_ σ (s + 1) (k0_ σ n s + 1) := by unfold ringS; rw [if_pos h]
    rw [hr]
    refine lp4_go (fun _ => nI s) (fun i => nI (mk_ σ (s + 1) i)) (fun i => nI (gi σ i (s + 1) - 1)) (fun i => nI i) (fun _ => M) (k0_ σ n s) (by omega) _ (fun i hi rc => ?_) (fun rc => ?_)
    · rw [st i (by omega) rc (k0_nz h i (by omega)) (k0_nz h (i + 1) (by omega)), if_neg (k0_no hi)]
    · rw [st _ h rc (k0_nz h _ (by omega)) (k0_nz h _ (by omega)), if_pos (k0_yes h)]
  · have hr : ringS n σ s = 0 := by unfold ringS; rw [if_neg h]
    have hnb := never_back hV hs h
    rw [hr]
    by_cases hE : gi σ n (s + 1) = 0
    · have hk : dpt σ n s < n := by
        have h2 := fa_first_le (fun k => decide (gi σ (k + 1) (s + 1) = 0)) n
        refine Nat.lt_of_le_of_ne h2 (fun z => ?_)
        have h3 := fa_first_no (fun k => decide (gi σ (k + 1) (s + 1) = 0)) n (n - 1) (by show n - 1 < dpt σ n s; rw [z]; omega)
        rw [show n - 1 + 1 = n by omega] at h3
        exact absurd hE (of_decide_eq_false h3)
      have hyes : gi σ (dpt σ n s + 1) (s + 1) = 0 := of_decide_eq_true (fa_first_yes (fun k => decide (gi σ (k + 1) (s + 1) = 0)) n hk)
      have hno : ∀ k, k ≤ dpt σ n s → ¬ gi σ k (s + 1) = 0 := by
        intro k hk2
        match k with
        | 0 => show ¬ s + 1 = 0; omega
        | k + 1 => exact of_decide_eq_false (fa_first_no (fun k => decide (gi σ (k + 1) (s + 1) = 0)) n k hk2)
      generalize dpt σ n s = k at hk hyes hno
      refine lp4_go (fun _ => nI s) (fun i => nI (mk_ σ (s + 1) i)) (fun i => nI (gi σ i (s + 1) - 1)) (fun i => nI i) (fun _ => M) k (by omega) _ (fun i hi rc => ?_) (fun rc => ?_)
      · rw [st i (by omega) rc (hno i (by omega)) (hno (i + 1) (by omega)), if_neg (hnb (i + 1) (by omega))]
      · obtain ⟨u, hu⟩ : ∃ u, gi σ k (s + 1) = u + 1 := ⟨gi σ k (s + 1) - 1, by have := hno k (Nat.le_refl k); omega⟩
        have hun : u < n := by have := hle k; omega
        have hs1 : σ 3 u = 0 := by rw [← gi_pred hu]; exact hyes
        rw [hu, show u + 1 - 1 = u by omega, p1_ringOf_7, hX.1, if_neg (nI_ge hk (by omega)), isPawned_X hX hn hV hun, bd_s, it01, if_neg (by omega)]
        rfl
    · have hno := gi_never hV (show s + 1 ≤ n by omega) hE
      refine lp4_go (fun _ => nI s) (fun i => nI (mk_ σ (s + 1) i)) (fun i => nI (gi σ i (s + 1) - 1)) (fun i => nI i) (fun _ => M) n (by omega) _ (fun i hi rc => ?_) (fun rc => ?_)
      · rw [st i hi rc (hno i) (hno (i + 1)), if_neg (hnb (i + 1) (by omega))]
      · rw [p1_ringOf_7, hX.1, if_pos (Int32.le_refl _)]
        rfl
/-- the reference walks until it ends or meets what it has met -/
def y0_ (σ : LV) (n s : Nat) : Nat := fa_first (fun i => decide (gi σ (i + 1) (s + 1) = 0) || (mk_ σ (s + 1) (i + 1)).testBit (gi σ (i + 1) (s + 1) - 1)) n
theorem ringOf_Y (hY : YRep 0 M n σ) (hn : n ≤ 6) (hV : Valid n d σ) {s : Nat} (hs : s < n) : p6_ringOf (nI s) M = some (nI (ringS n σ s), M) := by
  rw [p6_ringOf]
  have hle : ∀ i, gi σ i (s + 1) ≤ n := gi_le hV (by omega)
  have hyl : y0_ σ n s ≤ n := fa_first_le _ n
  have hno : ∀ i, i < y0_ σ n s → ¬ gi σ (i + 1) (s + 1) = 0 ∧ ¬ (mk_ σ (s + 1) (i + 1)).testBit (gi σ (i + 1) (s + 1) - 1) = true := by
    intro i hi
    have := fa_first_no (fun i => decide (gi σ (i + 1) (s + 1) = 0) || (mk_ σ (s + 1) (i + 1)).testBit (gi σ (i + 1) (s + 1) - 1)) n i hi
    rw [Bool.or_eq_false_iff] at this
    exact ⟨of_decide_eq_false this.1, by rw [this.2]; decide⟩
  have hnz : ∀ i, i ≤ y0_ σ n s → ¬ gi σ i (s + 1) = 0 := by
    intro i hi
    match i with
    | 0 => show ¬ s + 1 = 0; omega
    | i + 1 => exact (hno i (by omega)).1
  -- it does end
  have hlt : y0_ σ n s < n := by
    refine Nat.lt_of_le_of_ne hyl (fun z => ?_)
    obtain ⟨i, j, hij, hj, e⟩ := fb_twice (m := n) (n := n + 1) (f := fun i => gi σ i (s + 1) - 1) (fun i hi => by
      have h1 := hle i
      have h2 := hnz i (by omega)
      show gi σ i (s + 1) - 1 < n
      omega) (by omega)
    have e' : gi σ i (s + 1) - 1 = gi σ j (s + 1) - 1 := e
    have h1 := hnz i (by omega)
    have h2 := hnz j (by omega)
    have h3 := (hno (j - 1) (by omega)).2
    rw [show j - 1 + 1 = j by omega, mk_tb σ (s + 1) _ j (fun k hk => hnz k (by omega))] at h3
    exact h3 ⟨i, hij, by omega⟩
  have hyes : gi σ (y0_ σ n s + 1) (s + 1) = 0 ∨ (mk_ σ (s + 1) (y0_ σ n s + 1)).testBit (gi σ (y0_ σ n s + 1) (s + 1) - 1) = true := by
    have := fa_first_yes (fun i => decide (gi σ (i + 1) (s + 1) = 0) || (mk_ σ (s + 1) (i + 1)).testBit (gi σ (i + 1) (s + 1) - 1)) n hlt
    rw [Bool.or_eq_true] at this
    exact this.imp of_decide_eq_true id
  have hsm : ∀ i, i ≤ y0_ σ n s + 1 → mk_ σ (s + 1) i < 2 ^ n := fun i hi => mk_lt hV (by omega) i (fun j hj => hnz j (by omega))
  have hend : ringS n σ s = if gi σ (y0_ σ n s + 1) (s + 1) = s + 1 then mk_ σ (s + 1) (y0_ σ n s + 1) else 0 := by
    by_cases c : gi σ (y0_ σ n s + 1) (s + 1) = s + 1
    · have hk : k0_ σ n s = y0_ σ n s := by
        rcases Nat.lt_trichotomy (k0_ σ n s) (y0_ σ n s) with h | h | h
        · exfalso
          have h3 := (hno _ h).2
          rw [k0_yes (by omega), mk_tb σ (s + 1) _ _ (fun k hk => hnz k (by omega))] at h3
          exact h3 ⟨0, by omega, by show s + 1 = s + 1 - 1 + 1; omega⟩
        · exact h
        · exact absurd c (k0_no h)
      rw [if_pos c]
      unfold ringS
      rw [hk, if_pos hlt]
    · rw [if_neg c]
      unfold ringS
      by_cases h : k0_ σ n s < n
      · exfalso
        have hk : y0_ σ n s < k0_ σ n s := by
          rcases Nat.lt_trichotomy (k0_ σ n s) (y0_ σ n s) with g | g | g
          · exfalso
            have h3 := (hno _ g).2
            rw [k0_yes (by omega), mk_tb σ (s + 1) _ _ (fun k hk => hnz k (by omega))] at h3
            exact h3 ⟨0, by omega, by show s + 1 = s + 1 - 1 + 1; omega⟩
          · rw [← g] at c
            exact absurd (k0_yes h) c
          · exact g
        rcases hyes with g | g
        · exact k0_nz h _ (by omega) g
        · have gz : ¬ gi σ (y0_ σ n s + 1) (s + 1) = 0 := k0_nz h _ (by omega)
          rw [mk_tb σ (s + 1) _ _ (fun k hk => hnz k (by omega))] at g
          obtain ⟨j, hj, e⟩ := g
          have e' : gi σ j (s + 1) = gi σ (y0_ σ n s + 1) (s + 1) := by omega
          have hp : gi σ (k0_ σ n s - y0_ σ n s + j) (s + 1) = s + 1 := by
            rw [gi_add, e', ← gi_add, show k0_ σ n s - y0_ σ n s + (y0_ σ n s + 1) = k0_ σ n s + 1 by omega]
            exact k0_yes h
          have h4 := k0_no (σ := σ) (n := n) (s := s) (i := k0_ σ n s - y0_ σ n s + j - 1) (by omega)
          rw [show k0_ σ n s - y0_ σ n s + j - 1 + 1 = k0_ σ n s - y0_ σ n s + j by omega] at h4
          exact h4 hp
      · rw [if_neg h]
  generalize y0_ σ n s = k at hlt hno hnz hyes hsm hend
  have st : ∀ i, i ≤ k → ∀ rc, ¬ (mk_ σ (s + 1) i).testBit (gi σ i (s + 1) - 1) = true → p6_ringOf_4 rc (nI s) (nI (mk_ σ (s + 1) i)) (hv (gi σ i (s + 1))) M = rc (nI s) (nI (mk_ σ (s + 1) (i + 1))) (hv (gi σ (i + 1) (s + 1))) M := by
    intro i hi rc hm
    have g1 := hnz i hi
    have hl := hle i
    obtain ⟨u, hu⟩ : ∃ u, gi σ i (s + 1) = u + 1 := ⟨gi σ i (s + 1) - 1, by omega⟩
    have hun : u < n := by omega
    have e4 := (hY u hun).2.2.2.1
    rw [Nat.zero_add, ← gi_pred hu] at e4
    have hmk : mk_ σ (s + 1) (i + 1) = mk_ σ (s + 1) i ||| 2 ^ u := by rw [mk_, hu]; rfl
    rw [hu, show u + 1 - 1 = u by omega] at hm
    have ix := ix7 (s := u) (by omega)
    rw [hu, p6_ringOf_4, show hv (u + 1) = nI u from rfl, if_neg (nI_nm9 (by omega)), has_Y (l31 hn (hsm i (by omega))) (by omega), bd_s, it01, if_neg hm, lt_v, gd_of ix.1, ix.2, e4, lt_v, shl1 u (by omega), or_nI, ← hmk]
  refine lp3_go (fun _ => nI s) (fun i => nI (mk_ σ (s + 1) i)) (fun i => hv (gi σ i (s + 1))) (fun _ => M) (k + 1) (by omega) _ (fun i hi rc => ?_) (fun rc => ?_)
  · refine st i (by omega) rc ?_
    match i with
    | 0 => rw [mk_, Nat.zero_testBit]; decide
    | i + 1 => exact (hno i (by omega)).2
  · have hl := hle (k + 1)
    have hlm := hsm (k + 1) (Nat.le_refl _)
    have fin : ∀ v3, v3 = hv (gi σ (k + 1) (s + 1)) → p6_ringOf_37 (nI s) (nI (mk_ σ (s + 1) (k + 1))) v3 M = some (nI (ringS n σ s), M) := by
      intro v3 e3
      rw [p6_ringOf_37, e3, hend]
      by_cases c : gi σ (k + 1) (s + 1) = s + 1
      · rw [if_pos ((hv_eq (by omega) (by omega)).mpr c), if_pos c]
      · rw [if_neg (fun z => c ((hv_eq (by omega) (by omega)).mp z)), if_neg c]
        rfl
    rw [p6_ringOf_4]
    by_cases hz : gi σ (k + 1) (s + 1) = 0
    · rw [if_pos ((hv_m9 (by omega)).mpr hz)]
      exact fin _ rfl
    · rcases hyes with g | g
      · exact absurd g hz
      · rw [if_neg (fun z => hz ((hv_m9 (by omega)).mp z)), hv_nI hz, has_Y (l31 hn hlm) (by omega), bd_s, it01, if_pos g]
        exact fin _ (hv_nI hz).symm
end Rg
def mxR (n : Nat) (σ : LV) : Nat → Nat
  | 0 => 0
  | i + 1 => mxR n σ i ||| ringS n σ i
def cxR (n : Nat) (σ : LV) : Nat → Nat
  | 0 => 0
  | i + 1 => if ¬ ringS n σ i = 0 ∧ ¬ (mxR n σ i).testBit i = true then cxR n σ i + 1 else cxR n σ i
theorem mxR_tb (n : Nat) (σ : LV) (v : Nat) : ∀ i, (mxR n σ i).testBit v = true ↔ ∃ u, u < i ∧ (ringS n σ u).testBit v = true
  | 0 => by
    constructor
    · intro h
      rw [mxR, Nat.zero_testBit] at h
      exact absurd h (by decide)
    · rintro ⟨j, hj, _⟩
      exact absurd hj (Nat.not_lt_zero j)
  | i + 1 => by
    rw [mxR, Nat.testBit_or, Bool.or_eq_true, mxR_tb n σ v i]
    constructor
    · rintro (⟨u, hu, e⟩ | e)
      · exact ⟨u, by omega, e⟩
      · exact ⟨i, by omega, e⟩
    · rintro ⟨u, hu, e⟩
      by_cases h : u = i
      · subst h; exact Or.inr e
      · exact Or.inl ⟨u, by omega, e⟩
theorem mxR_lt {n d : Nat} {σ : LV} (hV : Valid n d σ) : ∀ i, i ≤ n → mxR n σ i < 2 ^ n
  | 0, _ => Nat.two_pow_pos n
  | i + 1, h => Nat.or_lt_two_pow (mxR_lt hV i (by omega)) (ring_lt hV (by omega))
theorem ntz_X (a : Int32) (M : SX) : pj_ntz a M = some (ntzF a, M) := by
  unfold ntzF pj_ntz
  simp only [lt_v]
  split
  · split
    · unfold pj_ntz_34 pj_ntz_49 pj_ntz_62 pj_ntz_74
      simp only [lt_v]
      repeat' split
      all_goals rfl
    · unfold pj_ntz_34 pj_ntz_49 pj_ntz_62 pj_ntz_74
      simp only [lt_v]
      repeat' split
      all_goals rfl
  · rfl
theorem ntz_low : ∀ S, S < 64 → ∀ v, v < 6 → ¬ S = 0 → (ntzF (nI S) = nI v ↔ (S.testBit v = true ∧ ∀ u, u < v → S.testBit u = false)) := by decide +kernel
theorem ag_rings (MX MY : SX) (hR : Rel MX MY) : Ag (p5_rings MX) (p6_rings MY) := by
  obtain ⟨n, d, σ, hn, hd, h0, hX, hY, hV, h7, h1⟩ := rel_here hR
  rw [p5_rings, p6_rings, lt_v]
  have eX : xlp3 p5_rings_6 FU 0 0 0 MX = some (nI (cxR n σ n), wI MX 0 8 (nI (mxR n σ n))) := by
    refine lp3_go (fun i => nI (cxR n σ i)) (fun i => nI (mxR n σ i)) (fun i => nI i) (fun _ => MX) n (by omega) _ (fun i hi rc => ?_) (fun rc => ?_)
    · have hrl := ring_lt hV hi
      rw [p5_rings_6, hX.1, if_neg (nI_ge hi (by omega)), ringOf_X hX hn hV hi, bd_s, lt_v, or_nI, cxR, mxR]
      by_cases hz : ringS n σ i = 0
      · rw [if_pos (by rw [hz]; rfl), if_neg (fun z => z.1 hz), p5_rings_49, lt_v, nI_1]
      · have hi6 : i < 6 := by omega
        have hlow := ntz_low _ (l64 hn hrl) i hi6 hz
        rw [if_neg (nI_ne0 (Nat.pos_of_ne_zero hz) (l31 hn hrl)), ntz_X, bd_s]
        by_cases c : (mxR n σ i).testBit i = true
        · obtain ⟨u, hu, e⟩ := (mxR_tb n σ i i).mp c
          have he := ring_eq hV (by omega) hi e
          have hu2 : (ringS n σ u).testBit u = true := ring_self hV (by omega) (by rw [← he]; exact hz)
          rw [if_neg (fun z => by
            have := (hlow.mp z).2 u hu
            rw [he, hu2] at this
            exact absurd this (by decide)), if_neg (fun z => z.2 c), p5_rings_49, lt_v, nI_1]
        · rw [if_pos (hlow.mpr ⟨ring_self hV hi hz, fun u hu => by
            cases e : (ringS n σ i).testBit u
            · rfl
            · exfalso
              have he := ring_eq hV hi (by omega) e
              exact c ((mxR_tb n σ i i).mpr ⟨u, hu, by rw [he]; exact ring_self hV hi hz⟩)⟩), if_pos ⟨hz, c⟩, lt_v, p5_rings_49, lt_v, nI_1, nI_1]
    · rw [p5_rings_6, hX.1, if_pos (Int32.le_refl _), lt_v]
  have eY : xlp2 p6_rings_9 FU 0 0 (wI MY 0 7 0) = some (nI (cxR n σ n), wI MY 0 7 (nI (mxR n σ n))) := by
    refine lp2_go (fun i => nI (cxR n σ i)) (fun i => nI i) (fun i => wI MY 0 7 (nI (mxR n σ i))) n (by omega) _ (fun i hi rc => ?_) (fun rc => ?_)
    · have hml := mxR_lt hV i (by omega)
      have hrl := ring_lt hV hi
      have go : ∀ t, t ||| mxR n σ i = mxR n σ (i + 1) → t < 2 ^ 31 → (t = 0 ↔ ¬ (¬ ringS n σ i = 0 ∧ ¬ (mxR n σ i).testBit i = true)) → p6_rings_37 rc (nI (cxR n σ i)) (nI i) (nI t) (wI MY 0 7 (nI (mxR n σ i))) = rc (nI (cxR n σ (i + 1))) (nI (i + 1)) (wI MY 0 7 (nI (mxR n σ (i + 1)))) := by
        intro t ht htl hc
        rw [p6_rings_37, lt_v, wI_k, if_pos rfl, or_nI, Nat.or_comm, ht, wI_wI, cxR]
        by_cases z : t = 0
        · rw [if_pos (by rw [z]; rfl), p6_rings_58, lt_v, lt_v, add0, nI_1, if_neg (hc.mp z)]
        · rw [if_neg (nI_ne0 (Nat.pos_of_ne_zero z) htl), p6_rings_58, lt_v, lt_v, nI_1, nI_1, if_pos (Classical.not_not.mp (fun w => z (hc.mpr w)))]
      rw [p6_rings_9, w0_1 h0 (by decide), if_neg (nI_ge hi (by omega)), wI_k, if_pos rfl, has_Y (l31 hn hml) (by omega), bd_s, it01]
      by_cases c : (mxR n σ i).testBit i = true
      · rw [if_pos c]
        refine go 0 ?_ (by decide) ⟨fun _ z => z.2 c, fun _ => rfl⟩
        obtain ⟨u, hu, e⟩ := (mxR_tb n σ i i).mp c
        have he := ring_eq hV (by omega) hi e
        rw [Nat.zero_or, mxR]
        refine sub_anti sub_or (fun v hv0 => ?_)
        rw [Nat.testBit_or, Bool.or_eq_true] at hv0
        rcases hv0 with g | g
        · exact g
        · exact (mxR_tb n σ v i).mpr ⟨u, hu, by rw [← he]; exact g⟩
      · rw [if_neg c, ringOf_Y hY.w0 hn hV hi, bd_s]
        refine go _ (by rw [mxR, Nat.or_comm]) (l31 hn hrl) ⟨fun e z => z.1 e, fun z => ?_⟩
        exact Classical.byContradiction (fun w => z ⟨w, c⟩)
    · rw [p6_rings_9, w0_1 h0 (by decide), if_pos (Int32.le_refl _)]
  rw [eX, eY]
  exact ⟨_, _, _, rfl, rfl, rel_tell _ hR⟩
