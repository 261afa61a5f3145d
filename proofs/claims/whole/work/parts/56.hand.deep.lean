/-! by whom, by whom again -/
def stp (σ : LV) (x : Nat) : Nat := match x with
  | 0 => 0
  | u + 1 => σ 3 u
def gi (σ : LV) : Nat → Nat → Nat
  | 0, x => x
  | i + 1, x => stp σ (gi σ i x)
theorem stp_le {n d : Nat} {σ : LV} (hV : Valid n d σ) {x : Nat} (h : x ≤ n) : stp σ x ≤ n := by
  unfold stp
  match x with
  | 0 => exact Nat.zero_le n
  | u + 1 => exact (hV.2 u (by omega)).2.2.1
theorem gi_le {n d : Nat} {σ : LV} (hV : Valid n d σ) {x : Nat} (h : x ≤ n) : ∀ i, gi σ i x ≤ n
  | 0 => h
  | i + 1 => stp_le hV (gi_le hV h i)
theorem gi_add (σ : LV) (i x : Nat) : ∀ j, gi σ (j + i) x = gi σ j (gi σ i x)
  | 0 => by rw [Nat.zero_add]; rfl
  | j + 1 => by
    rw [show j + 1 + i = (j + i) + 1 by omega]
    show stp σ (gi σ (j + i) x) = stp σ (gi σ j (gi σ i x))
    rw [gi_add σ i x j]
theorem gi_0 (σ : LV) : ∀ i, gi σ i 0 = 0
  | 0 => rfl
  | i + 1 => by show stp σ (gi σ i 0) = 0; rw [gi_0 σ i]; rfl
theorem gi_ends (σ : LV) {i k x : Nat} (h : i ≤ k) (e : gi σ i x = 0) : gi σ k x = 0 := by
  rw [show k = (k - i) + i by omega, gi_add, e, gi_0]
/-- what does not end within n does not end -/
theorem gi_never {n d : Nat} {σ : LV} (hV : Valid n d σ) {x : Nat} (hx : x ≤ n) (h : ¬ gi σ n x = 0) : ∀ k, ¬ gi σ k x = 0 := by
  have hall : ∀ i, i ≤ n → ¬ gi σ i x = 0 := fun i hi z => h (gi_ends σ hi z)
  obtain ⟨i, j, hij, hj, e⟩ := fb_twice (m := n) (n := n + 1) (f := fun i => gi σ i x - 1) (fun i hi => by
    have h1 := gi_le hV hx i
    have h2 := hall i (by omega)
    show gi σ i x - 1 < n
    omega) (by omega)
  have e2 : gi σ i x = gi σ j x := by
    have h1 := hall i (by omega)
    have h2 := hall j (by omega)
    have e' : gi σ i x - 1 = gi σ j x - 1 := e
    omega
  have per : ∀ m, gi σ (m + i) x = gi σ (m + j) x := fun m => by rw [gi_add, gi_add, e2]
  intro k
  induction k using Nat.strongRecOn with
  | _ k ih =>
    by_cases hk : k ≤ n
    · exact hall k hk
    · have := per (k - j)
      rw [show k - j + j = k by omega] at this
      rw [← this]
      exact ih _ (by omega)
/-- after how many it ends -/
def dpt (σ : LV) (n s : Nat) : Nat := fa_first (fun k => decide (gi σ (k + 1) (s + 1) = 0)) n
theorem ag_deep (a1 : Int32) (MX MY : SX) (hR : Rel MX MY) : Ag (p5_deep a1 MX) (p6_deep a1 MY) := by
  obtain ⟨n, d, σ, hH⟩ := rel_here hR
  rw [p5_deep, p6_deep]
  refine ag_shopg hR hH a1 (fun s hs e => ?_) (by rw [if_pos rfl]) (by rw [if_pos rfl])
  subst e
  obtain ⟨hn, hd, h0, hX, hY, hV, h7, h1⟩ := hH
  rw [if_neg i10, if_neg i10]
  have hz : ¬ gi σ 0 (s + 1) = 0 := by show ¬ s + 1 = 0; omega
  have hle : ∀ i, gi σ i (s + 1) ≤ n := gi_le hV (by omega)
  -- one step
  have stX : ∀ i, i < n → ∀ rc, ¬ gi σ i (s + 1) = 0 → ¬ gi σ (i + 1) (s + 1) = 0 → p5_deep_17 rc (nI (gi σ i (s + 1) - 1)) (nI i) MX = rc (nI (gi σ (i + 1) (s + 1) - 1)) (nI (i + 1)) MX := by
    intro i hi rc g1 g2
    have hl := hle i
    obtain ⟨u, hu⟩ : ∃ u, gi σ i (s + 1) = u + 1 := ⟨gi σ i (s + 1) - 1, by omega⟩
    have hs1 : gi σ (i + 1) (s + 1) = σ 3 u := by show stp σ (gi σ i (s + 1)) = _; rw [hu]; rfl
    rw [hs1] at g2 ⊢
    obtain ⟨h, hh⟩ : ∃ h, σ 3 u = h + 1 := ⟨σ 3 u - 1, by omega⟩
    have hun : u < n := by omega
    have e4 := (hX.2 u hun).2.2.2.1
    rw [hh] at e4
    rw [hu, show u + 1 - 1 = u by omega, p5_deep_17, hX.1, if_neg (nI_ge hi (by omega)), isPawned_X hX hn hV hun, bd_s, it01, if_pos (by omega), gd_of (bIn_nI (by omega) (by decide)), nI_clamp (by omega), e4, lt_v, lt_v, nI_1, hh]
    rfl
  have stY : ∀ i, i < 7 → ∀ rc, ¬ gi σ i (s + 1) = 0 → ¬ gi σ (i + 1) (s + 1) = 0 → p6_deep_14 rc (nI i) (nI (gi σ i (s + 1) - 1)) MY = rc (nI (i + 1)) (nI (gi σ (i + 1) (s + 1) - 1)) MY := by
    intro i hi rc g1 g2
    have hl := hle i
    obtain ⟨u, hu⟩ : ∃ u, gi σ i (s + 1) = u + 1 := ⟨gi σ i (s + 1) - 1, by omega⟩
    have hs1 : gi σ (i + 1) (s + 1) = σ 3 u := by show stp σ (gi σ i (s + 1)) = _; rw [hu]; rfl
    rw [hs1] at g2 ⊢
    obtain ⟨h, hh⟩ : ∃ h, σ 3 u = h + 1 := ⟨σ 3 u - 1, by omega⟩
    have hun : u < n := by omega
    have e4 := (hY u hun).2.2.2.1
    rw [hh, Nat.zero_add] at e4
    have ix := ix7 (s := u) (by omega)
    rw [hu, show u + 1 - 1 = u by omega, p6_deep_14, if_neg (show ¬ (7 : Int32) ≤ nI i from nI_ge (b := 7) (by omega) (by omega)), isPawned_Y hY hn hV hun, bd_s, it01, if_pos (by omega), gd_of ix.1, ix.2, e4, lt_v, lt_v, nI_1, hh]
    rfl
  by_cases hE : gi σ n (s + 1) = 0
  · -- it ends
    have hk : dpt σ n s < n := by
      have h2 := fa_first_le (fun k => decide (gi σ (k + 1) (s + 1) = 0)) n
      refine Nat.lt_of_le_of_ne h2 (fun z => ?_)
      have h3 := fa_first_no (fun k => decide (gi σ (k + 1) (s + 1) = 0)) n (n - 1) (by show n - 1 < dpt σ n s; rw [z]; omega)
      rw [show n - 1 + 1 = n by omega] at h3
      exact absurd hE (of_decide_eq_false h3)
    have hyes : gi σ (dpt σ n s + 1) (s + 1) = 0 := of_decide_eq_true (fa_first_yes (fun k => decide (gi σ (k + 1) (s + 1) = 0)) n hk)
    have hno : ∀ k, k ≤ dpt σ n s → ¬ gi σ k (s + 1) = 0 := by
      intro k hk2
      match k with
      | 0 => exact hz
      | k + 1 => exact of_decide_eq_false (fa_first_no (fun k => decide (gi σ (k + 1) (s + 1) = 0)) n k hk2)
    generalize dpt σ n s = k at hk hyes hno
    obtain ⟨u, hu⟩ : ∃ u, gi σ k (s + 1) = u + 1 := ⟨gi σ k (s + 1) - 1, by have := hno k (Nat.le_refl k); omega⟩
    have hun : u < n := by have := hle k; omega
    have hs1 : σ 3 u = 0 := by
      have : stp σ (gi σ k (s + 1)) = 0 := hyes
      rw [hu] at this
      exact this
    have eX : xlp2 p5_deep_17 FU (nI s) 0 MX = some (nI k, wI MX 0 8 (nI u)) := by
      refine lp2_go (fun i => nI (gi σ i (s + 1) - 1)) (fun i => nI i) (fun _ => MX) k (by omega) _ (fun i hi rc => stX i (by omega) rc (hno i (by omega)) (hno (i + 1) (by omega))) (fun rc => ?_)
      rw [hu, show u + 1 - 1 = u by omega, p5_deep_17, hX.1, if_neg (nI_ge hk (by omega)), isPawned_X hX hn hV hun, bd_s, it01, if_neg (by omega), lt_v]
    have eY : xlp2 p6_deep_14 FU 0 (nI s) MY = some (nI k, wI MY 0 7 (nI u)) := by
      refine lp2_go (fun i => nI i) (fun i => nI (gi σ i (s + 1) - 1)) (fun _ => MY) k (by omega) _ (fun i hi rc => stY i (by omega) rc (hno i (by omega)) (hno (i + 1) (by omega))) (fun rc => ?_)
      rw [hu, show u + 1 - 1 = u by omega, p6_deep_14, if_neg (show ¬ (7 : Int32) ≤ nI k from nI_ge (b := 7) (by omega) (by omega)), isPawned_Y hY hn hV hun, bd_s, it01, if_neg (by omega), p6_deep_44, if_neg (show ¬ nI k = 7 from fun z => absurd ((nI_eq (b := 7) (by omega) (by omega)).mp z) (by omega)), lt_v]
    rw [eX, eY]
    exact ⟨_, _, _, rfl, rfl, rel_tell _ hR⟩
  · have hno := gi_never hV (show s + 1 ≤ n by omega) hE
    have eX : xlp2 p5_deep_17 FU (nI s) 0 MX = some (-9, MX) := by
      refine lp2_go (fun i => nI (gi σ i (s + 1) - 1)) (fun i => nI i) (fun _ => MX) n (by omega) _ (fun i hi rc => stX i hi rc (hno i) (hno (i + 1))) (fun rc => ?_)
      rw [p5_deep_17, hX.1, if_pos (Int32.le_refl _)]
    have eY : xlp2 p6_deep_14 FU 0 (nI s) MY = some (-9, MY) := by
      refine lp2_go (fun i => nI i) (fun i => nI (gi σ i (s + 1) - 1)) (fun _ => MY) 7 (by omega) _ (fun i hi rc => stY i hi rc (hno i) (hno (i + 1))) (fun rc => ?_)
      rw [p6_deep_14, if_pos (by decide), p6_deep_44, if_pos (by decide)]
    rw [eX, eY]
    exact ag_no hR _
