/-! undone -/
theorem nI_m1 (x : Nat) : nI (x + 1) + (-1) = nI x := by
  rw [nI_succ]
  have : nI x + 1 + -1 = nI x + (1 + -1) := Int32.add_assoc _ _ _
  rw [this, show (1 : Int32) + -1 = 0 from rfl, Int32.add_zero]
def codeN (a1 a2 a3 a4 a5 : Nat) : Nat := a1 + 4 * a2 + 32 * a3 + 256 * a4 + 32768 * a5
def agedR (σ : LV) (j : Nat) : LV := fun g t => if g = 5 ∧ j ≤ t ∧ 0 < σ 3 t then σ 5 t + 1 else σ g t
theorem agedR_a (σ : LV) (j g t : Nat) : agedR σ j g t = if g = 5 ∧ j ≤ t ∧ 0 < σ 3 t then σ 5 t + 1 else σ g t := rfl
theorem agedR_3 (σ : LV) (j t : Nat) : agedR σ j 3 t = σ 3 t := if_neg (fun z => by omega)
section Un
variable {M : SX} {n i : Nat}
theorem unpack {b i a1 a2 a3 a4 a5 : Nat} {M : SX} (hi : i < 40) (h : M.1 (b + 1) i = nI (codeN a1 a2 a3 a4 a5)) (h1 : a1 < 4) (h2 : a2 < 8) (h3 : a3 < 8) (h4 : a4 < 128) (h5 : a5 < 128) : p0_whatOf b (nI i) M = some (nI a1, M) ∧ p0_shopOf b (nI i) M = some (nI a2, M) ∧ p0_otherOf b (nI i) M = some (nI a3, M) ∧ p0_numberOf b (nI i) M = some (nI a4, M) ∧ p0_weeksOf b (nI i) M = some (nI a5, M) := by
  have hc : codeN a1 a2 a3 a4 a5 < 2 ^ 31 := by unfold codeN; omega
  have hb : bIn (nI i) 40 = true := bIn_nI hi (by decide)
  have m3 : ∀ x, nI x &&& 3 = nI (x % 4) := fun x => fa_mask x 2
  have m7 : ∀ x, nI x &&& 7 = nI (x % 8) := fun x => fa_mask x 3
  have m127 : ∀ x, nI x &&& 127 = nI (x % 128) := fun x => fa_mask x 7
  refine ⟨?_, ?_, ?_, ?_, ?_⟩
  · rw [p0_whatOf, gd_of hb, nI_clamp (by omega), h, m3, show codeN a1 a2 a3 a4 a5 % 4 = a1 by unfold codeN; omega]
  · rw [p0_shopOf, gd_of hb, nI_clamp (by omega), h, pk_shrN hc _ 2 (by decide), m7, show codeN a1 a2 a3 a4 a5 / 2 ^ 2 % 8 = a2 by unfold codeN; omega]
  · rw [p0_otherOf, gd_of hb, nI_clamp (by omega), h, pk_shrN hc _ 5 (by decide), m7, show codeN a1 a2 a3 a4 a5 / 2 ^ 5 % 8 = a3 by unfold codeN; omega]
  · rw [p0_numberOf, gd_of hb, nI_clamp (by omega), h, pk_shrN hc _ 8 (by decide), m127, show codeN a1 a2 a3 a4 a5 / 2 ^ 8 % 128 = a4 by unfold codeN; omega]
  · rw [p0_weeksOf, gd_of hb, nI_clamp (by omega), h, pk_shrN hc _ 15 (by decide), m127, show codeN a1 a2 a3 a4 a5 / 2 ^ 15 % 128 = a5 by unfold codeN; omega]
/-- what an undoing gives -/
def UnQ (M M' : SX) (n i : Nat) (σ : LV) : Prop := XRep 17 M' n σ ∧ M'.1 (17 + 7) 1 = nI i ∧ (∀ c, (c < 17 ∨ 25 ≤ c) → M'.1 c = M.1 c) ∧ M'.2 = M.2
theorem removeLast_X {N : SX} {σ : LV} (hX : XRep 17 N n σ) (h : N.1 (17 + 7) 1 = nI (i + 1)) (hi : i < 40) (hN : ∀ c, (c < 17 ∨ 24 ≤ c) → N.1 c = M.1 c) (hN2 : N.2 = M.2) : ∃ M', p1_undoLast_150 17 N = some M' ∧ UnQ M M' n i σ := by
  refine ⟨wI N (17 + 7) 1 (nI i), ?_, ?_, ?_, fun c hc => ?_, hN2⟩
  · rw [p1_undoLast_150, p0_removeLast, h, if_neg (nI_nle (by omega) (by omega)), lt_v, nI_pred, bv_s]
  · refine XRep_i.mpr ⟨?_, fun f hf s hs => ?_⟩
    · rw [wI_nk (by decide)]; exact hX.1
    · rw [wI_nk (by omega)]; exact (XRep_i.mp hX).2 f hf s hs
  · rw [wI_k, if_pos rfl]
  · rw [wI_nk (by omega)]; exact hN c (by omega)
theorem undo_start (h7 : M.1 (17 + 7) 1 = nI (i + 1)) (hi : i < 40) {a1 a2 a3 a4 a5 : Nat} (hc : M.1 (17 + 8) i = nI (codeN a1 a2 a3 a4 a5)) (h1 : a1 < 4) (h2 : a2 < 8) (h3 : a3 < 8) (h4 : a4 < 128) (h5 : a5 < 128) : p1_undoLast 17 M = (if nI a1 = 0 then (bv (p1_setTicket 17 (nI a2) (nI a3) (nI a4) (nI a5) M) (fun M20 => bd (p1_dueOf 17 (nI a2) 0 M20) (fun r23 M22 => bv (p1_pay 17 (nI a3) (nI a2) r23 M22) (fun M25 => p1_undoLast_150 17 M25))))
  else (if nI a1 = 1 then (bv (p1_removeTicket 17 (nI a2) M) (fun M28 => bv (p1_pay 17 (nI a2) (nI a3) (nI a4) M28) (fun M30 => p1_undoLast_150 17 M30)))
  else (if nI a1 = 2 then (bv (p1_ageTickets 17 (-1) M) (fun M33 => p1_undoLast_150 17 M33))
  else (gd (bIn (nI a2) 6) ( lt_ (wI M (17 + 2) (Int32.toNatClampNeg (nI a2)) ((M.1 (17 + 2) (Int32.toNatClampNeg (nI a2))) - nI a4)) (fun M35 => p1_undoLast_150 17 M35)))))) := by
  obtain ⟨u1, u2, u3, u4, u5⟩ := unpack (b := 17 + 7) hi hc h1 h2 h3 h4 h5
  rw [p1_undoLast, h7, if_neg (nI_ne0 (by omega) (by omega)), nI_pred, lt_v, u2, bd_s, u3, bd_s, u4, bd_s, u1, bd_s, u5, bd_s]
theorem undoLast_X {σ τ : LV} (hX : XRep 17 M n τ) (hn : n ≤ 6) (h7 : M.1 (17 + 7) 1 = nI (i + 1)) (hi : i < 40) (hV : Valid n i σ) (hW : Valid n (i + 1) τ) (hD : Deed n (M.1 (17 + 8) i) σ τ) : ∃ M', p1_undoLast 17 M = some M' ∧ UnQ M M' n i σ := by
  rcases hD with ⟨s, h, hs, hh, e3, hc, ec, hτ⟩ | ⟨s, h, k, hs, hh, hne, hk1, hk9, e3, hc, ec, hτ⟩ | ⟨ec, hτ⟩ | ⟨s, v, hs, hv0, ec, hτ⟩
  · -- a redeeming
    have hv1 := hV.2 s hs
    have hsh : ¬ s = h := by intro z; have := hv1.2.2.2.1; omega
    have hX1 : XRep 17 M n (redeemed σ s h) := hX.congr (fun g t ht => (hτ g t ht).symm)
    rw [undo_start h7 hi (a1 := 0) (a2 := s) (a3 := h) (a4 := σ 4 s) (a5 := σ 5 s) ec (by omega) (by omega) (by omega) (by omega) (by omega), if_pos nI_0]
    obtain ⟨M1, f1, r1, k1, j1⟩ := setTicket_X hX1 hn (s := s) (h := h + 1) (l := σ 4 s) (w := σ 5 s) hs (hx := nI h) rfl
    rw [f1, bv_s]
    have hVr : Valid n (i + 1) (setF (setF (setF (redeemed σ s h) 3 s (h + 1)) 4 s (σ 4 s)) 5 s (σ 5 s)) := by
      have hWr := V_redeemed hV hs hh hc
      refine ⟨?_, fun t ht => ?_⟩
      · have e : tot n (setF (setF (setF (redeemed σ s h) 3 s (h + 1)) 4 s (σ 4 s)) 5 s (σ 5 s) 1) = tot n (redeemed σ s h 1) := tot_eq (fun k hk => by simp [setF])
        rw [e]; exact hWr.1
      · have g := hWr.2 t ht
        by_cases e : t = s
        · subst e
          simp [setF, redeemed, noTk]
          exact ⟨hv1.1, hv1.2.1, by omega, fun z => hsh z.symm, hv1.2.2.2.2.1, by omega, by have := hv1.2.2.2.2.2.2.2; omega⟩
        · simp [setF, redeemed, noTk, e] at g ⊢
          exact g
    have hdue : due (setF (setF (setF (redeemed σ s h) 3 s (h + 1)) 4 s (σ 4 s)) 5 s (σ 5 s)) s 0 = due σ s 0 := by
      unfold due
      rw [e3]
      simp [setF, redeemed, noTk]
    rw [show p1_dueOf 17 (nI s) 0 M1 = _ from dueOf_X r1 hn hVr (by omega) hs (w := 0) (by omega), bd_s, hdue]
    have hcash : due σ s 0 ≤ setF (setF (setF (redeemed σ s h) 3 s (h + 1)) 4 s (σ 4 s)) 5 s (σ 5 s) 1 h := by
      have : ¬ h = s := fun z => hsh z.symm
      simp [setF, redeemed, noTk, this]
    obtain ⟨M2, f2, r2, k2, j2⟩ := pay_X r1 hn hh hs hcash
    rw [f2, bv_s]
    refine removeLast_X (r2.congr (fun g t ht => ?_)) ?_ hi (fun c hc2 => by rw [k2 c (by omega), k1 c (by omega) (by omega) (by omega)]) (by rw [j2, j1])
    · have hhs : ¬ h = s := fun z => hsh z.symm
      by_cases g1 : g = 1
      · subst g1
        by_cases t1 : t = s
        · subst t1; simp [setF, redeemed, noTk, hsh, hhs]; omega
        · by_cases t2 : t = h
          · subst t2; simp [setF, redeemed, noTk, hsh, hhs]
          · simp [setF, redeemed, noTk, t1, t2]
      · by_cases t1 : t = s
        · subst t1
          by_cases g3 : g = 3
          · subst g3; simp [setF, redeemed, noTk, e3]
          · by_cases g4 : g = 4
            · subst g4; simp [setF, redeemed, noTk]
            · by_cases g5 : g = 5
              · subst g5; simp [setF, redeemed, noTk]
              · simp [setF, redeemed, noTk, g1, g3, g4, g5]
        · simp [setF, redeemed, noTk, g1, t1]
    · rw [k2 _ (by omega), k1 _ (by omega) (by omega) (by omega)]; exact h7
  · -- a pawning
    have hv1 := hV.2 s hs
    have hX1 : XRep 17 M n (pawned σ s h k) := hX.congr (fun g t ht => (hτ g t ht).symm)
    rw [undo_start h7 hi (a1 := 1) (a2 := s) (a3 := h) (a4 := k) (a5 := 0) ec (by omega) (by omega) (by omega) (by omega) (by omega), if_neg (by decide), if_pos (by decide)]
    obtain ⟨M1, f1, r1, k1, j1⟩ := removeTicket_X hX1 hn hs
    rw [f1, bv_s]
    have hcash : k ≤ noTk (pawned σ s h k) s 1 s := by simp [noTk, pawned, setF]
    obtain ⟨M2, f2, r2, k2, j2⟩ := pay_X r1 hn hs hh hcash
    rw [f2, bv_s]
    refine removeLast_X (r2.congr (fun g t ht => ?_)) ?_ hi (fun c hc2 => by rw [k2 c (by omega), k1 c (by omega) (by omega) (by omega)]) (by rw [j2, j1])
    · have hhs : ¬ h = s := fun z => hne z.symm
      have z4 := hv1.2.2.2.2.2.2.1 e3
      by_cases g1 : g = 1
      · subst g1
        by_cases t1 : t = s
        · subst t1; simp [setF, pawned, noTk, hne, hhs]
        · by_cases t2 : t = h
          · subst t2; simp [setF, pawned, noTk, hne, hhs]; omega
          · simp [setF, pawned, noTk, t1, t2]
      · by_cases t1 : t = s
        · subst t1
          by_cases g3 : g = 3
          · subst g3; simp [setF, pawned, noTk, e3]
          · by_cases g4 : g = 4
            · subst g4; simp [setF, pawned, noTk, z4]
            · by_cases g5 : g = 5
              · subst g5; simp [setF, pawned, noTk, z4]
              · simp [setF, pawned, noTk, g1, g3, g4, g5]
        · simp [setF, pawned, noTk, g1, t1]
    · rw [k2 _ (by omega), k1 _ (by omega) (by omega) (by omega)]; exact h7
  · -- a week
    rw [undo_start h7 hi (a1 := 2) (a2 := 0) (a3 := 0) (a4 := 0) (a5 := 0) ec (by omega) (by omega) (by omega) (by omega) (by omega), if_neg (by decide), if_neg (by decide), if_pos (by decide)]
    have hX1 : XRep 17 M n (aged σ) := hX.congr (fun g t ht => (hτ g t ht).symm)
    have key : ∃ M1, p1_ageTickets 17 (-1) M = some M1 ∧ XRep 17 M1 n σ ∧ (∀ c, c ≠ 23 → M1.1 c = M.1 c) ∧ M1.2 = M.2 := by
      rw [p1_ageTickets]
      have hVj : ∀ j, Valid n (i + 1) (agedR σ j) := by
        intro j
        refine ⟨?_, fun t ht => ?_⟩
        · have e : tot n ((agedR σ j) 1) = tot n (σ 1) := tot_eq (fun k hk => by simp [agedR])
          have := hV.1
          rw [e]; omega
        · have g := hV.2 t ht
          by_cases e : j ≤ t ∧ 0 < σ 3 t
          · simp [agedR, e] at g ⊢
            exact ⟨g.1, g.2.1, g.2.2.1, g.2.2.2.1, g.2.2.2.2.1, g.2.2.2.2.2.1, fun z => by omega, g.2.2.2.2.2.2.2⟩
          · simp [agedR, e] at g ⊢
            exact ⟨g.1, g.2.1, g.2.2.1, g.2.2.2.1, g.2.2.2.2.1, by omega, g.2.2.2.2.2.2⟩
      refine lp2_inv (fun _ => -1) (fun j => nI j) (fun j N => XRep 17 N n (agedR σ j) ∧ (∀ c, c ≠ 23 → N.1 c = M.1 c) ∧ N.2 = M.2) n (by omega) (fun x => ∃ M1, x = some M1 ∧ XRep 17 M1 n σ ∧ (∀ c, c ≠ 23 → M1.1 c = M.1 c) ∧ M1.2 = M.2) ?_ ?_ M ⟨?_, fun _ _ => rfl, rfl⟩
      · rintro j hj N ⟨g1, g2, g3⟩ rc
        by_cases c : 0 < σ 3 j
        · have r := g1.set (f := 5) (s := j) (v := σ 5 j) (x := nI (σ 5 j)) (17 + 6) (by omega) (by omega) (enc_n (by omega)).symm
          refine ⟨_, ?_, r.congr (fun g t ht => ?_), fun c hc => by rw [wI_nk hc]; exact g2 c hc, g3⟩
          · have e6 := (g1.2 j hj).2.2.2.2.2
            have e6' : N.1 (17 + 6) j = nI (σ 5 j + 1) := by rw [e6, agedR_a, if_pos ⟨rfl, Nat.le_refl j, c⟩]
            have ep : p1_isPawned 17 (nI j) N = some (if 0 < σ 3 j then 1 else 0, N) := by
              have := isPawned_X g1 hn (hVj j) hj
              rw [this, agedR_3]
            rw [p1_ageTickets_2, g1.1, if_neg (nI_ge hj (by omega)), ep, bd_s, it01, if_pos c, gd_of (bIn_nI (by omega) (by decide)), nI_clamp (by omega), e6', nI_m1, lt_v, p1_ageTickets_28, lt_v, nI_1]
          · unfold setF
            rw [agedR_a, agedR_a]
            by_cases q : g = 5 ∧ t = j
            · rw [if_pos q, if_neg (by omega), q.1, q.2]
            · rw [if_neg q]
              by_cases q2 : g = 5 ∧ j + 1 ≤ t ∧ 0 < σ 3 t
              · rw [if_pos q2, if_pos ⟨q2.1, by omega, q2.2.2⟩]
              · rw [if_neg q2, if_neg (fun z => q2 ⟨z.1, by have : ¬ t = j := fun w => q ⟨z.1, w⟩; omega, z.2.2⟩)]
        · refine ⟨N, ?_, g1.congr (fun g t ht => ?_), g2, g3⟩
          · have ep : p1_isPawned 17 (nI j) N = some (if 0 < σ 3 j then 1 else 0, N) := by
              have := isPawned_X g1 hn (hVj j) hj
              rw [this, agedR_3]
            rw [p1_ageTickets_2, g1.1, if_neg (nI_ge hj (by omega)), ep, bd_s, it01, if_neg c, p1_ageTickets_28, lt_v, nI_1]
          · rw [agedR_a, agedR_a]
            by_cases q2 : g = 5 ∧ j + 1 ≤ t ∧ 0 < σ 3 t
            · rw [if_pos q2, if_pos ⟨q2.1, by omega, q2.2.2⟩]
            · rw [if_neg q2, if_neg (fun z => q2 ⟨z.1, by have : ¬ t = j := fun w => c (by rw [← w]; exact z.2.2); omega, z.2.2⟩)]
      · rintro N ⟨g1, g2, g3⟩ rc
        rw [p1_ageTickets_2, g1.1, if_pos (Int32.le_refl _)]
        refine ⟨N, rfl, g1.congr (fun g t ht => ?_), g2, g3⟩
        rw [agedR_a, if_neg (by omega)]
      · refine hX1.congr (fun g t ht => ?_)
        unfold aged
        rw [agedR_a]
        by_cases q : g = 5 ∧ 0 < σ 3 t
        · rw [if_pos q, if_pos ⟨q.1, Nat.zero_le t, q.2⟩]
        · rw [if_neg q, if_neg (fun z => q ⟨z.1, z.2.2⟩)]
    obtain ⟨M1, f1, r1, k1, j1⟩ := key
    rw [f1, bv_s]
    exact removeLast_X r1 (by rw [k1 _ (by omega)]; exact h7) hi (fun c hc => k1 c (by omega)) j1
  · -- a gift
    have hX1 : XRep 17 M n (given σ s v) := hX.congr (fun g t ht => (hτ g t ht).symm)
    rw [undo_start h7 hi (a1 := 3) (a2 := s) (a3 := 0) (a4 := v) (a5 := 0) ec (by omega) (by omega) (by omega) (by omega) (by omega), if_neg (by decide), if_neg (by decide), if_neg (by decide), gd_of (bIn_nI (by omega) (by decide)), nI_clamp (by omega), (hX1.2 s hs).2.1, show given σ s v 1 s = σ 1 s + v from setF_s σ 1 s _, pk_sub (by omega), Nat.add_sub_cancel, lt_v]
    have r := hX1.set (f := 1) (s := s) (v := σ 1 s) (x := nI (σ 1 s)) (17 + 2) (by omega) (by omega) (enc_n (by omega)).symm
    refine removeLast_X (r.congr (fun g t ht => ?_)) ?_ hi (fun c hc => wI_nk (by omega)) rfl
    · unfold given setF
      by_cases q : g = 1 ∧ t = s
      · rw [if_pos q, q.1, q.2]
      · rw [if_neg q, if_neg q]
    · rw [wI_nk (by omega)]; exact h7
end Un
