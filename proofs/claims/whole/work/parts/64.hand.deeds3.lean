/-! the deeds, on both sides -/
section Dd
variable {MX MY : SX} {n d : Nat} {st : Nat → LV}
/-- the reference, one place after another behind the keeping -/
theorem yset {M : SX} {σ : LV} (h : YRep 0 M n σ) (hn : n ≤ 6) (f s v : Nat) (x : Int32) (h1 : 1 ≤ f) (hf : f ≤ 5) (hs : s < n) (hx : x = enc f v) : YRep 0 (wI M 1 (off f + s) x) n (setF σ f s v) := h.set hn (off f + s) rfl h1 hf hs hx
theorem yk {M : SX} {c j : Nat} {x : Int32} (h : c < 31) (hj : 31 ≤ j) : (wI M 1 c x).1 1 j = M.1 1 j := by rw [wI_k, if_neg (by omega)]
theorem yk0 {M : SX} {c : Nat} {x : Int32} (h : 0 < c) : (wI M 1 c x).1 1 0 = M.1 1 0 := by rw [wI_k, if_neg (by omega)]
theorem off_b {f s : Nat} (h1 : 1 ≤ f) (hf : f ≤ 5) (hs : s < 6) : 0 < off f + s ∧ off f + s < 31 := by
  rcases five15 h1 hf with rfl | rfl | rfl | rfl | rfl <;> simp only [off] <;> omega
def Aft (M M' : SX) : Prop := (∀ k, k ≠ 1 → M'.1 k = M.1 k) ∧ M'.2 = M.2 ∧ (∀ j, 31 ≤ j → M'.1 1 j = M.1 1 j) ∧ M'.1 1 0 = M.1 1 0
theorem Aft.refl (M : SX) : Aft M M := ⟨fun _ _ => rfl, rfl, fun _ _ => rfl, rfl⟩
theorem Aft.w {M M' : SX} (h : Aft M M') {c : Nat} {x : Int32} (h0 : 0 < c) (h1 : c < 31) : Aft M (wI M' 1 c x) := ⟨fun k hk => by rw [wI_nk hk]; exact h.1 k hk, h.2.1, fun j hj => by rw [yk h1 hj]; exact h.2.2.1 j hj, by rw [yk0 h0]; exact h.2.2.2⟩
theorem do_end (hR : Rel MX MY) (hL : LaneAt 17 0 MX MY n d st) (h0 : MY.1 0 1 = nI n) (hn : n ≤ 6) (hn0 : 0 < n) (hd : d < 40) {σ' : LV} {code : Nat} {MX' MY' : SX} (hX : XRep 17 MX' n σ') (hx : ∀ c, (c < 17 ∨ 24 ≤ c) → MX'.1 c = (adX MX d code).1 c) (hx2 : MX'.2 = MX.2) (hD : Deed n (nI code) (st d) σ') (hA : Aft (kpY MY d) MY') (hY : YRep 0 MY' n σ') (hV : Valid n (d + 1) σ') : Rel MX' MY' ∧ MX'.1 (17 + 7) 1 = nI (d + 1) := by
  refine ⟨?_, by rw [show (17 + 7 : Nat) = 24 from rfl, hx 24 (by omega), adX_7]⟩
  refine rel_deed hR hL h0 hn hn0 hd (σ' := σ') (fun k hk => ?_) hx2 hX ?_ (fun i hi => ?_) ?_ (fun k hk => ?_) ?_ (fun j h1 h2 => ?_) ?_ hY ?_ hV
  · rw [hx k (by omega), adX_lo (by omega) (by omega)]
  · rw [show (17 + 7 : Nat) = 24 from rfl, hx 24 (by omega), adX_7]
  · rw [show (17 + 8 : Nat) = 25 from rfl, hx 25 (by omega), adX_8, if_neg (by omega)]
  · rw [show (17 + 8 : Nat) = 25 from rfl, hx 25 (by omega), adX_8, if_pos rfl]
    exact hD
  · rw [hA.1 k hk, kpY_nk hk]
  · rw [hA.2.1]; rfl
  · rw [hA.2.2.1 j h1, kpY_hi h1 h2]
  · have := kpY_snap (d := d) hn hL.2.2.2.1
    intro s hs
    have e := this s hs
    rw [hA.2.2.1 _ (by omega), hA.2.2.1 _ (by omega), hA.2.2.1 _ (by omega), hA.2.2.1 _ (by omega)]
    exact e
  · rw [hA.2.2.2, kpY_0]
theorem do_redeem (hR : Rel MX MY) (hL : LaneAt 17 0 MX MY n d st) (hH : Here MX MY n d (st d)) (hd : d < 40) {s : Nat} (hs : s < n) (hp : 0 < st d 3 s) (hc : due (st d) s 0 ≤ st d 1 s) : ∃ MX' MY', p1_doRedeem 17 (nI s) MX = some (nI (due (st d) s 0), MX') ∧ p6_doRedeem (nI s) MY = some (nI (due (st d) s 0), MY') ∧ Rel MX' MY' ∧ MX'.1 (17 + 7) 1 = nI (d + 1) := by
  obtain ⟨hn, hd4, h0, hX, hY, hV, h7, h1⟩ := hH
  have hv1 := hV.2 s hs
  obtain ⟨h, hh⟩ : ∃ h, st d 3 s = h + 1 := ⟨st d 3 s - 1, by omega⟩
  have hhn : h < n := by omega
  have hx := hX.2 s hs
  rw [hh] at hx
  have e4 : MX.1 (17 + 4) s = nI h := hx.2.2.2.1
  obtain ⟨M1, e1, r1, k1, j1⟩ := pay_X (adX_rep (d := d) (code := 0 + 4 * s + 32 * h + 256 * st d 4 s + 32768 * st d 5 s) hX) hn hs hhn hc
  obtain ⟨M2, e2, r2, k2, j2⟩ := removeTicket_X r1 hn hs
  have hX' : XRep 17 M2 n (redeemed (st d) s h) := r2
  -- the reference
  have hYk := kpY_rep (d := d) hn hY
  have q1 := yset hYk hn 1 s (st d 1 s - due (st d) s 0) (nI (st d 1 s - due (st d) s 0)) (by omega) (by omega) hs (enc_n (by omega)).symm
  have q2 := yset q1 hn 1 h (setF (st d) 1 s (st d 1 s - due (st d) s 0) 1 h + due (st d) s 0) (nI (setF (st d) 1 s (st d 1 s - due (st d) s 0) 1 h + due (st d) s 0)) (by omega) (by omega) hhn (enc_n (by omega)).symm
  have q3 := yset q2 hn 3 s 0 (-9) (by omega) (by omega) hs (by rw [enc_3]; rfl)
  have q4 := yset q3 hn 4 s 0 0 (by omega) (by omega) hs (enc_n (by omega)).symm
  have q5 := yset q4 hn 5 s 0 0 (by omega) (by omega) hs (enc_n (by omega)).symm
  refine ⟨M2, _, ?_, ?_, do_end hR hL h0 hn (by omega) hd (code := 0 + 4 * s + 32 * h + 256 * st d 4 s + 32768 * st d 5 s) hX' (fun c hc2 => by rw [k2 c (by omega) (by omega) (by omega), k1 c (by omega)]) (by rw [j2, j1]; rfl) (Or.inl ⟨s, h, hs, hhn, hh, hc, rfl, fun g t _ => rfl⟩) (((((Aft.refl _).w (off_b (f := 1) (by omega) (by omega) (by omega)).1 (off_b (f := 1) (by omega) (by omega) (by omega)).2).w (off_b (f := 1) (by omega) (by omega) (by omega)).1 (off_b (f := 1) (by omega) (by omega) (by omega)).2).w (off_b (f := 3) (by omega) (by omega) (by omega)).1 (off_b (f := 3) (by omega) (by omega) (by omega)).2).w (off_b (f := 4) (by omega) (by omega) (by omega)).1 (off_b (f := 4) (by omega) (by omega) (by omega)).2 |>.w (off_b (f := 5) (by omega) (by omega) (by omega)).1 (off_b (f := 5) (by omega) (by omega) (by omega)).2) q5 (V_redeemed hV hs hhn hc)⟩
  · rw [p1_doRedeem, show p1_dueOf 17 (nI s) 0 MX = _ from dueOf_X hX hn hV hd4 hs (w := 0) (by omega), bd_s, gd_of (bIn_nI (by omega) (by decide)), nI_clamp (by omega), e4, lt_v, hx.2.2.2.2.1, hx.2.2.2.2.2, show p0_add (17 + 7) 0 (nI s) (nI h) (nI (st d 4 s)) (nI (st d 5 s)) MX = _ from add_X (a1 := 0) h7 hd (by omega) (by omega) (by omega) (by omega) (by omega), bv_s, show wI (wI MX (17 + 7 + 1) d (nI (0 + 4 * s + 32 * h + 256 * st d 4 s + 32768 * st d 5 s))) (17 + 7) 1 (nI (d + 1)) = adX MX d (0 + 4 * s + 32 * h + 256 * st d 4 s + 32768 * st d 5 s) from rfl, e1, bv_s, e2, bv_s]
  · have i1 := ix1 (s := s) (by omega)
    have i7 := ix7 (s := s) (by omega)
    have i13 := ix13 (s := s) (by omega)
    have i19 := ix19 (s := s) (by omega)
    have i1h := ix1 (s := h) (by omega)
    have hy := hYk s hs
    simp only [Nat.zero_add] at hy
    have hq1 := (q1 h hhn).2.1
    rw [Nat.zero_add] at hq1
    have hq7 := (q1 s hs).2.2.2.1
    rw [Nat.zero_add, setF_n (st d) (by omega), hh] at hq7
    rw [p6_doRedeem, keepPast_Y h1 hd, bv_s, show p6_dueIn (nI s) 0 (kpY MY d) = _ from dueIn_Y hYk hn hV hd4 hs (w := 0) (by omega), bd_s, gd_of i1.1, i1.2, hy.2.1, pk_sub hc, lt_v, gd_of i7.1, i7.2, show (wI (kpY MY d) 1 (1 + s) (nI (st d 1 s - due (st d) s 0))).1 1 (7 + s) = nI h from hq7, gd_of i1h.1, i1h.2, show (wI (kpY MY d) 1 (1 + s) (nI (st d 1 s - due (st d) s 0))).1 1 (1 + h) = _ from hq1, nI_add, lt_v, lt_v, gd_of i13.1, i13.2, lt_v, gd_of i19.1, i19.2, lt_v]
    rfl
theorem do_pawn (hR : Rel MX MY) (hL : LaneAt 17 0 MX MY n d st) (hH : Here MX MY n d (st d)) (hd : d < 40) {s h k : Nat} (hs : s < n) (hh : h < n) (hne : s ≠ h) (hk1 : 1 ≤ k) (hk9 : k ≤ 9) (hp : st d 3 s = 0) (hc : k ≤ st d 1 h) : ∃ MX' MY', p1_doPawn 17 (nI s) (nI h) (nI k) MX = some MX' ∧ p6_doPawn (nI s) (nI h) (nI k) MY = some MY' ∧ Rel MX' MY' ∧ MX'.1 (17 + 7) 1 = nI (d + 1) := by
  obtain ⟨hn, hd4, h0, hX, hY, hV, h7, h1⟩ := hH
  obtain ⟨M1, e1, r1, k1, j1⟩ := pay_X (adX_rep (d := d) (code := 1 + 4 * s + 32 * h + 256 * k) hX) hn hh hs hc
  obtain ⟨M2, e2, r2, k2, j2⟩ := setTicket_X r1 hn (s := s) (h := h + 1) (l := k) (w := 0) hs (hx := nI h) rfl
  have hX' : XRep 17 M2 n (pawned (st d) s h k) := r2
  have hYk := kpY_rep (d := d) hn hY
  have q1 := yset hYk hn 1 h (st d 1 h - k) (nI (st d 1 h - k)) (by omega) (by omega) hh (enc_n (by omega)).symm
  have q2 := yset q1 hn 1 s (setF (st d) 1 h (st d 1 h - k) 1 s + k) (nI (setF (st d) 1 h (st d 1 h - k) 1 s + k)) (by omega) (by omega) hs (enc_n (by omega)).symm
  have q3 := yset q2 hn 3 s (h + 1) (nI h) (by omega) (by omega) hs (by rw [enc_3]; rfl)
  have q4 := yset q3 hn 4 s k (nI k) (by omega) (by omega) hs (enc_n (by omega)).symm
  have q5 := yset q4 hn 5 s 0 0 (by omega) (by omega) hs (enc_n (by omega)).symm
  refine ⟨M2, _, ?_, ?_, do_end hR hL h0 hn (by omega) hd (code := 1 + 4 * s + 32 * h + 256 * k) hX' (fun c hc2 => by rw [k2 c (by omega) (by omega) (by omega), k1 c (by omega)]) (by rw [j2, j1]; rfl) (Or.inr (Or.inl ⟨s, h, k, hs, hh, hne, hk1, hk9, hp, hc, rfl, fun g t _ => rfl⟩)) (((((Aft.refl _).w (off_b (f := 1) (by omega) (by omega) (by omega)).1 (off_b (f := 1) (by omega) (by omega) (by omega)).2).w (off_b (f := 1) (by omega) (by omega) (by omega)).1 (off_b (f := 1) (by omega) (by omega) (by omega)).2).w (off_b (f := 3) (by omega) (by omega) (by omega)).1 (off_b (f := 3) (by omega) (by omega) (by omega)).2).w (off_b (f := 4) (by omega) (by omega) (by omega)).1 (off_b (f := 4) (by omega) (by omega) (by omega)).2 |>.w (off_b (f := 5) (by omega) (by omega) (by omega)).1 (off_b (f := 5) (by omega) (by omega) (by omega)).2) q5 (V_pawned hV hs hh hne hk1 hk9 hc)⟩
  · rw [p1_doPawn, show p0_add (17 + 7) 1 (nI s) (nI h) (nI k) 0 MX = _ from add_X (a1 := 1) (a5 := 0) h7 hd (by omega) (by omega) (by omega) (by omega) (by omega), bv_s, show wI (wI MX (17 + 7 + 1) d (nI (1 + 4 * s + 32 * h + 256 * k + 32768 * 0))) (17 + 7) 1 (nI (d + 1)) = adX MX d (1 + 4 * s + 32 * h + 256 * k) from rfl, e1, bv_s, show p1_setTicket 17 (nI s) (nI h) (nI k) 0 M1 = some M2 from e2, bv_s]
  · have i1 := ix1 (s := s) (by omega)
    have i7 := ix7 (s := s) (by omega)
    have i13 := ix13 (s := s) (by omega)
    have i19 := ix19 (s := s) (by omega)
    have i1h := ix1 (s := h) (by omega)
    have hy := hYk h hh
    simp only [Nat.zero_add] at hy
    have hq1 := (q1 s hs).2.1
    rw [Nat.zero_add] at hq1
    rw [p6_doPawn, keepPast_Y h1 hd, bv_s, gd_of i1h.1, i1h.2, hy.2.1, pk_sub hc, lt_v, gd_of i1.1, i1.2, show (wI (kpY MY d) 1 (1 + h) (nI (st d 1 h - k))).1 1 (1 + s) = _ from hq1, nI_add, lt_v, gd_of i7.1, i7.2, lt_v, gd_of i13.1, i13.2, lt_v, gd_of i19.1, i19.2, lt_v]
    rfl
theorem do_give (hR : Rel MX MY) (hL : LaneAt 17 0 MX MY n d st) (hH : Here MX MY n d (st d)) (hd : d < 40) {s k : Nat} (hs : s < n) (hk : k ≤ 99) : ∃ MX' MY', p1_doGive 17 (nI s) (nI k) MX = some MX' ∧ p6_doGive (nI s) (nI k) MY = some (nI (st d 1 s + k), MY') ∧ MX'.1 (17 + 2) s = nI (st d 1 s + k) ∧ Rel MX' MY' ∧ MX'.1 (17 + 7) 1 = nI (d + 1) := by
  obtain ⟨hn, hd4, h0, hX, hY, hV, h7, h1⟩ := hH
  have hXa := adX_rep (d := d) (code := 3 + 4 * s + 256 * k) hX
  have r1 := hXa.set (f := 1) (s := s) (v := st d 1 s + k) (x := nI (st d 1 s + k)) (17 + 2) (by omega) (by omega) (enc_n (by omega)).symm
  have hYk := kpY_rep (d := d) hn hY
  have q1 := yset hYk hn 1 s (st d 1 s + k) (nI (st d 1 s + k)) (by omega) (by omega) hs (enc_n (by omega)).symm
  refine ⟨_, _, ?_, ?_, ?_, do_end hR hL h0 hn (by omega) hd (code := 3 + 4 * s + 256 * k) r1 (fun c hc2 => by rw [wI_nk (by omega)]) rfl (Or.inr (Or.inr (Or.inr ⟨s, k, hs, hk, rfl, fun g t _ => rfl⟩))) ((Aft.refl _).w (off_b (f := 1) (by omega) (by omega) (by omega)).1 (off_b (f := 1) (by omega) (by omega) (by omega)).2) q1 (V_given hV hs hk)⟩
  · rw [p1_doGive, show p0_add (17 + 7) 3 (nI s) 0 (nI k) 0 MX = _ from add_X (a1 := 3) (a3 := 0) (a5 := 0) h7 hd (by omega) (by omega) (by omega) (by omega) (by omega), bv_s, show wI (wI MX (17 + 7 + 1) d (nI (3 + 4 * s + 32 * 0 + 256 * k + 32768 * 0))) (17 + 7) 1 (nI (d + 1)) = adX MX d (3 + 4 * s + 256 * k) from rfl, gd_of (bIn_nI (by omega) (by decide)), nI_clamp (by omega), (hXa.2 s hs).2.1, nI_add, lt_v]
  · have i1 := ix1 (s := s) (by omega)
    have hy := hYk s hs
    simp only [Nat.zero_add] at hy
    rw [p6_doGive, keepPast_Y h1 hd, bv_s, gd_of i1.1, i1.2, hy.2.1, nI_add, lt_v, wI_k, if_pos rfl]
    rfl
  · rw [wI_k, if_pos rfl]
/-- tickets aged up to i -/
def agedI (σ : LV) (i : Nat) : LV := fun g t => if g = 5 ∧ t < i ∧ 0 < σ 3 t then σ 5 t + 1 else σ g t
theorem agedI_0 (σ : LV) : agedI σ 0 = σ := by
  funext g t
  exact if_neg (fun z => absurd z.2.1 (Nat.not_lt_zero t))
theorem agedI_y {σ : LV} {i : Nat} (h : 0 < σ 3 i) : setF (agedI σ i) 5 i (σ 5 i + 1) = agedI σ (i + 1) := by
  funext g t
  unfold setF agedI
  by_cases c : g = 5 ∧ t = i
  · rw [if_pos c, if_pos ⟨c.1, by omega, by rw [c.2]; exact h⟩, c.2]
  · rw [if_neg c]
    by_cases c2 : g = 5 ∧ t < i ∧ 0 < σ 3 t
    · rw [if_pos c2, if_pos ⟨c2.1, by omega, c2.2.2⟩]
    · rw [if_neg c2, if_neg (fun z => c2 ⟨z.1, by have := z.2.1; have : ¬ t = i := fun w => c ⟨z.1, w⟩; omega, z.2.2⟩)]
theorem agedI_n {σ : LV} {i : Nat} (h : ¬ 0 < σ 3 i) : agedI σ i = agedI σ (i + 1) := by
  funext g t
  unfold agedI
  by_cases c2 : g = 5 ∧ t < i ∧ 0 < σ 3 t
  · rw [if_pos c2, if_pos ⟨c2.1, by omega, c2.2.2⟩]
  · rw [if_neg c2, if_neg (fun z => c2 ⟨z.1, by have := z.2.1; have : ¬ t = i := fun w => h (by rw [← w]; exact z.2.2); omega, z.2.2⟩)]
theorem agedI_all {σ : LV} {n : Nat} : ∀ g t, t < n → aged σ g t = agedI σ n g t := fun g t ht => by
  unfold aged agedI
  by_cases c : g = 5 ∧ 0 < σ 3 t
  · rw [if_pos c, if_pos ⟨c.1, ht, c.2⟩]
  · rw [if_neg c, if_neg (fun z => c ⟨z.1, z.2.2⟩)]
theorem agedI_V {σ : LV} {n d i : Nat} (hV : Valid n d σ) : Valid n (d + 1) (agedI σ i) := by
  refine ⟨?_, fun t ht => ?_⟩
  · have e : tot n (agedI σ i 1) = tot n (σ 1) := tot_eq (fun k hk => by simp [agedI])
    have := hV.1
    rw [e]
    omega
  · have g := hV.2 t ht
    by_cases e : t < i ∧ 0 < σ 3 t
    · simp [agedI, e] at g ⊢
      exact ⟨g.1, g.2.1, g.2.2.1, g.2.2.2.1, g.2.2.2.2.1, g.2.2.2.2.2.1, fun z => by omega, g.2.2.2.2.2.2.2⟩
    · simp [agedI, e] at g ⊢
      exact ⟨g.1, g.2.1, g.2.2.1, g.2.2.2.1, g.2.2.2.2.1, by omega, g.2.2.2.2.2.2⟩
theorem agedI_3 (σ : LV) (i t : Nat) : agedI σ i 3 t = σ 3 t := if_neg (fun z => by omega)
theorem agedI_5 (σ : LV) (i : Nat) : agedI σ i 5 i = σ 5 i := if_neg (fun z => by omega)
theorem do_week (hR : Rel MX MY) (hL : LaneAt 17 0 MX MY n d st) (hH : Here MX MY n d (st d)) (hd : d < 40) (hn0 : 0 < n) : ∃ MX' MY', p1_doWeek 17 MX = some MX' ∧ p6_doWeek MY = some MY' ∧ Rel MX' MY' ∧ MX'.1 (17 + 7) 1 = nI (d + 1) := by
  obtain ⟨hn, hd4, h0, hX, hY, hV, h7, h1⟩ := hH
  have hXa := adX_rep (d := d) (code := 2) hX
  have hYk := kpY_rep (d := d) hn hY
  have X1 : ∃ MX', p1_ageTickets 17 1 (adX MX d 2) = some MX' ∧ XRep 17 MX' n (agedI (st d) n) ∧ (∀ c, c ≠ 23 → MX'.1 c = (adX MX d 2).1 c) ∧ MX'.2 = MX.2 := by
    rw [p1_ageTickets]
    refine lp2_inv (fun _ => 1) (fun i => nI i) (fun i M => XRep 17 M n (agedI (st d) i) ∧ (∀ c, c ≠ 23 → M.1 c = (adX MX d 2).1 c) ∧ M.2 = MX.2) n (by omega) (fun x => ∃ MX', x = some MX' ∧ XRep 17 MX' n (agedI (st d) n) ∧ (∀ c, c ≠ 23 → MX'.1 c = (adX MX d 2).1 c) ∧ MX'.2 = MX.2) ?_ ?_ _ ⟨by rw [agedI_0]; exact hXa, fun _ _ => rfl, rfl⟩
    · rintro i hi M ⟨g1, g2, g3⟩ rc
      have hVi := agedI_V (i := i) hV
      by_cases c : 0 < st d 3 i
      · have r := g1.set (f := 5) (s := i) (v := st d 5 i + 1) (x := nI (st d 5 i + 1)) (17 + 6) (by omega) (by omega) (enc_n (by omega)).symm
        rw [agedI_y c] at r
        refine ⟨_, ?_, r, fun c hc => by rw [wI_nk hc]; exact g2 c hc, g3⟩
        have e6 := (g1.2 i hi).2.2.2.2.2
        rw [agedI_5] at e6
        rw [p1_ageTickets_2, g1.1, if_neg (nI_ge hi (by omega)), isPawned_X g1 hn hVi hi, bd_s, it01, agedI_3, if_pos c, gd_of (bIn_nI (by omega) (by decide)), nI_clamp (by omega), e6, nI_1, lt_v, p1_ageTickets_28, lt_v, nI_1]
      · rw [agedI_n c] at g1 hVi
        refine ⟨M, ?_, g1, g2, g3⟩
        rw [p1_ageTickets_2, g1.1, if_neg (nI_ge hi (by omega)), isPawned_X g1 hn hVi hi, bd_s, it01, agedI_3, if_neg c, p1_ageTickets_28, lt_v, nI_1]
    · rintro M ⟨g1, g2, g3⟩ rc
      rw [p1_ageTickets_2, g1.1, if_pos (Int32.le_refl _)]
      exact ⟨M, rfl, g1, g2, g3⟩
  have Y1 : ∃ MY', xlp1 p6_doWeek_6 FU 0 (kpY MY d) = some MY' ∧ YRep 0 MY' n (agedI (st d) n) ∧ Aft (kpY MY d) MY' := by
    refine lp1_inv (fun i => nI i) (fun i M => YRep 0 M n (agedI (st d) i) ∧ Aft (kpY MY d) M) n (by omega) (fun x => ∃ MY', x = some MY' ∧ YRep 0 MY' n (agedI (st d) n) ∧ Aft (kpY MY d) MY') ?_ ?_ _ ⟨by rw [agedI_0]; exact hYk, Aft.refl _⟩
    · rintro i hi M ⟨g1, g2⟩ rc
      have hVi := agedI_V (i := i) hV
      have i19 := ix19 (s := i) (by omega)
      have e0 : M.1 0 1 = nI n := by rw [g2.1 0 (by omega), kpY_nk (by omega)]; exact h0
      have e6 := (g1 i hi).2.2.2.2.2
      rw [Nat.zero_add, agedI_5] at e6
      have hw := (hV.2 i hi).2.2.2.2.2.1
      by_cases c : 0 < st d 3 i
      · have r := yset g1 hn 5 i (st d 5 i + 1) (nI (st d 5 i + 1)) (by omega) (by omega) hi (enc_n (by omega)).symm
        rw [agedI_y c] at r
        refine ⟨_, ?_, r, g2.w (off_b (f := 5) (by omega) (by omega) (by omega)).1 (off_b (f := 5) (by omega) (by omega) (by omega)).2⟩
        rw [p6_doWeek_6, e0, if_neg (nI_ge hi (by omega)), gd_of i19.1, isPawned_Y g1 hn hVi hi, bd_s, it01, agedI_3, if_pos c, i19.2, e6, if_neg (show ¬ (99 : Int32) ≤ nI (st d 5 i) from nI_ge (b := 99) (by omega) (by omega)), p6_doWeek_51, gd_of i19.1, i19.2, lt_v, lt_v, nI_1, nI_1]
        rfl
      · rw [agedI_n c] at g1 hVi
        refine ⟨M, ?_, g1, g2⟩
        rw [p6_doWeek_6, e0, if_neg (nI_ge hi (by omega)), gd_of i19.1, isPawned_Y g1 hn hVi hi, bd_s, it01, agedI_3, if_neg c, i19.2, p6_doWeek_50, p6_doWeek_51, gd_of i19.1, i19.2, lt_v, lt_v, nI_1]
        have : M.1 1 (19 + i) + 0 = M.1 1 (19 + i) := Int32.add_zero _
        rw [this, wI_id]
    · rintro M ⟨g1, g2⟩ rc
      have e0 : M.1 0 1 = nI n := by rw [g2.1 0 (by omega), kpY_nk (by omega)]; exact h0
      rw [p6_doWeek_6, e0, if_pos (Int32.le_refl _)]
      exact ⟨M, rfl, g1, g2⟩
  obtain ⟨MX', eX, rX, kX, jX⟩ := X1
  obtain ⟨MY', eY, rY, aY⟩ := Y1
  refine ⟨MX', MY', ?_, ?_, do_end hR hL h0 hn hn0 hd (code := 2) (rX.congr agedI_all) (fun c hc => kX c (by omega)) jX (Or.inr (Or.inr (Or.inl ⟨rfl, fun g t _ => rfl⟩))) aY (rY.congr agedI_all) (V_aged hV)⟩
  · rw [p1_doWeek, show p0_add (17 + 7) 2 0 0 0 0 MX = _ from add_X (a1 := 2) (a2 := 0) (a3 := 0) (a4 := 0) (a5 := 0) h7 hd (by omega) (by omega) (by omega) (by omega) (by omega), bv_s, show wI (wI MX (17 + 7 + 1) d (nI (2 + 4 * 0 + 32 * 0 + 256 * 0 + 32768 * 0))) (17 + 7) 1 (nI (d + 1)) = adX MX d 2 from rfl, eX, bv_s]
  · rw [p6_doWeek, keepPast_Y h1 hd, bv_s, eY]
end Dd
