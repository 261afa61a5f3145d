/-! what a deed does to a lane -/
theorem tot_set {σ : LV} {s v : Nat} : ∀ {n : Nat}, s < n → tot n (setF σ 1 s v 1) + σ 1 s = tot n (σ 1) + v
  | 0, h => absurd h (Nat.not_lt_zero s)
  | n + 1, h => by
    show tot n (setF σ 1 s v 1) + setF σ 1 s v 1 n + σ 1 s = tot n (σ 1) + σ 1 n + v
    by_cases e : s = n
    · subst e
      have e2 : tot s (setF σ 1 s v 1) = tot s (σ 1) := tot_eq (fun k hk => setF_n σ (fun z => by omega))
      rw [e2, setF_s]
      omega
    · have ih := tot_set (σ := σ) (v := v) (n := n) (show s < n by omega)
      rw [setF_n σ (fun z => e z.2.symm)]
      omega
theorem V_redeemed {n d : Nat} {σ : LV} (hV : Valid n d σ) {s h : Nat} (hs : s < n) (hh : h < n) (hc : due σ s 0 ≤ σ 1 s) : Valid n (d + 1) (redeemed σ s h) := by
  refine ⟨?_, fun t ht => ?_⟩
  · have e : tot n (redeemed σ s h 1) = tot n (setF (setF σ 1 s (σ 1 s - due σ s 0)) 1 h (setF σ 1 s (σ 1 s - due σ s 0) 1 h + due σ s 0) 1) := tot_eq (fun k hk => by simp [redeemed, noTk, setF])
    have e1 := tot_set (σ := σ) (v := σ 1 s - due σ s 0) hs
    have e2 := tot_set (σ := setF σ 1 s (σ 1 s - due σ s 0)) (v := setF σ 1 s (σ 1 s - due σ s 0) 1 h + due σ s 0) hh
    have := hV.1
    rw [e]
    omega
  · have g := hV.2 t ht
    by_cases e : t = s
    · simp [redeemed, noTk, setF, e] at g ⊢
      exact ⟨g.1, g.2.1⟩
    · simp [redeemed, noTk, setF, e] at g ⊢
      exact ⟨g.1, g.2.1, g.2.2.1, g.2.2.2.1, g.2.2.2.2.1, by omega, g.2.2.2.2.2.2⟩
theorem V_pawned {n d : Nat} {σ : LV} (hV : Valid n d σ) {s h k : Nat} (hs : s < n) (hh : h < n) (hne : s ≠ h) (h1 : 1 ≤ k) (h9 : k ≤ 9) (hc : k ≤ σ 1 h) : Valid n (d + 1) (pawned σ s h k) := by
  refine ⟨?_, fun t ht => ?_⟩
  · have e : tot n (pawned σ s h k 1) = tot n (setF (setF σ 1 h (σ 1 h - k)) 1 s (setF σ 1 h (σ 1 h - k) 1 s + k) 1) := tot_eq (fun k hk => by simp [pawned, setF])
    have e1 := tot_set (σ := σ) (v := σ 1 h - k) hh
    have e2 := tot_set (σ := setF σ 1 h (σ 1 h - k)) (v := setF σ 1 h (σ 1 h - k) 1 s + k) hs
    have := hV.1
    rw [e]
    omega
  · have g := hV.2 t ht
    by_cases e : t = s
    · simp [pawned, setF, e] at g ⊢
      exact ⟨g.1, g.2.1, hh, fun z => hne z.symm, h9, h1⟩
    · simp [pawned, setF, e] at g ⊢
      exact ⟨g.1, g.2.1, g.2.2.1, g.2.2.2.1, g.2.2.2.2.1, by omega, g.2.2.2.2.2.2⟩
theorem V_aged {n d : Nat} {σ : LV} (hV : Valid n d σ) : Valid n (d + 1) (aged σ) := by
  refine ⟨?_, fun t ht => ?_⟩
  · have e : tot n (aged σ 1) = tot n (σ 1) := tot_eq (fun k hk => by simp [aged])
    have := hV.1
    rw [e]
    omega
  · have g := hV.2 t ht
    by_cases e : 0 < σ 3 t
    · simp [aged, e] at g ⊢
      exact ⟨g.1, g.2.1, g.2.2.1, g.2.2.2.1, g.2.2.2.2.1, g.2.2.2.2.2.1, fun z => by omega, g.2.2.2.2.2.2.2⟩
    · simp [aged, e] at g ⊢
      exact ⟨g.1, g.2.1, g.2.2.1, g.2.2.2.1, g.2.2.2.2.1, by omega, g.2.2.2.2.2.2⟩
theorem V_given {n d : Nat} {σ : LV} (hV : Valid n d σ) {s v : Nat} (hs : s < n) (hv0 : v ≤ 99) : Valid n (d + 1) (given σ s v) := by
  refine ⟨?_, fun t ht => ?_⟩
  · have e1 := tot_set (σ := σ) (v := σ 1 s + v) hs
    have := hV.1
    show tot n (setF σ 1 s (σ 1 s + v) 1) ≤ _
    omega
  · have g := hV.2 t ht
    simp [given, setF] at g ⊢
    exact ⟨g.1, g.2.1, g.2.2.1, g.2.2.2.1, g.2.2.2.2.1, by omega, g.2.2.2.2.2.2⟩
/-! the object's side, one place after another -/
theorem pay_X {b n : Nat} {M : SX} {σ : LV} (hX : XRep b M n σ) (hn : n ≤ 6) {s h k : Nat} (hs : s < n) (hh : h < n) (hk : k ≤ σ 1 s) : ∃ M', p1_pay b (nI s) (nI h) (nI k) M = some M' ∧ XRep b M' n (setF (setF σ 1 s (σ 1 s - k)) 1 h (setF σ 1 s (σ 1 s - k) 1 h + k)) ∧ (∀ c, c ≠ b + 2 → M'.1 c = M.1 c) ∧ M'.2 = M.2 := by
  have h1 := hX.set (f := 1) (s := s) (v := σ 1 s - k) (x := nI (σ 1 s - k)) (b + 2) (by omega) (by omega) (enc_n (by omega)).symm
  have h2 := h1.set (f := 1) (s := h) (v := setF σ 1 s (σ 1 s - k) 1 h + k) (x := nI (setF σ 1 s (σ 1 s - k) 1 h + k)) (b + 2) (by omega) (by omega) (enc_n (by omega)).symm
  refine ⟨_, ?_, h2, fun c hc => by rw [wI_nk hc, wI_nk hc], rfl⟩
  rw [p1_pay, gd_of (bIn_nI (by omega) (by decide)), nI_clamp (by omega), (hX.2 s hs).2.1, pk_sub hk, lt_v, gd_of (bIn_nI (by omega) (by decide)), nI_clamp (by omega), (h1.2 h hh).2.1, nI_add, lt_v]
theorem setTicket_X {b n : Nat} {M : SX} {σ : LV} (hX : XRep b M n σ) (hn : n ≤ 6) {s h l w : Nat} (hs : s < n) {hx : Int32} (ehx : hx = hv h) : ∃ M', p1_setTicket b (nI s) hx (nI l) (nI w) M = some M' ∧ XRep b M' n (setF (setF (setF σ 3 s h) 4 s l) 5 s w) ∧ (∀ c, c ≠ b + 4 → c ≠ b + 5 → c ≠ b + 6 → M'.1 c = M.1 c) ∧ M'.2 = M.2 := by
  subst ehx
  have h1 := hX.set (f := 3) (s := s) (v := h) (x := hv h) (b + 4) (by omega) (by omega) enc_3.symm
  have h2 := h1.set (f := 4) (s := s) (v := l) (x := nI l) (b + 5) (by omega) (by omega) (enc_n (by omega)).symm
  have h3 := h2.set (f := 5) (s := s) (v := w) (x := nI w) (b + 6) (by omega) (by omega) (enc_n (by omega)).symm
  refine ⟨_, ?_, h3, fun c c1 c2 c3 => by rw [wI_nk c3, wI_nk c2, wI_nk c1], rfl⟩
  rw [p1_setTicket, gd_of (bIn_nI (by omega) (by decide)), nI_clamp (by omega), lt_v, lt_v, lt_v]
theorem removeTicket_X {b n : Nat} {M : SX} {σ : LV} (hX : XRep b M n σ) (hn : n ≤ 6) {s : Nat} (hs : s < n) : ∃ M', p1_removeTicket b (nI s) M = some M' ∧ XRep b M' n (noTk σ s) ∧ (∀ c, c ≠ b + 4 → c ≠ b + 5 → c ≠ b + 6 → M'.1 c = M.1 c) ∧ M'.2 = M.2 := by
  obtain ⟨M', e, h⟩ := setTicket_X hX hn (s := s) (h := 0) (l := 0) (w := 0) hs (hx := -9) rfl
  exact ⟨M', by rw [p1_removeTicket, show p1_setTicket b (nI s) (-9) 0 0 M = some M' from e, bv_s], h⟩
/-- a deed written down -/
def adX (M : SX) (d code : Nat) : SX := wI (wI M (17 + 7 + 1) d (nI code)) (17 + 7) 1 (nI (d + 1))
theorem adX_lo {M : SX} {d code c : Nat} (h : c ≠ 24) (h2 : c ≠ 25) : (adX M d code).1 c = M.1 c := by
  unfold adX
  rw [wI_nk (by omega), wI_nk (by omega)]
theorem adX_rep {M : SX} {n d code : Nat} {σ : LV} (h : XRep 17 M n σ) : XRep 17 (adX M d code) n σ := by
  rw [XRep_i] at *
  refine ⟨by rw [adX_lo (by omega) (by omega)]; exact h.1, fun f hf s hs => by rw [adX_lo (by omega) (by omega)]; exact h.2 f hf s hs⟩
theorem adX_7 {M : SX} {d code : Nat} : (adX M d code).1 24 1 = nI (d + 1) := by
  unfold adX
  rw [wI_k, if_pos rfl]
theorem adX_8 {M : SX} {d code i : Nat} : (adX M d code).1 25 i = if i = d then nI code else M.1 25 i := by
  unfold adX
  rw [wI_nk (by decide), wI_k]
