/-! plain rows of the pure side -/
theorem bd_s {α β : Type} {a : α} {M : SX} {f : α → SX → Option β} : bd (some (a, M)) f = f a M := rfl
theorem bv_s {β : Type} {M : SX} {f : SX → Option β} : bv (some M) f = f M := rfl
theorem gd_of {α : Type} {b : Bool} {x : Option α} (h : b = true) : gd b x = x := by rw [gd, if_pos h]
theorem lt_v {α β : Type} {x : α} {f : α → β} : lt_ x f = f x := rfl
theorem bIn_nI {i n : Nat} (h : i < n) (hn : n < 2 ^ 31) : bIn (nI i) n = true := by
  simp only [bIn, decide_eq_true_eq]
  exact ⟨nI_pos' (by omega), by rw [nI_clamp (by omega)]; exact h⟩
theorem wI_1 (M : SX) (a j : Nat) (v : Int32) (k : Nat) : (wI M a j v).1 k = if k = a then upd (M.1 a) j v else M.1 k := rfl
theorem wI_2 (M : SX) (a j : Nat) (v : Int32) : (wI M a j v).2 = M.2 := rfl
theorem wR_1 (M : SX) (a : Nat) (f : Nat → Int32) (k : Nat) : (wR M a f).1 k = if k = a then f else M.1 k := rfl
theorem wR_2 (M : SX) (a : Nat) (f : Nat → Int32) : (wR M a f).2 = M.2 := rfl
theorem wJ_1 (M : SX) (a j : Nat) (v : Int64) : (wJ M a j v).1 = M.1 := rfl
theorem wJ_2 (M : SX) (a j : Nat) (v : Int64) (k : Nat) : (wJ M a j v).2 k = if k = a then vp_updL (M.2 a) j v else M.2 k := rfl
theorem wI_nk {M : SX} {a j : Nat} {v : Int32} {k : Nat} (h : k ≠ a) : (wI M a j v).1 k = M.1 k := by rw [wI_1, if_neg h]
theorem wI_k {M : SX} {a j : Nat} {v : Int32} {i : Nat} : (wI M a j v).1 a i = if i = j then v else M.1 a i := by rw [wI_1, if_pos rfl]; rfl
theorem wR_nk {M : SX} {a : Nat} {f : Nat → Int32} {k : Nat} (h : k ≠ a) : (wR M a f).1 k = M.1 k := by rw [wR_1, if_neg h]
theorem nI_nm1 {k : Nat} (h : k < 2 ^ 31) : ¬ nI k = -1 := by
  intro e
  have h1 := congrArg Int32.toInt e
  rw [nI_toInt h] at h1
  have h2 : (-1 : Int32).toInt = -1 := rfl
  omega
theorem nI_nm9 {k : Nat} (h : k < 2 ^ 31) : ¬ nI k = -9 := by
  intro e
  have h1 := congrArg Int32.toInt e
  rw [nI_toInt h] at h1
  have h2 : (-9 : Int32).toInt = -9 := rfl
  omega
theorem pj_bIn {a : Int32} {n : Nat} (h : bIn a n = true) (hn : n < 2 ^ 31) : ∃ j, j < n ∧ a = nI j := vp_in_of (bIn_vp h) hn
/-- any number: below nought, at least n, or one of 0 .. n - 1 -/
theorem ix3 (a : Int32) (n : Nat) (hn : n < 2 ^ 31) : a < 0 ∨ nI n ≤ a ∨ ∃ j, j < n ∧ a = nI j := pk_ix a hn
/-! what each part of the relation hangs on -/
theorem RowRel.to {MX MY MX' MY' : SX} (h : RowRel MX MY) (h1 : MX'.1 1 = MX.1 1) (h2 : MX'.1 2 = MX.1 2) (h3 : MX'.1 3 = MX.1 3) (h4 : MY'.1 3 = MY.1 3) (h5 : MY'.1 4 = MY.1 4) : RowRel MX' MY' := by
  unfold RowRel at *
  rw [h1, h2, h3, h4, h5]
  exact h
theorem TxtRel.to {MX MY MX' MY' : SX} (h : TxtRel MX MY) (h1 : MX'.1 4 = MX.1 4) (h2 : MX'.1 5 = MX.1 5) (h3 : MX'.1 6 = MX.1 6) (h4 : MY'.1 5 = MY.1 5) (h5 : MY'.1 6 = MY.1 6) : TxtRel MX' MY' := by
  unfold TxtRel at *
  rw [h1, h2, h3, h4, h5]
  exact h
theorem TellRel.to {MX MY MX' MY' : SX} (h : TellRel MX MY) (h1 : MX'.1 0 8 = MX.1 0 8) (h2 : MX'.1 0 7 = MX.1 0 7) (h3 : MX'.2 0 = MX.2 0) (h4 : MX'.1 59 = MX.1 59) (h5 : MY'.1 0 7 = MY.1 0 7) (h6 : MY'.1 0 10 = MY.1 0 10) (h7 : MY'.2 0 = MY.2 0) (h8 : MY'.1 7 = MY.1 7) : TellRel MX' MY' := by
  unfold TellRel at *
  rw [h1, h2, h3, h4, h5, h6, h7, h8]
  exact h
theorem XRep.to {b : Nat} {M M' : SX} {n : Nat} {σ : LV} (h : XRep b M n σ) (hk : ∀ k, b ≤ k → k < b + 9 → M'.1 k = M.1 k) : XRep b M' n σ := by
  unfold XRep at *
  rw [hk b (by omega) (by omega), hk (b + 1) (by omega) (by omega), hk (b + 2) (by omega) (by omega), hk (b + 3) (by omega) (by omega), hk (b + 4) (by omega) (by omega), hk (b + 5) (by omega) (by omega), hk (b + 6) (by omega) (by omega)]
  exact h
theorem LaneAt.to {b o : Nat} {MX MY MX' MY' : SX} {n d : Nat} {st : Nat → LV} (h : LaneAt b o MX MY n d st) (hk : ∀ k, b ≤ k → k < b + 9 → MX'.1 k = MX.1 k) (h1 : MY'.1 1 = MY.1 1) (h2 : MY'.1 2 = MY.1 2) : LaneAt b o MX' MY' n d st := by
  obtain ⟨g1, g2, g3, g4, g5, g6, g7⟩ := h
  refine ⟨g1, g2.to hk, ?_, ?_, ?_, ?_, g7⟩
  · rw [hk (b + 7) (by omega) (by omega)]; exact g3
  · unfold YRep at *; rw [h1, h2]; exact g4
  · rw [h1]; exact g5
  · intro i hi
    unfold YSnap at *
    rw [h1, hk (b + 8) (by omega) (by omega)]
    exact g6 i hi
theorem LaneRel.to {MX MY MX' MY' : SX} (h : LaneRel MX MY) (hk : ∀ k, 17 ≤ k → k < 54 → MX'.1 k = MX.1 k) (h0 : MY'.1 0 1 = MY.1 0 1) (h1 : MY'.1 1 = MY.1 1) (h2 : MY'.1 2 = MY.1 2) : LaneRel MX' MY' := by
  obtain ⟨n, hn, h3, ⟨d, st, hd, hl⟩, hkp⟩ := h
  refine ⟨n, hn, by rw [h0]; exact h3, ⟨d, st, hd, hl.to (fun k a b => hk k (by omega) (by omega)) h1 h2⟩, fun k hk3 => ?_⟩
  rcases hkp k hk3 with ⟨a, b⟩ | ⟨a, d, st, hl⟩
  · refine Or.inl ⟨?_, by rw [h1]; exact b⟩
    rw [hk (27 + 9 * k) (by omega) (by omega)]; exact a
  · exact Or.inr ⟨a, d, st, hl.to (fun j a b => hk j (by omega) (by omega)) h1 h2⟩
/-! findings -/
def fX (a : Int32) (M : SX) : SX := wI (wI M 0 7 a) 59 a.toNatClampNeg (M.1 59 a.toNatClampNeg + 1)
def fY (a : Int32) (M : SX) : SX := wI (wI M 0 10 a) 7 a.toNatClampNeg (M.1 7 a.toNatClampNeg + 1)
theorem found_X (a : Int32) (h : bIn a 6 = true) (M : SX) : p5_found a M = some (-3, fX a M) := by
  unfold p5_found
  rw [lt_v, gd_of h, lt_v, wI_nk (by decide : (59 : Nat) ≠ 0)]
  rfl
theorem find_Y (a : Int32) (h : bIn a 6 = true) (M : SX) : p6_find a M = some (-3, fY a M) := by
  unfold p6_find
  rw [lt_v, gd_of h, lt_v, wI_nk (by decide : (7 : Nat) ≠ 0)]
  rfl
theorem rel_found (a : Int32) {MX MY : SX} (h : bIn a 6 = true) (hR : Rel MX MY) : Rel (fX a MX) (fY a MY) := by
  obtain ⟨hr, ht, hl, hn⟩ := hR
  have nk : ∀ k, k ≠ 0 → k ≠ 59 → (fX a MX).1 k = MX.1 k := fun k h1 h2 => by unfold fX; rw [wI_nk h2, wI_nk h1]
  have nk2 : ∀ k, k ≠ 0 → k ≠ 7 → (fY a MY).1 k = MY.1 k := fun k h1 h2 => by unfold fY; rw [wI_nk h2, wI_nk h1]
  refine ⟨hr.to (nk 1 (by decide) (by decide)) (nk 2 (by decide) (by decide)) (nk 3 (by decide) (by decide)) (nk2 3 (by decide) (by decide)) (nk2 4 (by decide) (by decide)), ht.to (nk 4 (by decide) (by decide)) (nk 5 (by decide) (by decide)) (nk 6 (by decide) (by decide)) (nk2 5 (by decide) (by decide)) (nk2 6 (by decide) (by decide)), ?_, hn.to (fun k h1 h2 => nk k (by omega) (by omega)) (by unfold fY; rw [wI_nk (by decide), wI_k, if_neg (by decide)]) (nk2 1 (by decide) (by decide)) (nk2 2 (by decide) (by decide))⟩
  obtain ⟨g1, g2, g3, g4, g5⟩ := hl
  refine ⟨?_, ?_, g3, g4, fun f hf => ?_⟩
  · simp [fX, fY, wI_1, upd]; exact g1
  · simp [fX, fY, wI_1, upd]
  · unfold fX fY
    rw [wI_k, wI_k]
    by_cases e : f = a.toNatClampNeg
    · subst e
      rw [if_pos rfl, if_pos rfl, g5 _ hf]
    · rw [if_neg e, if_neg e, wI_nk (by decide), wI_nk (by decide)]
      exact g5 f hf
theorem ag_findg (a : Int32) {MX MY : SX} (h : bIn a 6 = true) (hR : Rel MX MY) : Ag (some (-3, fX a MX)) (some (-3, fY a MY)) := ⟨-3, _, _, rfl, rfl, rel_found a h hR⟩
/-! what is told alone -/
theorem ag_asked (MX MY : SX) (hR : Rel MX MY) : Ag (p5_asked MX) (p6_asked MY) := ⟨_, _, _, rfl, by unfold p6_asked; rw [← hR.2.2.1.1], hR⟩
theorem ag_upper (MX MY : SX) (hR : Rel MX MY) : AgL (p5_upper MX) (p6_upper MY) := ⟨_, _, _, rfl, by unfold p6_upper; rw [← hR.2.2.1.2.2.1], hR⟩
theorem ag_lower (MX MY : SX) (hR : Rel MX MY) : AgL (p5_lower MX) (p6_lower MY) := ⟨_, _, _, rfl, by unfold p6_lower; rw [← hR.2.2.1.2.2.2.1], hR⟩
theorem ag_finding (MX MY : SX) (hR : Rel MX MY) : Ag (p5_finding MX) (p6_finding MY) := ⟨_, _, _, rfl, by unfold p6_finding; rw [← hR.2.2.1.2.1], hR⟩
theorem in_Y (a b c : Int64) (M : SX) : p6_in a b c M = some (if b ≤ a ∧ a ≤ c then 1 else 0, M) := by
  unfold p6_in
  by_cases h1 : a < b
  · rw [if_pos h1, if_neg (fun h => absurd h.1 (Int64.not_le.mpr h1))]
  · rw [if_neg h1]
    by_cases h2 : c < a
    · rw [if_pos h2, if_neg (fun h => absurd h.2 (Int64.not_le.mpr h2))]
    · rw [if_neg h2, if_pos ⟨Int64.not_lt.mp h1, Int64.not_lt.mp h2⟩]
/-- between two small numbers, asked in longs -/
theorem in_YI (a : Int32) (b c : Int32) (M : SX) : p6_in a.toInt64 b.toInt64 c.toInt64 M = some (if b ≤ a ∧ a ≤ c then 1 else 0, M) := by
  rw [in_Y]
  have e : (b.toInt64 ≤ a.toInt64 ∧ a.toInt64 ≤ c.toInt64) ↔ (b ≤ a ∧ a ≤ c) := by
    simp only [Int64.le_iff_toInt_le, Int32.le_iff_toInt_le, Int32.toInt_toInt64]
  by_cases h : b ≤ a ∧ a ≤ c
  · rw [if_pos (e.mpr h), if_pos h]
  · rw [if_neg (fun z => h (e.mp z)), if_neg h]
theorem isB_01 (c : Prop) [Decidable c] : isB (if c then 1 else 0) = true := by
  by_cases h : c <;> simp [h, isB]
theorem isRow_Y (a : Int32) (M : SX) : p6_isRow a M = some (if 0 ≤ a ∧ a ≤ 5 then 1 else 0, M) := by
  unfold p6_isRow
  rw [show p6_in a.toInt64 0 5 M = _ from in_YI a 0 5 M, bd_s, gd_of (isB_01 _)]
theorem isText_Y (a : Int32) (M : SX) : p6_isText a M = some (if 0 ≤ a ∧ a ≤ 3 then 1 else 0, M) := by
  unfold p6_isText
  rw [show p6_in a.toInt64 0 3 M = _ from in_YI a 0 3 M, bd_s, gd_of (isB_01 _)]
theorem isNumber_X (b : Nat) (hb : isS b) (a : Int32) (M : SX) : p4_isNumber b a M = some (if 0 ≤ a ∧ a < nI (szS b) then 1 else 0, M) := by
  unfold p4_isNumber
  by_cases h1 : a < 0
  · rw [if_pos h1, if_neg (fun h => absurd h.1 (Int32.not_le.mpr h1))]
  · rw [if_neg h1]
    by_cases h2 : Int32.ofNat (szS b) ≤ a
    · rw [if_pos h2, if_neg (fun h => absurd h.2 (Int32.not_lt.mpr h2))]
    · rw [if_neg h2, if_pos ⟨Int32.not_lt.mp h1, Int32.not_le.mp h2⟩]
theorem it01 {c : Prop} [Decidable c] {α : Type} {A B : α} : (if (if c then (1 : Int32) else 0) = 0 then A else B) = (if c then B else A) := by
  by_cases h : c
  · rw [if_pos h, if_pos h, if_neg (by decide)]
  · rw [if_neg h, if_neg h, if_pos rfl]
theorem ag_findings (a1 : Int32) (MX MY : SX) (hR : Rel MX MY) : Ag (p5_findings a1 MX) (p6_findings a1 MY) := by
  unfold p5_findings p6_findings
  rw [show p6_in a1.toInt64 1 5 MY = _ from in_YI a1 1 5 MY, bd_s, it01]
  by_cases h1 : a1 < 1
  · rw [if_pos h1, if_neg (fun h => absurd h.1 (Int32.not_le.mpr h1))]
    exact ⟨_, _, _, rfl, rfl, hR⟩
  · rw [if_neg h1]
    by_cases h2 : 5 < a1
    · rw [if_pos h2, if_neg (fun h => absurd h.2 (Int32.not_le.mpr h2))]
      exact ⟨_, _, _, rfl, rfl, hR⟩
    · rw [if_neg h2, if_pos ⟨Int32.not_lt.mp h1, Int32.not_lt.mp h2⟩]
      rcases ix3 a1 6 (by decide) with h | h | ⟨j, hj, rfl⟩
      · exact absurd (Int32.lt_trans h (by decide)) h1
      · exact absurd (Int32.lt_of_lt_of_le (by decide) h) h2
      · rw [gd_of (bIn_nI hj (by decide)), gd_of (bIn_nI hj (by decide))]
        refine ⟨_, _, _, rfl, ?_, hR⟩
        rw [nI_clamp (by omega), hR.2.2.1.2.2.2.2 j hj]
