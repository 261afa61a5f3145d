/-! loops, by what holds at each turn -/
theorem lp0_inv {β : Type} {body : (SX → Option β) → SX → Option β}  (I : Nat → SX → Prop) (n : Nat) (hn : n < 2000) (Q : Option β → Prop) (hs : ∀ i, i < n → ∀ M, I i M → ∀ rc, ∃ M', body rc M = rc M' ∧ I (i + 1) M') (he : ∀ M, I n M → ∀ rc, Q (body rc M)) (M : SX) (h0 : I 0 M) : Q (xlp0 body FU M) := by
  have key : ∀ k i M, i ≤ n → n - i < k → I i M → Q (xlp0 body k M) := by
    intro k
    induction k with
    | zero => intro i M _ h; omega
    | succ k ih =>
      intro i M hi hk hI
      show Q (body (xlp0 body k) M)
      by_cases hc : i = n
      · subst hc
        exact he M hI _
      · obtain ⟨M', e, hI'⟩ := hs i (by omega) M hI (xlp0 body k)
        rw [e]
        exact ih (i + 1) M' (by omega) (by omega) hI'
  exact key FU 0 M (Nat.zero_le _) (by unfold FU; omega) h0
theorem lp1_inv {A β : Type} {body : (A → SX → Option β) → A → SX → Option β} (f1 : Nat → A) (I : Nat → SX → Prop) (n : Nat) (hn : n < 2000) (Q : Option β → Prop) (hs : ∀ i, i < n → ∀ M, I i M → ∀ rc, ∃ M', body rc (f1 i) M = rc (f1 (i + 1)) M' ∧ I (i + 1) M') (he : ∀ M, I n M → ∀ rc, Q (body rc (f1 n) M)) (M : SX) (h0 : I 0 M) : Q (xlp1 body FU (f1 0) M) := by
  have key : ∀ k i M, i ≤ n → n - i < k → I i M → Q (xlp1 body k (f1 i) M) := by
    intro k
    induction k with
    | zero => intro i M _ h; omega
    | succ k ih =>
      intro i M hi hk hI
      show Q (body (xlp1 body k) (f1 i) M)
      by_cases hc : i = n
      · subst hc
        exact he M hI _
      · obtain ⟨M', e, hI'⟩ := hs i (by omega) M hI (xlp1 body k)
        rw [e]
        exact ih (i + 1) M' (by omega) (by omega) hI'
  exact key FU 0 M (Nat.zero_le _) (by unfold FU; omega) h0
theorem lp2_inv {A B β : Type} {body : (A → B → SX → Option β) → A → B → SX → Option β} (f1 : Nat → A) (f2 : Nat → B) (I : Nat → SX → Prop) (n : Nat) (hn : n < 2000) (Q : Option β → Prop) (hs : ∀ i, i < n → ∀ M, I i M → ∀ rc, ∃ M', body rc (f1 i) (f2 i) M = rc (f1 (i + 1)) (f2 (i + 1)) M' ∧ I (i + 1) M') (he : ∀ M, I n M → ∀ rc, Q (body rc (f1 n) (f2 n) M)) (M : SX) (h0 : I 0 M) : Q (xlp2 body FU (f1 0) (f2 0) M) := by
  have key : ∀ k i M, i ≤ n → n - i < k → I i M → Q (xlp2 body k (f1 i) (f2 i) M) := by
    intro k
    induction k with
    | zero => intro i M _ h; omega
    | succ k ih =>
      intro i M hi hk hI
      show Q (body (xlp2 body k) (f1 i) (f2 i) M)
      by_cases hc : i = n
      · subst hc
        exact he M hI _
      · obtain ⟨M', e, hI'⟩ := hs i (by omega) M hI (xlp2 body k)
        rw [e]
        exact ih (i + 1) M' (by omega) (by omega) hI'
  exact key FU 0 M (Nat.zero_le _) (by unfold FU; omega) h0
theorem lp3_inv {A B C β : Type} {body : (A → B → C → SX → Option β) → A → B → C → SX → Option β} (f1 : Nat → A) (f2 : Nat → B) (f3 : Nat → C) (I : Nat → SX → Prop) (n : Nat) (hn : n < 2000) (Q : Option β → Prop) (hs : ∀ i, i < n → ∀ M, I i M → ∀ rc, ∃ M', body rc (f1 i) (f2 i) (f3 i) M = rc (f1 (i + 1)) (f2 (i + 1)) (f3 (i + 1)) M' ∧ I (i + 1) M') (he : ∀ M, I n M → ∀ rc, Q (body rc (f1 n) (f2 n) (f3 n) M)) (M : SX) (h0 : I 0 M) : Q (xlp3 body FU (f1 0) (f2 0) (f3 0) M) := by
  have key : ∀ k i M, i ≤ n → n - i < k → I i M → Q (xlp3 body k (f1 i) (f2 i) (f3 i) M) := by
    intro k
    induction k with
    | zero => intro i M _ h; omega
    | succ k ih =>
      intro i M hi hk hI
      show Q (body (xlp3 body k) (f1 i) (f2 i) (f3 i) M)
      by_cases hc : i = n
      · subst hc
        exact he M hI _
      · obtain ⟨M', e, hI'⟩ := hs i (by omega) M hI (xlp3 body k)
        rw [e]
        exact ih (i + 1) M' (by omega) (by omega) hI'
  exact key FU 0 M (Nat.zero_le _) (by unfold FU; omega) h0
theorem lp4_inv {A B C D β : Type} {body : (A → B → C → D → SX → Option β) → A → B → C → D → SX → Option β} (f1 : Nat → A) (f2 : Nat → B) (f3 : Nat → C) (f4 : Nat → D) (I : Nat → SX → Prop) (n : Nat) (hn : n < 2000) (Q : Option β → Prop) (hs : ∀ i, i < n → ∀ M, I i M → ∀ rc, ∃ M', body rc (f1 i) (f2 i) (f3 i) (f4 i) M = rc (f1 (i + 1)) (f2 (i + 1)) (f3 (i + 1)) (f4 (i + 1)) M' ∧ I (i + 1) M') (he : ∀ M, I n M → ∀ rc, Q (body rc (f1 n) (f2 n) (f3 n) (f4 n) M)) (M : SX) (h0 : I 0 M) : Q (xlp4 body FU (f1 0) (f2 0) (f3 0) (f4 0) M) := by
  have key : ∀ k i M, i ≤ n → n - i < k → I i M → Q (xlp4 body k (f1 i) (f2 i) (f3 i) (f4 i) M) := by
    intro k
    induction k with
    | zero => intro i M _ h; omega
    | succ k ih =>
      intro i M hi hk hI
      show Q (body (xlp4 body k) (f1 i) (f2 i) (f3 i) (f4 i) M)
      by_cases hc : i = n
      · subst hc
        exact he M hI _
      · obtain ⟨M', e, hI'⟩ := hs i (by omega) M hI (xlp4 body k)
        rw [e]
        exact ih (i + 1) M' (by omega) (by omega) hI'
  exact key FU 0 M (Nat.zero_le _) (by unfold FU; omega) h0
theorem lp5_inv {A B C D E β : Type} {body : (A → B → C → D → E → SX → Option β) → A → B → C → D → E → SX → Option β} (f1 : Nat → A) (f2 : Nat → B) (f3 : Nat → C) (f4 : Nat → D) (f5 : Nat → E) (I : Nat → SX → Prop) (n : Nat) (hn : n < 2000) (Q : Option β → Prop) (hs : ∀ i, i < n → ∀ M, I i M → ∀ rc, ∃ M', body rc (f1 i) (f2 i) (f3 i) (f4 i) (f5 i) M = rc (f1 (i + 1)) (f2 (i + 1)) (f3 (i + 1)) (f4 (i + 1)) (f5 (i + 1)) M' ∧ I (i + 1) M') (he : ∀ M, I n M → ∀ rc, Q (body rc (f1 n) (f2 n) (f3 n) (f4 n) (f5 n) M)) (M : SX) (h0 : I 0 M) : Q (xlp5 body FU (f1 0) (f2 0) (f3 0) (f4 0) (f5 0) M) := by
  have key : ∀ k i M, i ≤ n → n - i < k → I i M → Q (xlp5 body k (f1 i) (f2 i) (f3 i) (f4 i) (f5 i) M) := by
    intro k
    induction k with
    | zero => intro i M _ h; omega
    | succ k ih =>
      intro i M hi hk hI
      show Q (body (xlp5 body k) (f1 i) (f2 i) (f3 i) (f4 i) (f5 i) M)
      by_cases hc : i = n
      · subst hc
        exact he M hI _
      · obtain ⟨M', e, hI'⟩ := hs i (by omega) M hI (xlp5 body k)
        rw [e]
        exact ih (i + 1) M' (by omega) (by omega) hI'
  exact key FU 0 M (Nat.zero_le _) (by unfold FU; omega) h0
theorem lp6_inv {A B C D E F β : Type} {body : (A → B → C → D → E → F → SX → Option β) → A → B → C → D → E → F → SX → Option β} (f1 : Nat → A) (f2 : Nat → B) (f3 : Nat → C) (f4 : Nat → D) (f5 : Nat → E) (f6 : Nat → F) (I : Nat → SX → Prop) (n : Nat) (hn : n < 2000) (Q : Option β → Prop) (hs : ∀ i, i < n → ∀ M, I i M → ∀ rc, ∃ M', body rc (f1 i) (f2 i) (f3 i) (f4 i) (f5 i) (f6 i) M = rc (f1 (i + 1)) (f2 (i + 1)) (f3 (i + 1)) (f4 (i + 1)) (f5 (i + 1)) (f6 (i + 1)) M' ∧ I (i + 1) M') (he : ∀ M, I n M → ∀ rc, Q (body rc (f1 n) (f2 n) (f3 n) (f4 n) (f5 n) (f6 n) M)) (M : SX) (h0 : I 0 M) : Q (xlp6 body FU (f1 0) (f2 0) (f3 0) (f4 0) (f5 0) (f6 0) M) := by
  have key : ∀ k i M, i ≤ n → n - i < k → I i M → Q (xlp6 body k (f1 i) (f2 i) (f3 i) (f4 i) (f5 i) (f6 i) M) := by
    intro k
    induction k with
    | zero => intro i M _ h; omega
    | succ k ih =>
      intro i M hi hk hI
      show Q (body (xlp6 body k) (f1 i) (f2 i) (f3 i) (f4 i) (f5 i) (f6 i) M)
      by_cases hc : i = n
      · subst hc
        exact he M hI _
      · obtain ⟨M', e, hI'⟩ := hs i (by omega) M hI (xlp6 body k)
        rw [e]
        exact ih (i + 1) M' (by omega) (by omega) hI'
  exact key FU 0 M (Nat.zero_le _) (by unfold FU; omega) h0
theorem lp7_inv {A B C D E F G β : Type} {body : (A → B → C → D → E → F → G → SX → Option β) → A → B → C → D → E → F → G → SX → Option β} (f1 : Nat → A) (f2 : Nat → B) (f3 : Nat → C) (f4 : Nat → D) (f5 : Nat → E) (f6 : Nat → F) (f7 : Nat → G) (I : Nat → SX → Prop) (n : Nat) (hn : n < 2000) (Q : Option β → Prop) (hs : ∀ i, i < n → ∀ M, I i M → ∀ rc, ∃ M', body rc (f1 i) (f2 i) (f3 i) (f4 i) (f5 i) (f6 i) (f7 i) M = rc (f1 (i + 1)) (f2 (i + 1)) (f3 (i + 1)) (f4 (i + 1)) (f5 (i + 1)) (f6 (i + 1)) (f7 (i + 1)) M' ∧ I (i + 1) M') (he : ∀ M, I n M → ∀ rc, Q (body rc (f1 n) (f2 n) (f3 n) (f4 n) (f5 n) (f6 n) (f7 n) M)) (M : SX) (h0 : I 0 M) : Q (xlp7 body FU (f1 0) (f2 0) (f3 0) (f4 0) (f5 0) (f6 0) (f7 0) M) := by
  have key : ∀ k i M, i ≤ n → n - i < k → I i M → Q (xlp7 body k (f1 i) (f2 i) (f3 i) (f4 i) (f5 i) (f6 i) (f7 i) M) := by
    intro k
    induction k with
    | zero => intro i M _ h; omega
    | succ k ih =>
      intro i M hi hk hI
      show Q (body (xlp7 body k) (f1 i) (f2 i) (f3 i) (f4 i) (f5 i) (f6 i) (f7 i) M)
      by_cases hc : i = n
      · subst hc
        exact he M hI _
      · obtain ⟨M', e, hI'⟩ := hs i (by omega) M hI (xlp7 body k)
        rw [e]
        exact ih (i + 1) M' (by omega) (by omega) hI'
  exact key FU 0 M (Nat.zero_le _) (by unfold FU; omega) h0
theorem lp8_inv {A B C D E F G H β : Type} {body : (A → B → C → D → E → F → G → H → SX → Option β) → A → B → C → D → E → F → G → H → SX → Option β} (f1 : Nat → A) (f2 : Nat → B) (f3 : Nat → C) (f4 : Nat → D) (f5 : Nat → E) (f6 : Nat → F) (f7 : Nat → G) (f8 : Nat → H) (I : Nat → SX → Prop) (n : Nat) (hn : n < 2000) (Q : Option β → Prop) (hs : ∀ i, i < n → ∀ M, I i M → ∀ rc, ∃ M', body rc (f1 i) (f2 i) (f3 i) (f4 i) (f5 i) (f6 i) (f7 i) (f8 i) M = rc (f1 (i + 1)) (f2 (i + 1)) (f3 (i + 1)) (f4 (i + 1)) (f5 (i + 1)) (f6 (i + 1)) (f7 (i + 1)) (f8 (i + 1)) M' ∧ I (i + 1) M') (he : ∀ M, I n M → ∀ rc, Q (body rc (f1 n) (f2 n) (f3 n) (f4 n) (f5 n) (f6 n) (f7 n) (f8 n) M)) (M : SX) (h0 : I 0 M) : Q (xlp8 body FU (f1 0) (f2 0) (f3 0) (f4 0) (f5 0) (f6 0) (f7 0) (f8 0) M) := by
  have key : ∀ k i M, i ≤ n → n - i < k → I i M → Q (xlp8 body k (f1 i) (f2 i) (f3 i) (f4 i) (f5 i) (f6 i) (f7 i) (f8 i) M) := by
    intro k
    induction k with
    | zero => intro i M _ h; omega
    | succ k ih =>
      intro i M hi hk hI
      show Q (body (xlp8 body k) (f1 i) (f2 i) (f3 i) (f4 i) (f5 i) (f6 i) (f7 i) (f8 i) M)
      by_cases hc : i = n
      · subst hc
        exact he M hI _
      · obtain ⟨M', e, hI'⟩ := hs i (by omega) M hI (xlp8 body k)
        rw [e]
        exact ih (i + 1) M' (by omega) (by omega) hI'
  exact key FU 0 M (Nat.zero_le _) (by unfold FU; omega) h0
theorem wI_wI (M : SX) (k j : Nat) (v w : Int32) : wI (wI M k j v) k j w = wI M k j w := by
  unfold wI
  refine SX_ext (fun a => ?_) rfl
  by_cases h : a = k
  · subst h
    rw [wR_self, wR_self, wR_self, fa_upd_twice]
  · rw [wR_ne h, wR_ne h, wR_ne h]
theorem wI_id (M : SX) (k j : Nat) : wI M k j (M.1 k j) = M := by
  unfold wI
  rw [fa_upd_same rfl, wR_same]
theorem YRep.w0 {o : Nat} {M : SX} {n : Nat} {σ : LV} {j : Nat} {v : Int32} (h : YRep o M n σ) : YRep o (wI M 0 j v) n σ := by
  unfold YRep at *
  rw [wI_nk (by decide), wI_nk (by decide)]
  exact h
theorem w0_1 {M : SX} {j : Nat} {v : Int32} {n : Nat} (h : M.1 0 1 = nI n) (hj : j ≠ 1) : (wI M 0 j v).1 0 1 = nI n := by rw [wI_k, if_neg (Ne.symm hj)]; exact h
/-! on whom most hangs -/
def hb (n : Nat) (σ : LV) : Nat → Nat × Nat
  | 0 => (0, 0)
  | i + 1 => if pc (insS n σ i) ≤ (hb n σ i).2 then hb n σ i else (i, pc (insS n σ i))
theorem pc_le (S : Nat) : pc S ≤ 6 := by unfold pc; omega
theorem pc_pos {S : Nat} : ∀ v, v < 6 → S.testBit v = true → 0 < pc S := by
  intro v hv0 h
  rw [tb_div] at h
  unfold pc
  rcases six6 (show v ≤ 5 by omega) with rfl | rfl | rfl | rfl | rfl | rfl
  · simp at h; omega
  · simp at h; omega
  · simp at h; omega
  · simp at h; omega
  · simp at h; omega
  · simp at h; omega
theorem insS_self {n : Nat} (σ : LV) (s : Nat) : (insS n σ s).testBit s = true := by
  have key : ∀ k, (itF (swp σ n) k (2 ^ s)).testBit s = true := by
    intro k
    induction k with
    | zero => exact tb_self s
    | succ k ih => exact swp_sub σ n _ s ih
  exact key 6
theorem hb_le (n : Nat) (σ : LV) : ∀ i, (hb n σ i).1 ≤ i ∧ (hb n σ i).2 ≤ 6
  | 0 => ⟨Nat.le_refl 0, Nat.zero_le 6⟩
  | i + 1 => by
    have ih := hb_le n σ i
    rw [hb]
    split
    · exact ⟨by omega, ih.2⟩
    · exact ⟨by show i ≤ i + 1; omega, pc_le _⟩
theorem ag_hangs (MX MY : SX) (hR : Rel MX MY) : Ag (p5_hangs MX) (p6_hangs MY) := by
  obtain ⟨n, d, σ, hn, hd, h0, hX, hY, hV, h7, h1⟩ := rel_here hR
  rw [p5_hangs, p6_hangs, hX.1, h0]
  by_cases hz : n = 0
  · subst hz
    rw [if_pos nI_0, if_pos nI_0]
    exact ag_no hR _
  · have hn0 := nI_ne0 (n := n) (by omega) (by omega)
    rw [if_neg hn0, if_neg hn0, lt_v]
    have eX : xlp3 p5_hangs_19 FU 0 0 0 MX = some (nI (hb n σ n).1, wI MX 0 8 (nI (hb n σ n).2)) := by
      refine lp3_go (fun i => nI (hb n σ i).1) (fun i => nI (hb n σ i).2) (fun i => nI i) (fun _ => MX) n (by omega) _ (fun i hi rc => ?_) (fun rc => ?_)
      · have hl := hb_le n σ i
        have hp := pc_le (insS n σ i)
        rw [p5_hangs_19, hX.1, if_neg (nI_ge hi (by omega)), insideOf_X hX hn hV hi, bd_s, bits_X (l64 hn (insS_lt σ hi)), bd_s, hb]
        by_cases c : pc (insS n σ i) ≤ (hb n σ i).2
        · rw [if_pos ((nI_leI (by omega) (by omega)).mpr c), if_pos c, p5_hangs_54, lt_v, nI_1]
        · rw [if_neg (fun z => c ((nI_leI (by omega) (by omega)).mp z)), if_neg c, p5_hangs_54, lt_v, nI_1]
      · rw [p5_hangs_19, hX.1, if_pos (Int32.le_refl _), lt_v]
    have eY : xlp2 p6_hangs_20 FU (-9) 0 (wI MY 0 7 0) = some (nI (hb n σ n).1, wI MY 0 7 (nI (hb n σ n).2)) := by
      refine lp2_go (fun i => if i = 0 then -9 else nI (hb n σ i).1) (fun i => nI i) (fun i => wI MY 0 7 (nI (hb n σ i).2)) n (by omega) _ (fun i hi rc => ?_) (fun rc => ?_)
      · have hl := hb_le n σ i
        have hp := pc_le (insS n σ i)
        have hq : 0 < pc (insS n σ i) := pc_pos i (by omega) (insS_self σ i)
        rw [p6_hangs_20, w0_1 h0 (by decide), if_neg (nI_ge hi (by omega)), insideOf_Y (w0_1 h0 (by decide)) hY.w0 hn hV hi, bd_s, bits_Y (l64 hn (insS_lt σ hi)), bd_s, wI_k, if_pos rfl, hb, if_neg (by omega : ¬ i + 1 = 0)]
        unfold p6_hangs_50
        rw [wI_k, if_pos rfl]
        by_cases c : pc (insS n σ i) ≤ (hb n σ i).2
        · have hi0 : ¬ i = 0 := by
            intro z
            subst z
            have : (hb n σ 0).2 = 0 := rfl
            omega
          rw [if_pos ((nI_leI (by omega) (by omega)).mpr c), if_pos ((nI_leI (by omega) (by omega)).mpr c), if_pos c, p6_hangs_68, lt_v, lt_v, wI_wI, if_neg hi0, nI_1]
        · rw [if_neg (fun z => c ((nI_leI (by omega) (by omega)).mp z)), if_neg (fun z => c ((nI_leI (by omega) (by omega)).mp z)), if_neg c, p6_hangs_68, lt_v, lt_v, wI_wI, nI_1]
      · rw [p6_hangs_20, w0_1 h0 (by decide), if_pos (Int32.le_refl _), if_neg hz]
    rw [eX, eY]
    exact ⟨_, _, _, rfl, rfl, rel_tell _ hR⟩
