/-! how many steps to a set -/
def mnd (go : Nat → Nat → Bool) (S : Nat) (dd : Nat → Nat) (c : Nat) : Nat → Nat
  | 0 => c
  | v + 1 => if go S v = true ∧ dd (S ||| 2 ^ v) + 1 < mnd go S dd c v then dd (S ||| 2 ^ v) + 1 else mnd go S dd c v
def dstK (tgt n : Nat) (go : Nat → Nat → Bool) (c : Nat) : Nat → Nat → Nat
  | 0, _ => c
  | k + 1, S => if inP S tgt = true then 0 else mnd go S (dstK tgt n go c k) c n
section Ds
variable {P tgt n : Nat} {go : Nat → Nat → Bool}
theorem mnd_le (go : Nat → Nat → Bool) (S : Nat) (dd : Nat → Nat) (c : Nat) : ∀ v, mnd go S dd c v ≤ c
  | 0 => Nat.le_refl c
  | v + 1 => by
    have ih := mnd_le go S dd c v
    rw [mnd]
    split
    · rename_i h
      omega
    · exact ih
theorem mnd_pos (go : Nat → Nat → Bool) (S : Nat) (dd : Nat → Nat) {c : Nat} (hc : 0 < c) : ∀ v, 0 < mnd go S dd c v
  | 0 => hc
  | v + 1 => by
    have ih := mnd_pos go S dd hc v
    rw [mnd]
    split
    · omega
    · exact ih
theorem mnd_cong {S : Nat} {dd dd' : Nat → Nat} {c : Nat} : ∀ {m : Nat}, (∀ v, v < m → go S v = true → dd (S ||| 2 ^ v) = dd' (S ||| 2 ^ v)) → mnd go S dd c m = mnd go S dd' c m
  | 0, _ => rfl
  | v + 1, h => by
    have ih := mnd_cong (c := c) (m := v) (fun u hu g => h u (by omega) g)
    rw [mnd, mnd, ih]
    by_cases g : go S v = true
    · rw [h v (by omega) g]
    · rw [if_neg (fun z => g z.1), if_neg (fun z => g z.1)]
theorem mnd_at {S : Nat} {dd : Nat → Nat} {c : Nat} : ∀ {m v : Nat}, v < m → go S v = true → mnd go S dd c m ≤ dd (S ||| 2 ^ v) + 1
  | 0, v, h, _ => absurd h (Nat.not_lt_zero v)
  | m + 1, v, h, g => by
    rw [mnd]
    by_cases e : v = m
    · subst e
      split
      · exact Nat.le_refl _
      · rename_i z
        exact Nat.not_lt.mp (fun y => z ⟨g, y⟩)
    · have ih := mnd_at (dd := dd) (c := c) (show v < m by omega) g
      split
      · rename_i z
        omega
      · exact ih
theorem mnd_ex {S : Nat} {dd : Nat → Nat} {c : Nat} : ∀ {m : Nat}, mnd go S dd c m < c → ∃ v, v < m ∧ go S v = true ∧ mnd go S dd c m = dd (S ||| 2 ^ v) + 1
  | 0, h => absurd h (Nat.lt_irrefl c)
  | m + 1, h => by
    rw [mnd] at h ⊢
    split at h
    · rename_i z
      exact ⟨m, by omega, z.1, by rw [if_pos z]⟩
    · rename_i z
      obtain ⟨v, h1, h2, h3⟩ := mnd_ex h
      exact ⟨v, by omega, h2, by rw [if_neg z, h3]⟩
theorem dstK_st (hf : Fwd P go) (hn : n ≤ 6) (c : Nat) : ∀ m S, S < 64 → 64 - S ≤ m → ∀ k, m ≤ k → dstK tgt n go c k S = dstK tgt n go c m S
  | 0, S, hS, h, k, hk => by omega
  | m + 1, S, hS, h, 0, hk => by omega
  | m + 1, S, hS, h, k + 1, hk => by
    rw [dstK, dstK]
    split
    · rfl
    · refine mnd_cong (fun v hv0 g => ?_)
      have h1 := or_gt (hf S v g).2
      exact dstK_st hf hn c m _ (or_64 hS (by omega)) (by omega) k (by omega)
def dE (tgt n : Nat) (go : Nat → Nat → Bool) (c S : Nat) : Nat := dstK tgt n go c 64 S
theorem dE_eq (hf : Fwd P go) (hn : n ≤ 6) (c : Nat) {S : Nat} (hS : S < 64) : dE tgt n go c S = if inP S tgt = true then 0 else mnd go S (dE tgt n go c) c n := by
  unfold dE
  have e : dstK tgt n go c 64 S = if inP S tgt = true then 0 else mnd go S (dstK tgt n go c 63) c n := rfl
  rw [e]
  split
  · rfl
  · refine mnd_cong (fun v hv0 g => ?_)
    have h1 := or_gt (hf S v g).2
    exact (dstK_st hf hn c 63 _ (or_64 hS (by omega)) (by omega) 64 (by omega)).symm
/-- under another cap -/
theorem dstK_cc (hf : Fwd P go) (hn : n ≤ 6) {c c' : Nat} (hc : 7 ≤ c) (hc' : 7 ≤ c') : ∀ k S, S < 64 → (dstK tgt n go c k S = c ∧ dstK tgt n go c' k S = c') ∨ (dstK tgt n go c k S = dstK tgt n go c' k S ∧ dstK tgt n go c k S ≤ 6 - pc S)
  | 0, S, _ => Or.inl ⟨rfl, rfl⟩
  | k + 1, S, hS => by
    rw [dstK, dstK]
    by_cases t : inP S tgt = true
    · rw [if_pos t, if_pos t]
      exact Or.inr ⟨rfl, Nat.zero_le _⟩
    · rw [if_neg t, if_neg t]
      have key : ∀ m, m ≤ n → (mnd go S (dstK tgt n go c k) c m = c ∧ mnd go S (dstK tgt n go c' k) c' m = c') ∨ (mnd go S (dstK tgt n go c k) c m = mnd go S (dstK tgt n go c' k) c' m ∧ mnd go S (dstK tgt n go c k) c m ≤ 6 - pc S) := by
        intro m
        induction m with
        | zero => intro _; exact Or.inl ⟨rfl, rfl⟩
        | succ m ih =>
          intro hm
          have ih := ih (by omega)
          rw [mnd, mnd]
          by_cases g : go S m = true
          · have hp := pc_or S hS m (by omega) (hf S m g).2
            have hp2 := pc_le (S ||| 2 ^ m)
            have hpl := pc_le S
            have hc1 := dstK_cc hf hn hc hc' k (S ||| 2 ^ m) (or_64 hS (by omega))
            generalize dstK tgt n go c k (S ||| 2 ^ m) = x at hc1
            generalize dstK tgt n go c' k (S ||| 2 ^ m) = x' at hc1
            generalize mnd go S (dstK tgt n go c k) c m = y at ih
            generalize mnd go S (dstK tgt n go c' k) c' m = y' at ih
            rw [hp] at hc1
            rcases hc1 with ⟨a1, a2⟩ | ⟨a1, a2⟩ <;> rcases ih with ⟨b1, b2⟩ | ⟨b1, b2⟩
            · rw [if_neg (by omega), if_neg (by omega)]
              exact Or.inl ⟨b1, b2⟩
            · rw [if_neg (by omega), if_neg (by omega)]
              exact Or.inr ⟨b1, b2⟩
            · rw [if_pos ⟨g, by omega⟩, if_pos ⟨g, by omega⟩]
              exact Or.inr ⟨by omega, by omega⟩
            · by_cases q : x + 1 < y
              · rw [if_pos ⟨g, q⟩, if_pos ⟨g, by omega⟩]
                exact Or.inr ⟨by omega, by omega⟩
              · rw [if_neg (fun z => q z.2), if_neg (fun z => q (by have := z.2; omega))]
                exact Or.inr ⟨b1, b2⟩
          · rw [if_neg (fun z => g z.1), if_neg (fun z => g z.1)]
            exact ih
      exact key n (Nat.le_refl n)
theorem dE_cc (hf : Fwd P go) (hn : n ≤ 6) {c c' : Nat} (hc : 7 ≤ c) (hc' : 7 ≤ c') {S : Nat} (hS : S < 64) : (dE tgt n go c S = c ∧ dE tgt n go c' S = c') ∨ (dE tgt n go c S = dE tgt n go c' S ∧ dE tgt n go c S ≤ 6) := by
  rcases dstK_cc (tgt := tgt) hf hn hc hc' 64 S hS with h | h
  · exact Or.inl h
  · exact Or.inr ⟨h.1, by have := h.2; unfold dE; omega⟩
/-- one step nearer, and which -/
theorem dE_go (hf : Fwd P go) (hn : n ≤ 6) {c : Nat} {S k : Nat} (hS : S < 64) (hk : k + 1 < c) (h : dE tgt n go c S = k + 1) : (∃ v, v < n ∧ go S v = true ∧ dE tgt n go c (S ||| 2 ^ v) < k + 1) ∧ ∀ v, v < n → go S v = true → (dE tgt n go c (S ||| 2 ^ v) < k + 1 ↔ dE tgt n go c (S ||| 2 ^ v) = k) := by
  rw [dE_eq hf hn c hS] at h
  split at h
  · exact absurd h (by omega)
  · refine ⟨?_, fun v hv0 g => ?_⟩
    · obtain ⟨v, h1, h2, h3⟩ := mnd_ex (go := go) (S := S) (dd := dE tgt n go c) (c := c) (m := n) (by omega)
      exact ⟨v, h1, h2, by omega⟩
    · have := mnd_at (dd := dE tgt n go c) (c := c) hv0 g
      omega
/-- to all of P: the way there is as long as what is left -/
theorem dE_on (hf : Fwd P go) (hP : P < 64) (hn : n ≤ 6) {c : Nat} (hc : 7 ≤ c) : ∀ m S, S < 64 → 64 - S ≤ m → inP P S = true → (onE P n go S = 0 ∧ dE P n go c S = c) ∨ (¬ onE P n go S = 0 ∧ dE P n go c S = pc P - pc S)
  | 0, S, hS, h, _ => by omega
  | m + 1, S, hS, h, hin => by
    rw [onE_eq hf hn hS, dE_eq hf hn c hS]
    by_cases e : S = P
    · subst e
      have hself : inP S S = true := sub_inP (sub_refl S)
      rw [if_pos rfl, if_pos hself]
      exact Or.inr ⟨by omega, by omega⟩
    · have hno : ¬ inP S P = true := fun z => e (sub_anti (inP_sub hin) (inP_sub z))
      rw [if_neg e, if_neg hno, Nat.zero_add]
      have hpP := pc_le P
      have hlt : pc S < pc P := by
        have h2 := inP_2 P hP S hS hin
        have h1 := inP_1 P hP S hS hin
        have : 0 < P - S := by
          have := h1.1
          omega
        have hpos : 0 < pc (P - S) := by
          refine Nat.pos_of_ne_zero (fun z => ?_)
          have : ∀ Q, Q < 64 → pc Q = 0 → Q = 0 := by decide +kernel
          have := this (P - S) (by omega) z
          omega
        omega
      have key : ∀ j, j ≤ n → (tot j (fun v => if go S v = true then onE P n go (S ||| 2 ^ v) else 0) = 0 ∧ mnd go S (dE P n go c) c j = c) ∨ (¬ tot j (fun v => if go S v = true then onE P n go (S ||| 2 ^ v) else 0) = 0 ∧ mnd go S (dE P n go c) c j = pc P - pc S) := by
        intro j
        induction j with
        | zero => intro _; exact Or.inl ⟨rfl, rfl⟩
        | succ j ih =>
          intro hj
          have ih := ih (by omega)
          have te : tot (j + 1) (fun v => if go S v = true then onE P n go (S ||| 2 ^ v) else 0) = tot j (fun v => if go S v = true then onE P n go (S ||| 2 ^ v) else 0) + (if go S j = true then onE P n go (S ||| 2 ^ j) else 0) := rfl
          rw [te, mnd]
          by_cases g : go S j = true
          · have hg := hf S j g
            have hor := or_64 hS (show j < 6 by omega)
            have hgt := or_gt hg.2
            have hch := dE_on hf hP hn hc m (S ||| 2 ^ j) hor (by omega) (sub_inP (or2_sub (inP_sub hin) hg.1))
            rw [pc_or S hS j (by omega) hg.2] at hch
            rw [if_pos g]
            rcases hch with ⟨a1, a2⟩ | ⟨a1, a2⟩ <;> rcases ih with ⟨b1, b2⟩ | ⟨b1, b2⟩
            · rw [if_neg (by omega)]
              exact Or.inl ⟨by omega, b2⟩
            · rw [if_neg (by omega)]
              exact Or.inr ⟨by omega, b2⟩
            · rw [if_pos ⟨g, by omega⟩]
              exact Or.inr ⟨by omega, by omega⟩
            · rw [if_neg (by omega)]
              exact Or.inr ⟨by omega, b2⟩
          · rw [if_neg g, if_neg (fun z => g z.1)]
            exact ih
      exact key n (Nat.le_refl n)
end Ds
