/-! loops: from what a step does, and the end -/
theorem lp0_run {β : Type} {body : (SX → Option β) → SX → Option β} (fM : Nat → SX) (n : Nat) (fin : Option β) (hs : ∀ i, i < n → ∀ rc, body rc (fM i) = rc (fM (i + 1))) (he : ∀ rc, body rc (fM n) = fin) : ∀ k i, i ≤ n → n - i < k → xlp0 body k (fM i) = fin := by
  intro k
  induction k with
  | zero => intro i _ h; omega
  | succ k ih =>
    intro i hi hk
    show body (xlp0 body k) (fM i) = fin
    by_cases hc : i = n
    · subst hc
      exact he _
    · rw [hs i (by omega)]
      exact ih (i + 1) (by omega) (by omega)
theorem lp0_go {β : Type} {body : (SX → Option β) → SX → Option β} (fM : Nat → SX) (n : Nat) (hn : n < 2000) (fin : Option β) (hs : ∀ i, i < n → ∀ rc, body rc (fM i) = rc (fM (i + 1))) (he : ∀ rc, body rc (fM n) = fin) : xlp0 body FU (fM 0) = fin := lp0_run  fM n fin hs he FU 0 (Nat.zero_le _) (by unfold FU; omega)
theorem lp1_run {A β : Type} {body : (A → SX → Option β) → A → SX → Option β} (f1 : Nat → A) (fM : Nat → SX) (n : Nat) (fin : Option β) (hs : ∀ i, i < n → ∀ rc, body rc (f1 i) (fM i) = rc (f1 (i + 1)) (fM (i + 1))) (he : ∀ rc, body rc (f1 n) (fM n) = fin) : ∀ k i, i ≤ n → n - i < k → xlp1 body k (f1 i) (fM i) = fin := by
  intro k
  induction k with
  | zero => intro i _ h; omega
  | succ k ih =>
    intro i hi hk
    show body (xlp1 body k) (f1 i) (fM i) = fin
    by_cases hc : i = n
    · subst hc
      exact he _
    · rw [hs i (by omega)]
      exact ih (i + 1) (by omega) (by omega)
theorem lp1_go {A β : Type} {body : (A → SX → Option β) → A → SX → Option β} (f1 : Nat → A) (fM : Nat → SX) (n : Nat) (hn : n < 2000) (fin : Option β) (hs : ∀ i, i < n → ∀ rc, body rc (f1 i) (fM i) = rc (f1 (i + 1)) (fM (i + 1))) (he : ∀ rc, body rc (f1 n) (fM n) = fin) : xlp1 body FU (f1 0) (fM 0) = fin := lp1_run f1 fM n fin hs he FU 0 (Nat.zero_le _) (by unfold FU; omega)
theorem lp2_run {A B β : Type} {body : (A → B → SX → Option β) → A → B → SX → Option β} (f1 : Nat → A) (f2 : Nat → B) (fM : Nat → SX) (n : Nat) (fin : Option β) (hs : ∀ i, i < n → ∀ rc, body rc (f1 i) (f2 i) (fM i) = rc (f1 (i + 1)) (f2 (i + 1)) (fM (i + 1))) (he : ∀ rc, body rc (f1 n) (f2 n) (fM n) = fin) : ∀ k i, i ≤ n → n - i < k → xlp2 body k (f1 i) (f2 i) (fM i) = fin := by
  intro k
  induction k with
  | zero => intro i _ h; omega
  | succ k ih =>
    intro i hi hk
    show body (xlp2 body k) (f1 i) (f2 i) (fM i) = fin
    by_cases hc : i = n
    · subst hc
      exact he _
    · rw [hs i (by omega)]
      exact ih (i + 1) (by omega) (by omega)
theorem lp2_go {A B β : Type} {body : (A → B → SX → Option β) → A → B → SX → Option β} (f1 : Nat → A) (f2 : Nat → B) (fM : Nat → SX) (n : Nat) (hn : n < 2000) (fin : Option β) (hs : ∀ i, i < n → ∀ rc, body rc (f1 i) (f2 i) (fM i) = rc (f1 (i + 1)) (f2 (i + 1)) (fM (i + 1))) (he : ∀ rc, body rc (f1 n) (f2 n) (fM n) = fin) : xlp2 body FU (f1 0) (f2 0) (fM 0) = fin := lp2_run f1 f2 fM n fin hs he FU 0 (Nat.zero_le _) (by unfold FU; omega)
theorem lp3_run {A B C β : Type} {body : (A → B → C → SX → Option β) → A → B → C → SX → Option β} (f1 : Nat → A) (f2 : Nat → B) (f3 : Nat → C) (fM : Nat → SX) (n : Nat) (fin : Option β) (hs : ∀ i, i < n → ∀ rc, body rc (f1 i) (f2 i) (f3 i) (fM i) = rc (f1 (i + 1)) (f2 (i + 1)) (f3 (i + 1)) (fM (i + 1))) (he : ∀ rc, body rc (f1 n) (f2 n) (f3 n) (fM n) = fin) : ∀ k i, i ≤ n → n - i < k → xlp3 body k (f1 i) (f2 i) (f3 i) (fM i) = fin := by
  intro k
  induction k with
  | zero => intro i _ h; omega
  | succ k ih =>
    intro i hi hk
    show body (xlp3 body k) (f1 i) (f2 i) (f3 i) (fM i) = fin
    by_cases hc : i = n
    · subst hc
      exact he _
    · rw [hs i (by omega)]
      exact ih (i + 1) (by omega) (by omega)
theorem lp3_go {A B C β : Type} {body : (A → B → C → SX → Option β) → A → B → C → SX → Option β} (f1 : Nat → A) (f2 : Nat → B) (f3 : Nat → C) (fM : Nat → SX) (n : Nat) (hn : n < 2000) (fin : Option β) (hs : ∀ i, i < n → ∀ rc, body rc (f1 i) (f2 i) (f3 i) (fM i) = rc (f1 (i + 1)) (f2 (i + 1)) (f3 (i + 1)) (fM (i + 1))) (he : ∀ rc, body rc (f1 n) (f2 n) (f3 n) (fM n) = fin) : xlp3 body FU (f1 0) (f2 0) (f3 0) (fM 0) = fin := lp3_run f1 f2 f3 fM n fin hs he FU 0 (Nat.zero_le _) (by unfold FU; omega)
theorem lp4_run {A B C D β : Type} {body : (A → B → C → D → SX → Option β) → A → B → C → D → SX → Option β} (f1 : Nat → A) (f2 : Nat → B) (f3 : Nat → C) (f4 : Nat → D) (fM : Nat → SX) (n : Nat) (fin : Option β) (hs : ∀ i, i < n → ∀ rc, body rc (f1 i) (f2 i) (f3 i) (f4 i) (fM i) = rc (f1 (i + 1)) (f2 (i + 1)) (f3 (i + 1)) (f4 (i + 1)) (fM (i + 1))) (he : ∀ rc, body rc (f1 n) (f2 n) (f3 n) (f4 n) (fM n) = fin) : ∀ k i, i ≤ n → n - i < k → xlp4 body k (f1 i) (f2 i) (f3 i) (f4 i) (fM i) = fin := by
  intro k
  induction k with
  | zero => intro i _ h; omega
  | succ k ih =>
    intro i hi hk
    show body (xlp4 body k) (f1 i) (f2 i) (f3 i) (f4 i) (fM i) = fin
    by_cases hc : i = n
    · subst hc
      exact he _
    · rw [hs i (by omega)]
      exact ih (i + 1) (by omega) (by omega)
theorem lp4_go {A B C D β : Type} {body : (A → B → C → D → SX → Option β) → A → B → C → D → SX → Option β} (f1 : Nat → A) (f2 : Nat → B) (f3 : Nat → C) (f4 : Nat → D) (fM : Nat → SX) (n : Nat) (hn : n < 2000) (fin : Option β) (hs : ∀ i, i < n → ∀ rc, body rc (f1 i) (f2 i) (f3 i) (f4 i) (fM i) = rc (f1 (i + 1)) (f2 (i + 1)) (f3 (i + 1)) (f4 (i + 1)) (fM (i + 1))) (he : ∀ rc, body rc (f1 n) (f2 n) (f3 n) (f4 n) (fM n) = fin) : xlp4 body FU (f1 0) (f2 0) (f3 0) (f4 0) (fM 0) = fin := lp4_run f1 f2 f3 f4 fM n fin hs he FU 0 (Nat.zero_le _) (by unfold FU; omega)
theorem lp5_run {A B C D E β : Type} {body : (A → B → C → D → E → SX → Option β) → A → B → C → D → E → SX → Option β} (f1 : Nat → A) (f2 : Nat → B) (f3 : Nat → C) (f4 : Nat → D) (f5 : Nat → E) (fM : Nat → SX) (n : Nat) (fin : Option β) (hs : ∀ i, i < n → ∀ rc, body rc (f1 i) (f2 i) (f3 i) (f4 i) (f5 i) (fM i) = rc (f1 (i + 1)) (f2 (i + 1)) (f3 (i + 1)) (f4 (i + 1)) (f5 (i + 1)) (fM (i + 1))) (he : ∀ rc, body rc (f1 n) (f2 n) (f3 n) (f4 n) (f5 n) (fM n) = fin) : ∀ k i, i ≤ n → n - i < k → xlp5 body k (f1 i) (f2 i) (f3 i) (f4 i) (f5 i) (fM i) = fin := by
  intro k
  induction k with
  | zero => intro i _ h; omega
  | succ k ih =>
    intro i hi hk
    show body (xlp5 body k) (f1 i) (f2 i) (f3 i) (f4 i) (f5 i) (fM i) = fin
    by_cases hc : i = n
    · subst hc
      exact he _
    · rw [hs i (by omega)]
      exact ih (i + 1) (by omega) (by omega)
theorem lp5_go {A B C D E β : Type} {body : (A → B → C → D → E → SX → Option β) → A → B → C → D → E → SX → Option β} (f1 : Nat → A) (f2 : Nat → B) (f3 : Nat → C) (f4 : Nat → D) (f5 : Nat → E) (fM : Nat → SX) (n : Nat) (hn : n < 2000) (fin : Option β) (hs : ∀ i, i < n → ∀ rc, body rc (f1 i) (f2 i) (f3 i) (f4 i) (f5 i) (fM i) = rc (f1 (i + 1)) (f2 (i + 1)) (f3 (i + 1)) (f4 (i + 1)) (f5 (i + 1)) (fM (i + 1))) (he : ∀ rc, body rc (f1 n) (f2 n) (f3 n) (f4 n) (f5 n) (fM n) = fin) : xlp5 body FU (f1 0) (f2 0) (f3 0) (f4 0) (f5 0) (fM 0) = fin := lp5_run f1 f2 f3 f4 f5 fM n fin hs he FU 0 (Nat.zero_le _) (by unfold FU; omega)
theorem lp6_run {A B C D E F β : Type} {body : (A → B → C → D → E → F → SX → Option β) → A → B → C → D → E → F → SX → Option β} (f1 : Nat → A) (f2 : Nat → B) (f3 : Nat → C) (f4 : Nat → D) (f5 : Nat → E) (f6 : Nat → F) (fM : Nat → SX) (n : Nat) (fin : Option β) (hs : ∀ i, i < n → ∀ rc, body rc (f1 i) (f2 i) (f3 i) (f4 i) (f5 i) (f6 i) (fM i) = rc (f1 (i + 1)) (f2 (i + 1)) (f3 (i + 1)) (f4 (i + 1)) (f5 (i + 1)) (f6 (i + 1)) (fM (i + 1))) (he : ∀ rc, body rc (f1 n) (f2 n) (f3 n) (f4 n) (f5 n) (f6 n) (fM n) = fin) : ∀ k i, i ≤ n → n - i < k → xlp6 body k (f1 i) (f2 i) (f3 i) (f4 i) (f5 i) (f6 i) (fM i) = fin := by
  intro k
  induction k with
  | zero => intro i _ h; omega
  | succ k ih =>
    intro i hi hk
    show body (xlp6 body k) (f1 i) (f2 i) (f3 i) (f4 i) (f5 i) (f6 i) (fM i) = fin
    by_cases hc : i = n
    · subst hc
      exact he _
    · rw [hs i (by omega)]
      exact ih (i + 1) (by omega) (by omega)
theorem lp6_go {A B C D E F β : Type} {body : (A → B → C → D → E → F → SX → Option β) → A → B → C → D → E → F → SX → Option β} (f1 : Nat → A) (f2 : Nat → B) (f3 : Nat → C) (f4 : Nat → D) (f5 : Nat → E) (f6 : Nat → F) (fM : Nat → SX) (n : Nat) (hn : n < 2000) (fin : Option β) (hs : ∀ i, i < n → ∀ rc, body rc (f1 i) (f2 i) (f3 i) (f4 i) (f5 i) (f6 i) (fM i) = rc (f1 (i + 1)) (f2 (i + 1)) (f3 (i + 1)) (f4 (i + 1)) (f5 (i + 1)) (f6 (i + 1)) (fM (i + 1))) (he : ∀ rc, body rc (f1 n) (f2 n) (f3 n) (f4 n) (f5 n) (f6 n) (fM n) = fin) : xlp6 body FU (f1 0) (f2 0) (f3 0) (f4 0) (f5 0) (f6 0) (fM 0) = fin := lp6_run f1 f2 f3 f4 f5 f6 fM n fin hs he FU 0 (Nat.zero_le _) (by unfold FU; omega)
theorem lp7_run {A B C D E F G β : Type} {body : (A → B → C → D → E → F → G → SX → Option β) → A → B → C → D → E → F → G → SX → Option β} (f1 : Nat → A) (f2 : Nat → B) (f3 : Nat → C) (f4 : Nat → D) (f5 : Nat → E) (f6 : Nat → F) (f7 : Nat → G) (fM : Nat → SX) (n : Nat) (fin : Option β) (hs : ∀ i, i < n → ∀ rc, body rc (f1 i) (f2 i) (f3 i) (f4 i) (f5 i) (f6 i) (f7 i) (fM i) = rc (f1 (i + 1)) (f2 (i + 1)) (f3 (i + 1)) (f4 (i + 1)) (f5 (i + 1)) (f6 (i + 1)) (f7 (i + 1)) (fM (i + 1))) (he : ∀ rc, body rc (f1 n) (f2 n) (f3 n) (f4 n) (f5 n) (f6 n) (f7 n) (fM n) = fin) : ∀ k i, i ≤ n → n - i < k → xlp7 body k (f1 i) (f2 i) (f3 i) (f4 i) (f5 i) (f6 i) (f7 i) (fM i) = fin := by
  intro k
  induction k with
  | zero => intro i _ h; omega
  | succ k ih =>
    intro i hi hk
    show body (xlp7 body k) (f1 i) (f2 i) (f3 i) (f4 i) (f5 i) (f6 i) (f7 i) (fM i) = fin
    by_cases hc : i = n
    · subst hc
      exact he _
    · rw [hs i (by omega)]
      exact ih (i + 1) (by omega) (by omega)
theorem lp7_go {A B C D E F G β : Type} {body : (A → B → C → D → E → F → G → SX → Option β) → A → B → C → D → E → F → G → SX → Option β} (f1 : Nat → A) (f2 : Nat → B) (f3 : Nat → C) (f4 : Nat → D) (f5 : Nat → E) (f6 : Nat → F) (f7 : Nat → G) (fM : Nat → SX) (n : Nat) (hn : n < 2000) (fin : Option β) (hs : ∀ i, i < n → ∀ rc, body rc (f1 i) (f2 i) (f3 i) (f4 i) (f5 i) (f6 i) (f7 i) (fM i) = rc (f1 (i + 1)) (f2 (i + 1)) (f3 (i + 1)) (f4 (i + 1)) (f5 (i + 1)) (f6 (i + 1)) (f7 (i + 1)) (fM (i + 1))) (he : ∀ rc, body rc (f1 n) (f2 n) (f3 n) (f4 n) (f5 n) (f6 n) (f7 n) (fM n) = fin) : xlp7 body FU (f1 0) (f2 0) (f3 0) (f4 0) (f5 0) (f6 0) (f7 0) (fM 0) = fin := lp7_run f1 f2 f3 f4 f5 f6 f7 fM n fin hs he FU 0 (Nat.zero_le _) (by unfold FU; omega)
theorem lp8_run {A B C D E F G H β : Type} {body : (A → B → C → D → E → F → G → H → SX → Option β) → A → B → C → D → E → F → G → H → SX → Option β} (f1 : Nat → A) (f2 : Nat → B) (f3 : Nat → C) (f4 : Nat → D) (f5 : Nat → E) (f6 : Nat → F) (f7 : Nat → G) (f8 : Nat → H) (fM : Nat → SX) (n : Nat) (fin : Option β) (hs : ∀ i, i < n → ∀ rc, body rc (f1 i) (f2 i) (f3 i) (f4 i) (f5 i) (f6 i) (f7 i) (f8 i) (fM i) = rc (f1 (i + 1)) (f2 (i + 1)) (f3 (i + 1)) (f4 (i + 1)) (f5 (i + 1)) (f6 (i + 1)) (f7 (i + 1)) (f8 (i + 1)) (fM (i + 1))) (he : ∀ rc, body rc (f1 n) (f2 n) (f3 n) (f4 n) (f5 n) (f6 n) (f7 n) (f8 n) (fM n) = fin) : ∀ k i, i ≤ n → n - i < k → xlp8 body k (f1 i) (f2 i) (f3 i) (f4 i) (f5 i) (f6 i) (f7 i) (f8 i) (fM i) = fin := by
  intro k
  induction k with
  | zero => intro i _ h; omega
  | succ k ih =>
    intro i hi hk
    show body (xlp8 body k) (f1 i) (f2 i) (f3 i) (f4 i) (f5 i) (f6 i) (f7 i) (f8 i) (fM i) = fin
    by_cases hc : i = n
    · subst hc
      exact he _
    · rw [hs i (by omega)]
      exact ih (i + 1) (by omega) (by omega)
theorem lp8_go {A B C D E F G H β : Type} {body : (A → B → C → D → E → F → G → H → SX → Option β) → A → B → C → D → E → F → G → H → SX → Option β} (f1 : Nat → A) (f2 : Nat → B) (f3 : Nat → C) (f4 : Nat → D) (f5 : Nat → E) (f6 : Nat → F) (f7 : Nat → G) (f8 : Nat → H) (fM : Nat → SX) (n : Nat) (hn : n < 2000) (fin : Option β) (hs : ∀ i, i < n → ∀ rc, body rc (f1 i) (f2 i) (f3 i) (f4 i) (f5 i) (f6 i) (f7 i) (f8 i) (fM i) = rc (f1 (i + 1)) (f2 (i + 1)) (f3 (i + 1)) (f4 (i + 1)) (f5 (i + 1)) (f6 (i + 1)) (f7 (i + 1)) (f8 (i + 1)) (fM (i + 1))) (he : ∀ rc, body rc (f1 n) (f2 n) (f3 n) (f4 n) (f5 n) (f6 n) (f7 n) (f8 n) (fM n) = fin) : xlp8 body FU (f1 0) (f2 0) (f3 0) (f4 0) (f5 0) (f6 0) (f7 0) (f8 0) (fM 0) = fin := lp8_run f1 f2 f3 f4 f5 f6 f7 f8 fM n fin hs he FU 0 (Nat.zero_le _) (by unfold FU; omega)
/-! sets by bits -/
theorem shl1 : ∀ k, k < 31 → (1 : Int32) <<< (nI k &&& 31) = nI (2 ^ k) := by decide
theorem smod31 : ∀ k, k < 32 → ((nI k &&& 31).toBitVec.smod 32).toNat = k := by decide
theorem bitv {S k : Nat} (hS : S < 2 ^ 31) (hk : k < 31) : (nI S >>> (nI k &&& 31)) &&& 1 = nI (S / 2 ^ k % 2) := by
  rw [pk_shrN hS _ k (smod31 k (by omega))]
  exact fa_mask (S / 2 ^ k) 1
theorem tb_div (S k : Nat) : S.testBit k = true ↔ S / 2 ^ k % 2 = 1 := by
  rw [Nat.testBit_eq_decide_div_mod_eq]
  exact decide_eq_true_iff
theorem bit_iff {S k : Nat} (hS : S < 2 ^ 31) (hk : k < 31) : ((nI S >>> (nI k &&& 31)) &&& 1 = 1) ↔ S.testBit k = true := by
  rw [bitv hS hk, tb_div]
  exact nI_eq (b := 1) (by omega) (by decide)
theorem isIn_X {S k : Nat} (hS : S < 2 ^ 31) (hk : k < 31) (M : SX) : p5_isIn (nI S) (nI k) M = some (if S.testBit k = true then 1 else 0, M) := by
  rw [p5_isIn]
  by_cases h : S.testBit k = true
  · rw [if_pos ((bit_iff hS hk).mpr h), if_pos h]
  · rw [if_neg (fun z => h ((bit_iff hS hk).mp z)), if_neg h]
theorem has_Y {S k : Nat} (hS : S < 2 ^ 31) (hk : k < 31) (M : SX) : p6_has (nI S) (nI k) M = some (if S.testBit k = true then 1 else 0, M) := by
  rw [p6_has]
  by_cases h : S.testBit k = true
  · rw [if_pos ((bit_iff hS hk).mpr h), if_pos h]
  · rw [if_neg (fun z => h ((bit_iff hS hk).mp z)), if_neg h]
def bset (p : Nat → Bool) : Nat → Nat
  | 0 => 0
  | n + 1 => if p n = true then bset p n ||| 2 ^ n else bset p n
theorem bset_lt (p : Nat → Bool) : ∀ n, bset p n < 2 ^ n
  | 0 => Nat.zero_lt_one
  | n + 1 => by
    have ih := bset_lt p n
    have h2 : 2 ^ (n + 1) = 2 * 2 ^ n := by rw [Nat.pow_succ, Nat.mul_comm]
    rw [bset]
    by_cases h : p n = true
    · rw [if_pos h]
      exact Nat.or_lt_two_pow (by omega) (by omega)
    · rw [if_neg h]
      omega
theorem bset_tb (p : Nat → Bool) : ∀ n i, (bset p n).testBit i = (decide (i < n) && p i)
  | 0, i => by simp [bset]
  | n + 1, i => by
    have ih := bset_tb p n i
    rw [bset]
    by_cases h : p n = true
    · rw [if_pos h, Nat.testBit_or, ih, Nat.testBit_two_pow]
      by_cases e : n = i
      · subst e
        simp [h]
      · have e2 : (decide (n = i)) = false := by simp [e]
        rw [e2, Bool.or_false]
        by_cases e3 : i < n
        · simp [e3, show i < n + 1 by omega]
        · simp [e3, show ¬ i < n + 1 by omega]
    · rw [if_neg h, ih]
      by_cases e : i = n
      · subst e
        simp [h]
      · by_cases e3 : i < n
        · simp [e3, show i < n + 1 by omega]
        · simp [e3, show ¬ i < n + 1 by omega]
theorem bset_eq {p q : Nat → Bool} : ∀ {n : Nat}, (∀ k, k < n → p k = q k) → bset p n = bset q n
  | 0, _ => rfl
  | n + 1, h => by rw [bset, bset, bset_eq (fun k hk => h k (by omega)), h n (by omega)]
theorem pw6 {n : Nat} (h : n ≤ 6) : 2 ^ n ≤ 64 := Nat.pow_le_pow_right (n := 2) (by decide) h
/-- how many of the first six bits -/
def pc (S : Nat) : Nat := S % 2 + S / 2 % 2 + S / 4 % 2 + S / 8 % 2 + S / 16 % 2 + S / 32 % 2
def bitsF (a1 : Int32) : Int32 := ((pj_bits a1 (fun _ _ => 0, fun _ _ => 0)).getD (0, (fun _ _ => 0, fun _ _ => 0))).1
theorem bits_X0 (a : Int32) (M : SX) : pj_bits a M = some (bitsF a, M) := rfl
theorem bitsF_64 : ∀ S, S < 64 → bitsF (nI S) = nI (pc S) := by decide +kernel
theorem bits_X {S : Nat} (h : S < 64) (M : SX) : pj_bits (nI S) M = some (nI (pc S), M) := by rw [bits_X0, bitsF_64 S h]
def pcn (S : Nat) : Nat → Nat
  | 0 => 0
  | n + 1 => pcn S n + S / 2 ^ n % 2
theorem pcn_6 (S : Nat) : pcn S 6 = pc S := by
  show 0 + S / 2 ^ 0 % 2 + S / 2 ^ 1 % 2 + S / 2 ^ 2 % 2 + S / 2 ^ 3 % 2 + S / 2 ^ 4 % 2 + S / 2 ^ 5 % 2 = pc S
  unfold pc
  simp
theorem bits_Y {S : Nat} (h : S < 64) (M : SX) : p6_bits (nI S) M = some (nI (pc S), M) := by
  rw [p6_bits, ← pcn_6]
  refine lp3_go (fun _ => nI S) (fun i => nI (pcn S i)) (fun i => nI i) (fun _ => M) 6 (by decide) _ (fun i hi rc => ?_) (fun rc => ?_)
  · rw [p6_bits_4, if_neg (show ¬ (6 : Int32) ≤ nI i from nI_ge (b := 6) hi (by decide)), lt_v, lt_v, bitv (by omega) (by omega), nI_add, nI_1]
    rfl
  · rw [p6_bits_4, if_pos (by decide)]
def ntzF (a1 : Int32) : Int32 := ((pj_ntz a1 (fun _ _ => 0, fun _ _ => 0)).getD (0, (fun _ _ => 0, fun _ _ => 0))).1
theorem or_nI (a b : Nat) : nI a ||| nI b = nI (a ||| b) := fa_or a b
theorem and_nI (a b : Nat) : nI a &&& nI b = nI (a &&& b) := fa_and a b
