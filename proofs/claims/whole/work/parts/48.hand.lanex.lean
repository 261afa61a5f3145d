/-! a lane, read (the class) -/
theorem hv_eq {h s : Nat} (hh : h ≤ 6) (hs : s < 6) : hv h = nI s ↔ h = s + 1 := by
  match h with
  | 0 =>
    constructor
    · intro e; exact absurd e.symm (nI_nm9 (by omega))
    · intro e; omega
  | h + 1 =>
    show nI h = nI s ↔ _
    rw [nI_eq (by omega) (by omega)]
    omega
theorem hv_m9 {h : Nat} (hh : h ≤ 6) : hv h = -9 ↔ h = 0 := by
  match h with
  | 0 => exact ⟨fun _ => rfl, fun _ => rfl⟩
  | h + 1 =>
    show nI h = -9 ↔ _
    constructor
    · intro e; exact absurd e (nI_nm9 (by omega))
    · intro e; omega
def held (n : Nat) (σ : LV) (s : Nat) : Nat := bset (fun k => decide (σ 3 k = s + 1)) n
def pawnS (n : Nat) (σ : LV) : Nat := bset (fun k => decide (0 < σ 3 k)) n
def canS (n : Nat) (σ : LV) : Nat := bset (fun k => decide (0 < σ 3 k ∧ due σ k 0 ≤ σ 1 k)) n
theorem held_lt {n : Nat} (hn : n ≤ 6) (σ : LV) (s : Nat) : held n σ s < 64 := Nat.lt_of_lt_of_le (bset_lt _ n) (pw6 hn)
theorem pawnS_lt {n : Nat} (hn : n ≤ 6) (σ : LV) : pawnS n σ < 64 := Nat.lt_of_lt_of_le (bset_lt _ n) (pw6 hn)
theorem canS_lt {n : Nat} (hn : n ≤ 6) (σ : LV) : canS n σ < 64 := Nat.lt_of_lt_of_le (bset_lt _ n) (pw6 hn)
def loanTo (n : Nat) (σ : LV) (s : Nat) : Nat := tot n (fun k => if σ 3 k = s + 1 then σ 4 k else 0)
def dueTo (n : Nat) (σ : LV) (s w : Nat) : Nat := tot n (fun k => if σ 3 k = s + 1 then due σ k w else 0)
def dueAll (n : Nat) (σ : LV) : Nat := tot n (fun k => due σ k 0)
theorem tot_eq {f g : Nat → Nat} : ∀ {n : Nat}, (∀ k, k < n → f k = g k) → tot n f = tot n g
  | 0, _ => rfl
  | n + 1, h => by rw [tot, tot, tot_eq (fun k hk => h k (by omega)), h n (by omega)]
theorem tot_le {f : Nat → Nat} {c : Nat} : ∀ {n : Nat}, (∀ k, k < n → f k ≤ c) → tot n f ≤ n * c
  | 0, _ => by simp [tot]
  | n + 1, h => by
    have h1 := tot_le (f := f) (c := c) (n := n) (fun k hk => h k (by omega))
    have h2 := h n (by omega)
    rw [tot, Nat.succ_mul]
    omega
theorem tot_at {f : Nat → Nat} : ∀ {n k : Nat}, k < n → f k ≤ tot n f
  | 0, k, h => absurd h (Nat.not_lt_zero k)
  | n + 1, k, h => by
    rw [tot]
    by_cases e : k = n
    · subst e; omega
    · have := tot_at (f := f) (n := n) (k := k) (by omega)
      omega
theorem dueK_le {k l w : Nat} (hl : l ≤ 9) : dueK k l w ≤ 9 + 3 * w := by
  unfold dueK
  split <;> (try split) <;> omega
theorem due_le {n d : Nat} {σ : LV} (hV : Valid n d σ) {s : Nat} (hs : s < n) (w : Nat) : due σ s w ≤ 9 + 3 * (d + w) := by
  unfold due
  split
  · omega
  · have h1 := hV.2 s hs
    have h2 := dueK_le (k := σ 0 ‹_›) (l := σ 4 s) (w := σ 5 s + w) h1.2.2.2.2.1
    omega
theorem cash_le {n d : Nat} {σ : LV} (hV : Valid n d σ) {s : Nat} (hs : s < n) : σ 1 s ≤ 54 + 99 * d := Nat.le_trans (tot_at hs) hV.1
section LaneX
variable {b n d : Nat} {M : SX} {σ : LV}
theorem isShop_X (hX : XRep b M n σ) (a : Int32) : p1_isShop b a M = some (if 0 ≤ a ∧ a < nI n then 1 else 0, M) := by
  rw [p1_isShop, hX.1]
  by_cases h1 : a < 0
  · rw [if_pos h1, if_neg (fun h => absurd h.1 (Int32.not_le.mpr h1))]
  · rw [if_neg h1]
    by_cases h2 : nI n ≤ a
    · rw [if_pos h2, if_neg (fun h => absurd h.2 (Int32.not_lt.mpr h2))]
    · rw [if_neg h2, if_pos ⟨Int32.not_lt.mp h1, Int32.not_le.mp h2⟩]
theorem isPawned_X (hX : XRep b M n σ) (hn : n ≤ 6) (hV : Valid n d σ) {s : Nat} (hs : s < n) : p1_isPawned b (nI s) M = some (if 0 < σ 3 s then 1 else 0, M) := by
  have hh : σ 3 s ≤ 6 := Nat.le_trans (hV.2 s hs).2.2.1 hn
  rw [p1_isPawned, gd_of (bIn_nI (by omega) (by decide)), nI_clamp (by omega), (hX.2 s hs).2.2.2.1]
  by_cases h : σ 3 s = 0
  · rw [if_pos ((hv_m9 hh).mpr h), if_neg (by omega)]
  · rw [if_neg (fun z => h ((hv_m9 hh).mp z)), if_pos (by omega)]
theorem heldBy_X (hX : XRep b M n σ) (hn : n ≤ 6) (hV : Valid n d σ) {s : Nat} (hs : s < n) : p1_heldBy b (nI s) M = some (nI (held n σ s), M) := by
  rw [p1_heldBy]
  refine lp3_go (fun _ => nI s) (fun i => nI (held i σ s)) (fun i => nI i) (fun _ => M) n (by omega) _ (fun i hi rc => ?_) (fun rc => ?_)
  · have hh : σ 3 i ≤ 6 := Nat.le_trans (hV.2 i hi).2.2.1 hn
    rw [p1_heldBy_4, hX.1, if_neg (nI_ge hi (by omega)), gd_of (bIn_nI (by omega) (by decide)), nI_clamp (by omega), (hX.2 i hi).2.2.2.1]
    have e : held (i + 1) σ s = if σ 3 i = s + 1 then held i σ s ||| 2 ^ i else held i σ s := by simp [held, bset]
    by_cases h : σ 3 i = s + 1
    · rw [if_pos ((hv_eq hh (by omega)).mpr h), lt_v, p1_heldBy_28, lt_v, shl1 i (by omega), or_nI, nI_1, e, if_pos h]
    · rw [if_neg (fun z => h ((hv_eq hh (by omega)).mp z)), p1_heldBy_28, lt_v, nI_1, e, if_neg h]
  · rw [p1_heldBy_4, hX.1, if_pos (Int32.le_refl _)]
theorem loansTo_X (hX : XRep b M n σ) (hn : n ≤ 6) (hV : Valid n d σ) {s : Nat} (hs : s < n) : p1_loansTo b (nI s) M = some (nI (loanTo n σ s), M) := by
  rw [p1_loansTo]
  refine lp3_go (fun _ => nI s) (fun i => nI (loanTo i σ s)) (fun i => nI i) (fun _ => M) n (by omega) _ (fun i hi rc => ?_) (fun rc => ?_)
  · have hh : σ 3 i ≤ 6 := Nat.le_trans (hV.2 i hi).2.2.1 hn
    rw [p1_loansTo_4, hX.1, if_neg (nI_ge hi (by omega)), gd_of (bIn_nI (by omega) (by decide)), nI_clamp (by omega), (hX.2 i hi).2.2.2.1, (hX.2 i hi).2.2.2.2.1]
    have e : loanTo (i + 1) σ s = loanTo i σ s + if σ 3 i = s + 1 then σ 4 i else 0 := rfl
    by_cases h : σ 3 i = s + 1
    · rw [if_pos ((hv_eq hh (by omega)).mpr h), lt_v, p1_loansTo_31, lt_v, nI_add, nI_1, e, if_pos h]
    · rw [if_neg (fun z => h ((hv_eq hh (by omega)).mp z)), p1_loansTo_31, lt_v, nI_1, e, if_neg h, Nat.add_zero (loanTo i σ s)]
  · rw [p1_loansTo_4, hX.1, if_pos (Int32.le_refl _)]
theorem cashInAll_X (hX : XRep b M n σ) (hn : n ≤ 6) : p1_cashInAll b M = some (nI (tot n (σ 1)), M) := by
  rw [p1_cashInAll]
  refine lp2_go (fun i => nI (tot i (σ 1))) (fun i => nI i) (fun _ => M) n (by omega) _ (fun i hi rc => ?_) (fun rc => ?_)
  · rw [p1_cashInAll_4, hX.1, if_neg (nI_ge hi (by omega)), gd_of (bIn_nI (by omega) (by decide)), nI_clamp (by omega), (hX.2 i hi).2.1, lt_v, lt_v, nI_add, nI_1]
    rfl
  · rw [p1_cashInAll_4, hX.1, if_pos (Int32.le_refl _)]
theorem pawnedSet_X (hX : XRep b M n σ) (hn : n ≤ 6) (hV : Valid n d σ) : p1_pawnedSet b M = some (nI (pawnS n σ), M) := by
  rw [p1_pawnedSet]
  refine lp2_go (fun i => nI (pawnS i σ)) (fun i => nI i) (fun _ => M) n (by omega) _ (fun i hi rc => ?_) (fun rc => ?_)
  · rw [p1_pawnedSet_4, hX.1, if_neg (nI_ge hi (by omega)), isPawned_X hX hn hV hi, bd_s, it01]
    have e : pawnS (i + 1) σ = if 0 < σ 3 i then pawnS i σ ||| 2 ^ i else pawnS i σ := by simp [pawnS, bset]
    by_cases h : 0 < σ 3 i
    · rw [if_pos h, lt_v, p1_pawnedSet_26, lt_v, shl1 i (by omega), or_nI, nI_1, e, if_pos h]
    · rw [if_neg h, p1_pawnedSet_26, lt_v, nI_1, e, if_neg h]
  · rw [p1_pawnedSet_4, hX.1, if_pos (Int32.le_refl _)]
theorem div2 {w : Nat} (hw : w < 2 ^ 31) : nI w / 2 = nI (w / 2) := pk_div (d := 2) hw (by decide) (by decide)
theorem dueWith_X {k l w : Nat} (hk : k ≤ 5) (hl : l ≤ 9) (hw : w ≤ 1000) (M : SX) : p5_dueWith (nI k) (nI l) (nI w) M = some (nI (dueK k l w), M) := by
  have h01 : ∀ a c : Nat, a < 2 ^ 31 → c < 2 ^ 31 → a ≠ c → ¬ nI a = nI c := fun a c h1 h2 h3 e => h3 ((nI_eq h1 h2).mp e)
  rcases (show k = 0 ∨ k = 1 ∨ k = 2 ∨ k = 3 ∨ k = 4 ∨ k = 5 by omega) with rfl | rfl | rfl | rfl | rfl | rfl
  · rw [p5_dueWith, if_neg (by decide), if_neg (by decide), if_neg (by decide), if_neg (by decide), if_neg (by decide), nI_add]
    rfl
  · rw [p5_dueWith, if_pos (by decide)]
    rfl
  · rw [p5_dueWith, if_neg (by decide), if_pos (by decide), show (2 : Int32) * nI w = nI (2 * w) from pk_mul 2 w, nI_add]
    rfl
  · rw [p5_dueWith, if_neg (by decide), if_neg (by decide), if_pos (by decide), div2 (by omega), nI_add]
    rfl
  · rw [p5_dueWith, if_neg (by decide), if_neg (by decide), if_neg (by decide), if_pos (by decide)]
    congr 2
    unfold jmax
    show _ = nI (if w < l then l - w else 1)
    by_cases h : w < l
    · rw [if_pos h, pk_sub (by omega)]
      by_cases e : l - w = 1
      · rw [e, if_neg (by decide)]
        rfl
      · rw [if_pos (show (1 : Int32) < nI (l - w) from nI_lt (a := 1) (by omega) (by omega))]
    · rw [if_neg h, if_neg]
      · rfl
      · intro z
        rw [Int32.lt_iff_toInt_lt, pk_sub_toInt (by omega) (by omega)] at z
        have : (1 : Int32).toInt = 1 := rfl
        omega
  · rw [p5_dueWith, if_neg (by decide), if_neg (by decide), if_neg (by decide), if_neg (by decide), if_pos (by decide), show (3 : Int32) * nI w = nI (3 * w) from pk_mul 3 w, nI_add]
    rfl
theorem dueOf_X (hX : XRep b M n σ) (hn : n ≤ 6) (hV : Valid n d σ) (hd : d ≤ 40) {s w : Nat} (hs : s < n) (hw : w ≤ 100) : p1_dueOf b (nI s) (nI w) M = some (nI (due σ s w), M) := by
  have hv1 := hV.2 s hs
  rw [p1_dueOf, isPawned_X hX hn hV hs, bd_s, it01]
  unfold due
  match he : σ 3 s with
  | 0 => rw [if_neg (by omega)]; rfl
  | h + 1 =>
    have hh : h < n := by omega
    have hx := hX.2 s hs
    rw [he] at hx
    have e4 : M.1 (b + 4) s = nI h := hx.2.2.2.1
    rw [if_pos (by omega), gd_of (bIn_nI (by omega) (by decide)), nI_clamp (by omega), e4, gd_of (bIn_nI (by omega) (by decide)), nI_clamp (by omega), (hX.2 h hh).1, hx.2.2.2.2.1, hx.2.2.2.2.2, nI_add, dueWith_X (hV.2 h hh).1 hv1.2.2.2.2.1 (by omega), bd_s]
theorem dueTo_X (hX : XRep b M n σ) (hn : n ≤ 6) (hV : Valid n d σ) (hd : d ≤ 40) {s w : Nat} (hs : s < n) (hw : w ≤ 100) : p1_dueTo b (nI s) (nI w) M = some (nI (dueTo n σ s w), M) := by
  rw [p1_dueTo]
  refine lp4_go (fun _ => nI s) (fun _ => nI w) (fun i => nI (dueTo i σ s w)) (fun i => nI i) (fun _ => M) n (by omega) _ (fun i hi rc => ?_) (fun rc => ?_)
  · have hh : σ 3 i ≤ 6 := Nat.le_trans (hV.2 i hi).2.2.1 hn
    rw [p1_dueTo_5, hX.1, if_neg (nI_ge hi (by omega)), gd_of (bIn_nI (by omega) (by decide)), nI_clamp (by omega), (hX.2 i hi).2.2.2.1]
    have e : dueTo (i + 1) σ s w = dueTo i σ s w + if σ 3 i = s + 1 then due σ i w else 0 := rfl
    by_cases h : σ 3 i = s + 1
    · rw [if_pos ((hv_eq hh (by omega)).mpr h), dueOf_X hX hn hV hd hi hw, bd_s, lt_v, p1_dueTo_35, lt_v, nI_add, nI_1, e, if_pos h]
    · rw [if_neg (fun z => h ((hv_eq hh (by omega)).mp z)), p1_dueTo_35, lt_v, nI_1, e, if_neg h, Nat.add_zero (dueTo i σ s w)]
  · rw [p1_dueTo_5, hX.1, if_pos (Int32.le_refl _)]
theorem dueInAll_X (hX : XRep b M n σ) (hn : n ≤ 6) (hV : Valid n d σ) (hd : d ≤ 40) : p1_dueInAll b M = some (nI (dueAll n σ), M) := by
  rw [p1_dueInAll]
  refine lp2_go (fun i => nI (dueAll i σ)) (fun i => nI i) (fun _ => M) n (by omega) _ (fun i hi rc => ?_) (fun rc => ?_)
  · rw [p1_dueInAll_4, hX.1, if_neg (nI_ge hi (by omega)), show p1_dueOf b (nI i) 0 M = _ from dueOf_X hX hn hV hd hi (w := 0) (by omega), bd_s, lt_v, lt_v, nI_add, nI_1]
    rfl
  · rw [p1_dueInAll_4, hX.1, if_pos (Int32.le_refl _)]
theorem canRedeem_X (hX : XRep b M n σ) (hn : n ≤ 6) (hV : Valid n d σ) (hd : d ≤ 40) {s : Nat} (hs : s < n) : p1_canRedeem b (nI s) M = some (if 0 < σ 3 s ∧ due σ s 0 ≤ σ 1 s then 1 else 0, M) := by
  have h1 := due_le hV hs 0
  have h2 := cash_le hV hs
  rw [p1_canRedeem, isPawned_X hX hn hV hs, bd_s, it01]
  by_cases h : 0 < σ 3 s
  · rw [if_pos h, gd_of (bIn_nI (by omega) (by decide)), show p1_dueOf b (nI s) 0 M = _ from dueOf_X hX hn hV hd hs (w := 0) (by omega), bd_s, nI_clamp (by omega), (hX.2 s hs).2.1]
    by_cases g : σ 1 s < due σ s 0
    · rw [if_pos ((nI_ltI (by omega) (by omega)).mpr g), if_neg (by omega)]
    · rw [if_neg (fun z => g ((nI_ltI (by omega) (by omega)).mp z)), if_pos ⟨h, by omega⟩]
  · rw [if_neg h, if_neg (fun z => h z.1)]
theorem canPawn_X (hX : XRep b M n σ) (hn : n ≤ 6) (hV : Valid n d σ) (hd : d ≤ 40) {s t k : Nat} (hs : s < n) (ht : t < n) (hk : k ≤ 9) : p1_canPawn b (nI s) (nI t) (nI k) M = some (if s ≠ t ∧ σ 3 s = 0 ∧ k ≤ σ 1 t then 1 else 0, M) := by
  have h2 := cash_le hV ht
  rw [p1_canPawn]
  by_cases e : s = t
  · rw [if_pos (by rw [e]), if_neg (fun z => z.1 e)]
  · rw [if_neg (fun z => e ((nI_eq (by omega) (by omega)).mp z)), isPawned_X hX hn hV hs, bd_s, it01]
    by_cases h : 0 < σ 3 s
    · rw [if_pos h, if_neg (fun z => by omega)]
    · rw [if_neg h, gd_of (bIn_nI (by omega) (by decide)), nI_clamp (by omega), (hX.2 t ht).2.1]
      by_cases g : σ 1 t < k
      · rw [if_pos ((nI_ltI (by omega) (by omega)).mpr g), if_neg (by omega)]
      · rw [if_neg (fun z => g ((nI_ltI (by omega) (by omega)).mp z)), if_pos ⟨e, by omega, by omega⟩]
end LaneX
