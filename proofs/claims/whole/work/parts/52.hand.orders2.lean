/-! who goes on -/
def dif (P S : Nat) : Nat := P &&& (63 - S)
theorem dif_I : ∀ P, P < 64 → ∀ S, S < 64 → nI P &&& (nI S ^^^ (-1)) = nI (dif P S) := by decide +kernel
theorem dif_tb63 : ∀ S, S < 64 → ∀ v, v < 6 → (63 - S).testBit v = !S.testBit v := by decide +kernel
theorem dif_lt {P S : Nat} (h : P < 64) : dif P S < 64 := Nat.lt_of_le_of_lt Nat.and_le_left h
theorem tb_lt {S n v : Nat} (hS : S < 2 ^ n) (h : S.testBit v = true) : v < n := by
  have h1 := Nat.ge_two_pow_of_testBit h
  exact Nat.not_le.mp (fun z => by
    have := Nat.pow_le_pow_right (n := 2) (by decide) z
    omega)
theorem dif_tb {P S v : Nat} (hP : P < 64) (hS : S < 64) : (dif P S).testBit v = (P.testBit v && !S.testBit v) := by
  unfold dif
  rw [Nat.testBit_and]
  by_cases h : v < 6
  · rw [dif_tb63 S hS v h]
  · have : P.testBit v = false := by
      cases e : P.testBit v
      · rfl
      · exact absurd (tb_lt (n := 6) hP e) h
    rw [this]; rfl
theorem b01 {c : Bool} : (if c = true then (1 : Int32) else 0) = 0 ∨ (if c = true then (1 : Int32) else 0) = 1 := by cases c <;> simp
section Ord2
variable {M : SX} {n P : Nat} {H D C : Nat → Nat}
theorem OG.p64 (hG : OG n P H D C) : P < 64 := Nat.lt_of_lt_of_le hG.2.1 (pw6 hG.1)
theorem OX.wR {f : Nat → Int32} (hO : OX M n P H D C) : OX (wR M 58 f) n P H D C := hO
theorem isLeft_X (hO : OX M n P H D C) (hG : OG n P H D C) {S v : Nat} (hS : S < 64) (hv0 : v < 6) : p2_isLeft (nI S) (nI v) M = some (if (P.testBit v && !S.testBit v) = true then 1 else 0, M) := by
  rw [p2_isLeft, hO.2.1, dif_I P hG.p64 S hS, isIn_X (Nat.lt_of_lt_of_le (dif_lt hG.p64) (by decide)) (by omega), bd_s, gd_of (isB_01 _), dif_tb hG.p64 hS]
theorem goesOn_X (hO : OX M n P H D C) (hG : OG n P H D C) {S v : Nat} (hS : S < 64) (hv0 : v < n) : p2_goesOn (nI S) (nI v) M = some (if goB n P H D C S v = true then 1 else 0, M) := by
  have hn := hG.1
  have hb := cashZ_b (S := S) hG hv0
  have hD := (hG.2.2 v hv0).2.1
  rw [p2_goesOn, isLeft_X hO hG hS (by omega), bd_s, it01]
  unfold goB
  by_cases h : (P.testBit v && !S.testBit v) = true
  · rw [if_pos h, cashAfter_X hO hG hS hv0, bd_s, gd_of (bIn_nI (by omega) (by decide)), nI_clamp (by omega), (hO.2.2 v hv0).2.2, ← ofI, h, Bool.true_and]
    by_cases g : cashZ n H D C S v < (D v : Int)
    · rw [if_pos ((ofI_lt (by omega) (by omega) (by omega) (by omega)).mpr g), if_neg (fun z => absurd (of_decide_eq_true z) (by omega))]
    · rw [if_neg (fun z => g ((ofI_lt (by omega) (by omega) (by omega) (by omega)).mp z)), if_pos (decide_eq_true (by omega))]
  · rw [if_neg h]
    have : (P.testBit v && !S.testBit v) = false := by simpa using h
    rw [this, Bool.false_and, if_neg (by decide)]
theorem next_Y (hO : OY M n P H D C) (hG : OG n P H D C) {S v : Nat} (hS : S < 64) (hv0 : v < n) : p6_next (nI v) (nI S) M = some (if goB n P H D C S v = true then 1 else 0, M) := by
  have hn := hG.1
  have hb := cashZ_b (S := S) hG hv0
  have hD := (hG.2.2 v hv0).2.1
  have hP := hG.p64
  rw [p6_next, hO.2.1, has_Y (by omega) (by omega), bd_s, it01]
  unfold goB
  by_cases h : P.testBit v = true
  · rw [if_pos h, has_Y (by omega) (by omega), bd_s, it01]
    by_cases h2 : S.testBit v = true
    · rw [if_pos h2, h, h2]; rfl
    · have h3 : S.testBit v = false := by simpa using h2
      rw [if_neg h2, cashBy_Y hO hG hS hv0, bd_s, gd_of (bIn_nI (by omega) (by decide)), nI_clamp (by omega), (hO.2.2 v hv0).2.2, ← ofI (D v), h, h3, Bool.not_false, Bool.and_true, Bool.true_and]
      by_cases g : cashZ n H D C S v < (D v : Int)
      · rw [if_pos ((ofI_lt (by omega) (by omega) (by omega) (by omega)).mpr g), if_neg (fun z => absurd (of_decide_eq_true z) (by omega))]
      · rw [if_neg (fun z => g ((ofI_lt (by omega) (by omega) (by omega) (by omega)).mp z)), if_pos (decide_eq_true (by omega))]
  · have h3 : P.testBit v = false := by simpa using h
    rw [if_neg h, h3]; rfl
def nextS (n P : Nat) (H D C : Nat → Nat) (S : Nat) : Nat := bset (goB n P H D C S) n
theorem nextS_lt (hn : n ≤ 6) (S : Nat) : nextS n P H D C S < 64 := Nat.lt_of_lt_of_le (bset_lt _ n) (pw6 hn)
theorem nextS_tb {S v : Nat} (hv0 : v < n) : (nextS n P H D C S).testBit v = goB n P H D C S v := by
  unfold nextS
  rw [bset_tb]
  simp [hv0]
theorem nextAfter_X (hO : OX M n P H D C) (hG : OG n P H D C) {S : Nat} (hS : S < 64) : p2_nextAfter (nI S) M = some (nI (nextS n P H D C S), M) := by
  have hn := hG.1
  rw [p2_nextAfter]
  refine lp3_go (fun _ => nI S) (fun i => nI (bset (goB n P H D C S) i)) (fun i => nI i) (fun _ => M) n (by omega) _ (fun i hi rc => ?_) (fun rc => ?_)
  · rw [p2_nextAfter_4, hO.1, if_neg (nI_ge hi (by omega)), goesOn_X hO hG hS hi, bd_s, it01, bset]
    by_cases h : goB n P H D C S i = true
    · rw [if_pos h, if_pos h, lt_v, p2_nextAfter_27, lt_v, shl1 i (by omega), or_nI, nI_1]
    · rw [if_neg h, if_neg h, p2_nextAfter_27, lt_v, nI_1]
  · rw [p2_nextAfter_4, hO.1, if_pos (Int32.le_refl _)]
    rfl
end Ord2
/-! looking at the lane -/
def lkX (M : SX) (i : Nat) (f g h : Nat → Int32) : SX := wR (wR (wR M 55 (fun k => if k < i then f k else M.1 55 k)) 56 (fun k => if k < i then g k else M.1 56 k)) 57 (fun k => if k < i then h k else M.1 57 k)
theorem lkX_1 (M : SX) (i : Nat) (f g h : Nat → Int32) (k : Nat) : (lkX M i f g h).1 k = if k = 57 then (fun k => if k < i then h k else M.1 57 k) else if k = 56 then (fun k => if k < i then g k else M.1 56 k) else if k = 55 then (fun k => if k < i then f k else M.1 55 k) else M.1 k := rfl
theorem lkX_54 (M : SX) (i : Nat) (f g h : Nat → Int32) : (lkX M i f g h).1 54 = M.1 54 := rfl
theorem lkX_0 (M : SX) (f g h : Nat → Int32) : lkX M 0 f g h = M := by
  have e : ∀ a : Nat → Int32, ∀ c : Nat → Int32, (fun k => if k < 0 then a k else c k) = c := fun a c => by funext k; rw [if_neg (Nat.not_lt_zero k)]
  unfold lkX
  rw [e, e, e, wR_same, wR_same, wR_same]
theorem SX_ext {A B : SX} (h : ∀ k, A.1 k = B.1 k) (g : A.2 = B.2) : A = B := Prod.ext (funext h) g
theorem lkX_s (M : SX) (i : Nat) (f g h : Nat → Int32) : wI (wI (wI (lkX M i f g h) 55 i (f i)) 56 i (g i)) 57 i (h i) = lkX M (i + 1) f g h := by
  have e : ∀ a : Nat → Int32, ∀ c : Nat → Int32, upd (fun k => if k < i then a k else c k) i (a i) = (fun k => if k < i + 1 then a k else c k) := by
    intro a c
    funext k
    show (if k = i then a i else if k < i then a k else c k) = _
    by_cases h1 : k = i
    · subst h1; rw [if_pos rfl, if_pos (by omega)]
    · by_cases h2 : k < i
      · rw [if_neg h1, if_pos h2, if_pos (by omega)]
      · rw [if_neg h1, if_neg h2, if_neg (by omega)]
  refine SX_ext (fun k => ?_) rfl
  by_cases h1 : k = 57
  · subst h1
    rw [wI_1, if_pos rfl, wI_nk (by decide), wI_nk (by decide), lkX_1, lkX_1, if_pos rfl, if_pos rfl, e]
  · rw [wI_nk h1, lkX_1 M (i + 1), if_neg h1]
    by_cases h2 : k = 56
    · subst h2
      rw [wI_1, if_pos rfl, wI_nk (by decide), lkX_1, if_neg (by decide), if_pos rfl, if_pos rfl, e]
    · rw [wI_nk h2, if_neg h2]
      by_cases h3 : k = 55
      · subst h3
        rw [wI_1, if_pos rfl, lkX_1, if_neg (by decide), if_neg (by decide), if_pos rfl, if_pos rfl, e]
      · rw [wI_nk h3, if_neg h3, lkX_1, if_neg h1, if_neg h2, if_neg h3]
theorem lkX_same (M : SX) (i : Nat) (f g h : Nat → Int32) : SameX M (lkX M i f g h) := ((same_wR (by omega)).trans (same_wR (by omega))).trans (same_wR (by omega))
/-- as orders see a lane, so many weeks on -/
theorem og_of {n d : Nat} {σ : LV} (hn : n ≤ 6) (hd : d ≤ 40) (hV : Valid n d σ) {w : Nat} (hw : w ≤ 100) : OG n (pawnS n σ) (σ 3) (fun v => due σ v w) (σ 1) := by
  refine ⟨hn, bset_lt _ n, fun v hv0 => ⟨Nat.le_trans (hV.2 v hv0).2.2.1 hn, ?_, ?_⟩⟩
  · have := due_le hV hv0 w
    show due σ v w ≤ 1000
    omega
  · have := cash_le hV hv0
    omega
theorem lookAt_X {M : SX} {n d : Nat} {σ : LV} (hX : XRep 17 M n σ) (hn : n ≤ 6) (hV : Valid n d σ) (hd : d ≤ 40) {w : Nat} (hw : w ≤ 100) : ∃ M', p2_lookAt 17 (nI w) M = some M' ∧ SameX M M' ∧ OX M' n (pawnS n σ) (σ 3) (fun v => due σ v w) (σ 1) := by
  have hX1 : XRep 17 (wI M 54 0 (M.1 17 0)) n σ := hX.same (same_wI (by omega))
  have hX2 : XRep 17 (wI (wI M 54 0 (M.1 17 0)) 54 1 (nI (pawnS n σ))) n σ := hX1.same (same_wI (by omega))
  rw [p2_lookAt, lt_v, pawnedSet_X hX1 hn hV, bd_s, lt_v]
  have h54 : ∀ j, (wI (wI M 54 0 (M.1 17 0)) 54 1 (nI (pawnS n σ))).1 54 j = if j = 1 then nI (pawnS n σ) else if j = 0 then nI n else M.1 54 j := fun j => by rw [wI_k, wI_k, hX.1]
  have hs : SameX M (wI (wI M 54 0 (M.1 17 0)) 54 1 (nI (pawnS n σ))) := (same_wI (by omega)).trans (same_wI (by omega))
  have h540 := h54 0
  have h541 := h54 1
  rw [if_neg (by decide), if_pos rfl] at h540
  rw [if_pos rfl] at h541
  generalize (wI (wI M 54 0 (M.1 17 0)) 54 1 (nI (pawnS n σ))) = N at h540 h541 hs hX2 ⊢
  refine ⟨lkX N n (fun v => nI (σ 1 v)) (fun v => hv (σ 3 v)) (fun v => nI (due σ v w)), ?_, hs.trans (lkX_same _ _ _ _ _), ?_⟩
  · have z : xlp2 (p2_lookAt_18 17) FU (nI w) (nI 0) (lkX N 0 (fun v => nI (σ 1 v)) (fun v => hv (σ 3 v)) (fun v => nI (due σ v w))) = some (lkX N n (fun v => nI (σ 1 v)) (fun v => hv (σ 3 v)) (fun v => nI (due σ v w))) := ?_
    · rw [lkX_0] at z
      exact z
    refine lp2_go (fun _ => nI w) (fun i => nI i) (fun i => lkX N i (fun v => nI (σ 1 v)) (fun v => hv (σ 3 v)) (fun v => nI (due σ v w))) n (by omega) _ (fun i hi rc => ?_) (fun rc => ?_)
    · have hS := lkX_same N i (fun v => nI (σ 1 v)) (fun v => hv (σ 3 v)) (fun v => nI (due σ v w))
      have hXi := hX2.same hS
      rw [p2_lookAt_18, lkX_54, h540, if_neg (nI_ge hi (by omega)), gd_of (bIn_nI (by omega) (by decide)), nI_clamp (by omega), lt_v, (hXi.2 i hi).2.1, lt_v, wI_nk (by decide), (hXi.2 i hi).2.2.2.1, dueOf_X ((hXi.same (same_wI (by omega))).same (same_wI (by omega))) hn hV hd hi hw, bd_s, lt_v, lt_v, nI_1, lkX_s N i (fun v => nI (σ 1 v)) (fun v => hv (σ 3 v)) (fun v => nI (due σ v w))]
    · rw [p2_lookAt_18, lkX_54, h540, if_pos (Int32.le_refl _)]
  · refine ⟨?_, ?_, fun v hv0 => ⟨?_, ?_, ?_⟩⟩
    · rw [lkX_54, h540]
    · rw [lkX_54, h541]
    · rw [lkX_1, if_neg (by decide), if_neg (by decide), if_pos rfl, if_pos hv0]
    · rw [lkX_1, if_neg (by decide), if_pos rfl, if_pos hv0]
    · rw [lkX_1, if_pos rfl, if_pos hv0]
