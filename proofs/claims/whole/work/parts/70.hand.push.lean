/-! the reference lays out what is tried -/
theorem OY.congr {M : SX} {n P : Nat} {H D C D' : Nat → Nat} (h : OY M n P H D C) (e : ∀ v, v < n → D' v = D v) : OY M n P H D' C := ⟨h.1, h.2.1, fun v hv0 => by rw [e v hv0]; exact h.2.2 v hv0⟩
theorem layTried_Y {M : SX} {n d : Nat} {σ : LV} (h0 : M.1 0 1 = nI n) (hY : YRep 0 M n σ) (hn : n ≤ 6) (hV : Valid n d σ) (hd : d ≤ 40) {w ex : Nat} (hw : w ≤ 100) (hex : ex < 64) : ∃ M', p6_layTried (nI w) (nI ex) M = some M' ∧ SameY M M' ∧ OY M' n (dif (pawnS n σ) ex) (σ 3) (fun v => if (dif (pawnS n σ) ex).testBit v = true then due σ v w else 0) (σ 1) := by
  have hP := pawnS_lt hn σ
  rw [p6_layTried, pawned_Y h0 hY hn hV, bd_s, dif_I _ hP _ hex, lt_v]
  have hPd : dif (pawnS n σ) ex < 64 := dif_lt hP
  generalize dif (pawnS n σ) ex = P at hPd
  have hS0 : SameY M (wI M 0 22 (nI P)) := same_wI0 (by omega)
  have h22 : (wI M 0 22 (nI P)).1 0 22 = nI P := by rw [wI_k, if_pos rfl]
  generalize wI M 0 22 (nI P) = M1 at hS0 h22
  refine lp2_inv (fun _ => nI w) (fun i => nI i) (fun i N => SameY M N ∧ N.1 0 22 = nI P ∧ ∀ v, v < i → N.1 12 v = nI (σ 1 v) ∧ N.1 11 v = nI (if P.testBit v = true then due σ v w else 0)) n (by omega) (fun x => ∃ M', x = some M' ∧ SameY M M' ∧ OY M' n P (σ 3) (fun v => if P.testBit v = true then due σ v w else 0) (σ 1)) ?_ ?_ M1 ⟨hS0, h22, fun v hv0 => absurd hv0 (Nat.not_lt_zero v)⟩
  · rintro i hi N ⟨u1, u2, u3⟩ rc
    have e0 : N.1 0 1 = nI n := by rw [u1.2.1 1 (by omega)]; exact h0
    have hYi := hY.same u1
    have i1 := ix1 (s := i) (by omega)
    have hy := (hYi i hi).2.1
    rw [Nat.zero_add] at hy
    have go : ∀ x, p6_layTried_48 rc (nI w) (nI i) (nI i) (nI x) N = rc (nI w) (nI (i + 1)) (wI (wI N 11 i (nI x)) 12 i (nI (σ 1 i))) := by
      intro x
      rw [p6_layTried_48, gd_of (bIn_nI (by omega) (by decide)), lt_v, gd_of i1.1, gd_of (bIn_nI (by omega) (by decide)), nI_clamp (by omega), i1.2, lt_v, wI_nk (by decide), hy, lt_v, nI_1]
    refine ⟨wI (wI N 11 i (nI (if P.testBit i = true then due σ i w else 0))) 12 i (nI (σ 1 i)), ?_, (u1.trans (same_wIY (by omega))).trans (same_wIY (by omega)), ?_, fun v hv0 => ⟨?_, ?_⟩⟩
    · rw [p6_layTried_14, e0, if_neg (nI_ge hi (by omega)), u2, has_Y (by omega) (by omega), bd_s, it01]
      by_cases t : P.testBit i = true
      · rw [if_pos t, dueIn_Y hYi hn hV hd hi hw, bd_s, if_pos t]
        exact go _
      · rw [if_neg t, if_neg t]
        exact go 0
    · rw [wI_nk (by decide), wI_nk (by decide)]; exact u2
    · rw [wI_k]
      by_cases e : v = i
      · rw [if_pos e, e]
      · rw [if_neg e, wI_nk (by decide)]; exact (u3 v (by omega)).1
    · rw [wI_nk (by decide), wI_k]
      by_cases e : v = i
      · rw [if_pos e, e]
      · rw [if_neg e]; exact (u3 v (by omega)).2
  · rintro N ⟨u1, u2, u3⟩ rc
    have e0 : N.1 0 1 = nI n := by rw [u1.2.1 1 (by omega)]; exact h0
    have hYi := hY.same u1
    rw [p6_layTried_14, e0, if_pos (Int32.le_refl _)]
    refine ⟨N, rfl, u1, e0, u2, fun v hv0 => ⟨(u3 v hv0).1, ?_, (u3 v hv0).2⟩⟩
    have hy := (hYi v hv0).2.2.2.1
    rw [Nat.zero_add] at hy
    exact hy
theorem dif_0 : ∀ P, P < 64 → dif P 0 = P := by decide +kernel
theorem due_np {σ : LV} {v w : Nat} (h : ¬ 0 < σ 3 v) : due σ v w = 0 := by
  unfold due
  rw [show σ 3 v = 0 by omega]
theorem layTried_Y0 {M : SX} {n d : Nat} {σ : LV} (h0 : M.1 0 1 = nI n) (hY : YRep 0 M n σ) (hn : n ≤ 6) (hV : Valid n d σ) (hd : d ≤ 40) {w : Nat} (hw : w ≤ 100) : ∃ M', p6_layTried (nI w) 0 M = some M' ∧ SameY M M' ∧ OY M' n (pawnS n σ) (σ 3) (fun v => due σ v w) (σ 1) := by
  obtain ⟨M', e, hS, hO⟩ := layTried_Y h0 hY hn hV hd hw (ex := 0) (by omega)
  rw [dif_0 _ (pawnS_lt hn σ)] at hO
  refine ⟨M', e, hS, hO.congr (fun v hv0 => ?_)⟩
  rw [pawnS_tb hv0]
  by_cases c : 0 < σ 3 v
  · rw [if_pos (decide_eq_true c)]
  · rw [if_neg (fun z => c (of_decide_eq_true z)), due_np c]
/-! ways: from set to set, one more each time -/
def updN (f : Nat → Nat) (i x : Nat) : Nat → Nat := fun k => if k = i then x else f k
theorem updN_s (f : Nat → Nat) (i x : Nat) : updN f i x i = x := if_pos rfl
theorem updN_n (f : Nat → Nat) {i x k : Nat} (h : ¬ k = i) : updN f i x k = f k := if_neg h
def pushV (go : Nat → Nat → Bool) (S : Nat) (a : Nat → Nat) : Nat → Nat → Nat
  | 0 => a
  | v + 1 => if go S v = true then updN (pushV go S a v) (S ||| 2 ^ v) (pushV go S a v (S ||| 2 ^ v) + a S) else pushV go S a v
def pushS (go : Nat → Nat → Bool) (n S0 : Nat) (a : Nat → Nat) : Nat → Nat → Nat
  | 0 => a
  | k + 1 => pushV go (S0 + k) (pushS go n S0 a k) n
def Fwd (P : Nat) (go : Nat → Nat → Bool) : Prop := ∀ S v, go S v = true → P.testBit v = true ∧ S.testBit v = false
theorem goB_fwd (n P : Nat) (H D C : Nat → Nat) : Fwd P (goB n P H D C) := fun S v h => ⟨(goB_iff.mp h).1, (goB_iff.mp h).2.1⟩
theorem or_gt {S v : Nat} (h : S.testBit v = false) : S < S ||| 2 ^ v := by
  refine Nat.lt_of_le_of_ne Nat.left_le_or (fun z => ?_)
  have : (S ||| 2 ^ v).testBit v = true := by rw [Nat.testBit_or, tb_self, Bool.or_true]
  rw [← z, h] at this
  exact absurd this (by decide)
section Ps
variable {P : Nat} {go : Nat → Nat → Bool}
theorem pushV_le (hf : Fwd P go) (S : Nat) (a : Nat → Nat) {T : Nat} (hT : T ≤ S) : ∀ v, pushV go S a v T = a T
  | 0 => rfl
  | v + 1 => by
    rw [pushV]
    split
    · rename_i h
      have := or_gt (hf S v h).2
      rw [updN_n _ (by omega)]
      exact pushV_le hf S a hT v
    · exact pushV_le hf S a hT v
theorem pushV_zero (S : Nat) (a : Nat → Nat) (h : a S = 0) (T : Nat) : ∀ v, pushV go S a v T = a T
  | 0 => rfl
  | v + 1 => by
    rw [pushV, h]
    split
    · by_cases e : T = S ||| 2 ^ v
      · rw [e, updN_s, Nat.add_zero]
        exact pushV_zero S a h _ v
      · rw [updN_n _ e]
        exact pushV_zero S a h T v
    · exact pushV_zero S a h T v
theorem pushV_sup (hf : Fwd P go) (S : Nat) (a : Nat → Nat) (h : ∀ T, ¬ a T = 0 → sub T P) : ∀ v T, ¬ pushV go S a v T = 0 → sub T P
  | 0, T, z => h T z
  | v + 1, T, z => by
    rw [pushV] at z
    split at z
    · rename_i hg
      by_cases e : T = S ||| 2 ^ v
      · by_cases aS : a S = 0
        · rw [e, updN_s, aS, Nat.add_zero] at z
          rw [e]
          exact pushV_sup hf S a h v _ z
        · rw [e]
          exact or2_sub (h S aS) (hf S v hg).1
      · rw [updN_n _ e] at z
        exact pushV_sup hf S a h v T z
    · exact pushV_sup hf S a h v T z
theorem pushS_sup (hf : Fwd P go) (n S0 : Nat) (a : Nat → Nat) (h : ∀ T, ¬ a T = 0 → sub T P) : ∀ k T, ¬ pushS go n S0 a k T = 0 → sub T P
  | 0, T, z => h T z
  | k + 1, T, z => pushV_sup hf (S0 + k) _ (pushS_sup hf n S0 a h k) n T z
/-- what all weighs: a weight for each set -/
def wsum (w a : Nat → Nat) (S : Nat) : Nat := tot 64 (fun T => if S ≤ T then a T * w T else 0)
theorem tot_upd {f g : Nat → Nat} {i : Nat} {x : Nat} : ∀ {n : Nat}, i < n → (∀ k, k ≠ i → f k = g k) → f i = g i + x → tot n f = tot n g + x
  | 0, h, _, _ => absurd h (Nat.not_lt_zero i)
  | n + 1, h, h1, h2 => by
    show tot n f + f n = tot n g + g n + x
    by_cases e : i = n
    · subst e
      rw [tot_eq (f := f) (g := g) (fun k hk => h1 k (by omega)), h2]
      omega
    · rw [tot_upd (n := n) (by omega) h1 h2, h1 n (fun z => e z.symm)]
      omega
theorem wsum_V (hf : Fwd P go) (hP : P < 64) (w : Nat → Nat) {S : Nat} (hS : S < 64) (a : Nat → Nat) : ∀ v, v ≤ 6 → wsum w (pushV go S a v) (S + 1) = wsum w a (S + 1) + a S * tot v (fun u => if go S u = true then w (S ||| 2 ^ u) else 0)
  | 0, _ => by rw [pushV]; rfl
  | v + 1, hv0 => by
    have ih := wsum_V hf hP w hS a v (by omega)
    have e : tot (v + 1) (fun u => if go S u = true then w (S ||| 2 ^ u) else 0) = tot v (fun u => if go S u = true then w (S ||| 2 ^ u) else 0) + (if go S v = true then w (S ||| 2 ^ v) else 0) := rfl
    rw [e, Nat.mul_add, ← Nat.add_assoc, ← ih, pushV]
    by_cases h : go S v = true
    · rw [if_pos h, if_pos h]
      have hg := or_gt (hf S v h).2
      unfold wsum
      refine tot_upd (i := S ||| 2 ^ v) (or2_lt (n := 6) hS (by omega)) (fun k hk => ?_) ?_
      · rw [updN_n _ hk]
      · rw [if_pos (by omega), if_pos (by omega), updN_s, Nat.add_mul]
    · rw [if_neg h, if_neg h, Nat.mul_zero]
      rfl
theorem wsum_S (w a : Nat → Nat) {S : Nat} (hS : S < 64) : wsum w a S = wsum w a (S + 1) + a S * w S := by
  unfold wsum
  refine tot_upd (i := S) hS (fun k hk => ?_) ?_
  · by_cases h : S ≤ k
    · rw [if_pos h, if_pos (by omega)]
    · rw [if_neg h, if_neg (by omega)]
  · rw [if_pos (Nat.le_refl S), if_neg (by omega), Nat.zero_add]
theorem wsum_at (w a : Nat → Nat) {S T : Nat} (h : S ≤ T) (hT : T < 64) : a T * w T ≤ wsum w a S := by
  unfold wsum
  have := tot_at (f := fun T => if S ≤ T then a T * w T else 0) hT
  rw [if_pos h] at this
  exact this
end Ps
def pw_ (T : Nat) : Nat := 6 ^ (6 - pc T)
theorem pc_or : ∀ S, S < 64 → ∀ v, v < 6 → S.testBit v = false → pc (S ||| 2 ^ v) = pc S + 1 := by decide +kernel
theorem pw_step {P : Nat} {go : Nat → Nat → Bool} (hf : Fwd P go) {S : Nat} (hS : S < 64) {n : Nat} (hn : n ≤ 6) : tot n (fun u => if go S u = true then pw_ (S ||| 2 ^ u) else 0) ≤ pw_ S := by
  by_cases h5 : pc S ≤ 5
  · have h1 : tot n (fun u => if go S u = true then pw_ (S ||| 2 ^ u) else 0) ≤ n * 6 ^ (5 - pc S) := tot_le (fun u hu => by
      show (if go S u = true then pw_ (S ||| 2 ^ u) else 0) ≤ 6 ^ (5 - pc S)
      split
      · rename_i h
        unfold pw_
        rw [pc_or S hS u (by omega) (hf S u h).2, show 6 - (pc S + 1) = 5 - pc S by omega]
        exact Nat.le_refl _
      · exact Nat.zero_le _)
    have h2 : n * 6 ^ (5 - pc S) ≤ 6 * 6 ^ (5 - pc S) := Nat.mul_le_mul_right _ hn
    have h3 : pw_ S = 6 * 6 ^ (5 - pc S) := by
      unfold pw_
      rw [show 6 - pc S = (5 - pc S) + 1 by omega, Nat.pow_succ, Nat.mul_comm]
    omega
  · have h1 : tot n (fun u => if go S u = true then pw_ (S ||| 2 ^ u) else 0) ≤ n * 0 := tot_le (fun u hu => by
      show (if go S u = true then pw_ (S ||| 2 ^ u) else 0) ≤ 0
      split
      · rename_i h
        have e := pc_or S hS u (by omega) (hf S u h).2
        have := pc_le (S ||| 2 ^ u)
        omega
      · exact Nat.le_refl _)
    omega
def dlt (a0 : Nat) : Nat → Nat := fun T => if T = a0 then 1 else 0
theorem wsum_dlt (w : Nat → Nat) {a0 : Nat} (h : a0 < 64) : wsum w (dlt a0) a0 = w a0 := by
  unfold wsum
  have e := tot_upd (f := fun T => if a0 ≤ T then dlt a0 T * w T else 0) (g := fun _ => 0) (i := a0) (x := w a0) (n := 64) h (fun k hk => by
    show (if a0 ≤ k then dlt a0 k * w k else 0) = 0
    split
    · unfold dlt
      rw [if_neg hk, Nat.zero_mul]
    · rfl) (by
    show (if a0 ≤ a0 then dlt a0 a0 * w a0 else 0) = 0 + w a0
    rw [if_pos (Nat.le_refl _)]
    unfold dlt
    rw [if_pos rfl, Nat.one_mul, Nat.zero_add])
  rw [e, tot_zero, Nat.zero_add]
theorem pw_le (T : Nat) : pw_ T ≤ 46656 := by
  have : 6 ^ (6 - pc T) ≤ 6 ^ 6 := Nat.pow_le_pow_right (by decide) (by omega)
  exact this
/-- never many -/
theorem push_wle {P : Nat} {go : Nat → Nat → Bool} (hf : Fwd P go) (hP : P < 64) {n : Nat} (hn : n ≤ 6) {a0 : Nat} : ∀ k, a0 + k ≤ 64 → a0 < 64 → wsum pw_ (pushS go n a0 (dlt a0) k) (a0 + k) ≤ 46656
  | 0, _, h2 => by
    show wsum pw_ (dlt a0) a0 ≤ 46656
    rw [wsum_dlt pw_ h2]
    exact pw_le a0
  | k + 1, h, h2 => by
    have ih := push_wle hf hP hn k (by omega) h2
    have e1 := wsum_S pw_ (pushS go n a0 (dlt a0) k) (S := a0 + k) (by omega)
    have e2 := wsum_V hf hP pw_ (S := a0 + k) (by omega) (pushS go n a0 (dlt a0) k) n hn
    have e3 := Nat.mul_le_mul_left (pushS go n a0 (dlt a0) k (a0 + k)) (pw_step hf (S := a0 + k) (by omega) hn)
    show wsum pw_ (pushV go (a0 + k) (pushS go n a0 (dlt a0) k) n) (a0 + k + 1) ≤ 46656
    omega
theorem push_le {P : Nat} {go : Nat → Nat → Bool} (hf : Fwd P go) (hP : P < 64) {n : Nat} (hn : n ≤ 6) {a0 : Nat} (h2 : a0 < 64) {T : Nat} (hT : T < 64) : ∀ k, a0 + k ≤ 64 → pushS go n a0 (dlt a0) k T ≤ 46656
  | 0, _ => by
    show dlt a0 T ≤ 46656
    unfold dlt
    split <;> omega
  | k + 1, h => by
    by_cases c : T ≤ a0 + k
    · show pushV go (a0 + k) (pushS go n a0 (dlt a0) k) n T ≤ 46656
      rw [pushV_le hf _ _ c]
      exact push_le hf hP hn h2 hT k (by omega)
    · have h1 := push_wle hf hP hn (k + 1) h h2
      have h3 := wsum_at pw_ (pushS go n a0 (dlt a0) (k + 1)) (S := a0 + (k + 1)) (T := T) (by omega) hT
      have h4 : 0 < pw_ T := Nat.pow_pos (by decide)
      have h5 := Nat.le_mul_of_pos_right (pushS go n a0 (dlt a0) (k + 1) T) h4
      omega
/-- what lies beyond P adds nothing -/
theorem push_more {P : Nat} {go : Nat → Nat → Bool} (hf : Fwd P go) {n a0 : Nat} (ha : sub a0 P) (T : Nat) : ∀ j, pushS go n a0 (dlt a0) (P + 1 - a0 + j) T = pushS go n a0 (dlt a0) (P + 1 - a0) T
  | 0 => rfl
  | j + 1 => by
    show pushV go (a0 + (P + 1 - a0 + j)) (pushS go n a0 (dlt a0) (P + 1 - a0 + j)) n T = _
    rw [pushV_zero, push_more hf ha T j]
    refine Classical.byContradiction (fun z => ?_)
    have h1 := pushS_sup hf n a0 (dlt a0) (fun T hT => by
      unfold dlt at hT
      by_cases e : T = a0
      · rw [e]; exact ha
      · rw [if_neg e] at hT; exact absurd rfl hT) _ _ z
    have h2 : a0 + (P + 1 - a0 + j) ≤ P := by
      have h3 : (a0 + (P + 1 - a0 + j)) &&& P = a0 + (P + 1 - a0 + j) := Nat.eq_of_testBit_eq (fun i => by
        rw [Nat.testBit_and]
        cases e : (a0 + (P + 1 - a0 + j)).testBit i
        · rfl
        · rw [h1 i e]; rfl)
      rw [← h3]
      exact Nat.and_le_right
    omega
