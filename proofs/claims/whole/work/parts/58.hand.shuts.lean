/-! who shuts -/
def ruin (σ : LV) (v : Nat) : Bool := decide (0 < σ 3 v) && decide (σ 1 (σ 3 v - 1) < due σ v 0)
def orIf (c : Bool) (T k : Nat) : Nat := if c = true then T ||| 2 ^ k else T
theorem orIf_sub (c : Bool) (T k : Nat) : sub T (orIf c T k) := by
  unfold orIf
  split
  · exact sub_or
  · exact sub_refl T
theorem orIf_lt {c : Bool} {T k n : Nat} (hT : T < 2 ^ n) (hk : c = true → k < n) : orIf c T k < 2 ^ n := by
  unfold orIf
  split
  · rename_i h
    exact or2_lt hT (hk h)
  · exact hT
theorem or2_sub {T k C : Nat} (h : sub T C) (hk : C.testBit k = true) : sub (T ||| 2 ^ k) C := fun v hv0 => by
  rw [Nat.testBit_or, Bool.or_eq_true, Nat.testBit_two_pow, decide_eq_true_iff] at hv0
  rcases hv0 with g | g
  · exact h v g
  · rw [← g]; exact hk
theorem orIf_in {c : Bool} {T k C : Nat} (h : sub T C) (hk : c = true → C.testBit k = true) : sub (orIf c T k) C := by
  unfold orIf
  split
  · rename_i g
    exact or2_sub h (hk g)
  · exact h
theorem orIf_has {c : Bool} {T k : Nat} (h : c = true) : (orIf c T k).testBit k = true := by
  unfold orIf
  rw [if_pos h, Nat.testBit_or, tb_self, Bool.or_true]
def swx (σ : LV) : Nat → Nat → Nat
  | 0, S => S
  | i + 1, S => orIf ((orIf (heldIn σ i (swx σ i S)) (swx σ i S) i).testBit i && ruin σ i) (orIf (heldIn σ i (swx σ i S)) (swx σ i S) i) (σ 3 i - 1)
def swy (σ : LV) (S : Nat) : Nat → Nat
  | 0 => S
  | i + 1 => orIf (S.testBit i && ruin σ i) (orIf (heldIn σ i S) (swy σ S i) i) (σ 3 i - 1)
theorem ruin_h {n d : Nat} {σ : LV} (hV : Valid n d σ) {v : Nat} (hv0 : v < n) {c : Bool} (h : (c && ruin σ v) = true) : σ 3 v - 1 < n := by
  unfold ruin at h
  rw [Bool.and_eq_true, Bool.and_eq_true] at h
  have h1 := of_decide_eq_true h.2.1
  have h2 := (hV.2 v hv0).2.2.1
  omega
theorem swx_lt {n d : Nat} {σ : LV} (hV : Valid n d σ) {S : Nat} (hS : S < 2 ^ n) : ∀ i, i ≤ n → swx σ i S < 2 ^ n
  | 0, _ => hS
  | i + 1, hi => orIf_lt (orIf_lt (swx_lt hV hS i (by omega)) (fun _ => by omega)) (fun h => ruin_h hV (by omega) h)
theorem swy_lt {n d : Nat} {σ : LV} (hV : Valid n d σ) {S : Nat} (hS : S < 2 ^ n) : ∀ i, i ≤ n → swy σ S i < 2 ^ n
  | 0, _ => hS
  | i + 1, hi => orIf_lt (orIf_lt (swy_lt hV hS i (by omega)) (fun _ => by omega)) (fun h => ruin_h hV (by omega) h)
theorem swx_step (σ : LV) (S i : Nat) : sub (swx σ i S) (swx σ (i + 1) S) := sub_trans (orIf_sub _ _ i) (orIf_sub _ _ _)
theorem swy_step (σ : LV) (S i : Nat) : sub (swy σ S i) (swy σ S (i + 1)) := sub_trans (orIf_sub _ _ i) (orIf_sub _ _ _)
theorem swx_mono (σ : LV) (S i : Nat) : ∀ j, sub (swx σ i S) (swx σ (i + j) S)
  | 0 => sub_refl _
  | j + 1 => sub_trans (swx_mono σ S i j) (swx_step σ S (i + j))
theorem swy_mono (σ : LV) (S i : Nat) : ∀ j, sub (swy σ S i) (swy σ S (i + j))
  | 0 => sub_refl _
  | j + 1 => sub_trans (swy_mono σ S i j) (swy_step σ S (i + j))
def Clo (n : Nat) (σ : LV) (C : Nat) : Prop := ∀ v, v < n → (heldIn σ v C = true → C.testBit v = true) ∧ (C.testBit v = true → ruin σ v = true → C.testBit (σ 3 v - 1) = true)
theorem held_mono {σ : LV} {v S T : Nat} (h : sub S T) (g : heldIn σ v S = true) : heldIn σ v T = true := by
  unfold heldIn at *
  rw [Bool.and_eq_true] at *
  exact ⟨g.1, h _ g.2⟩
theorem swx_in {n : Nat} {σ : LV} {C S : Nat} (hC : Clo n σ C) (h : sub S C) : ∀ i, i ≤ n → sub (swx σ i S) C
  | 0, _ => h
  | i + 1, hi => by
    have ih := swx_in hC h i (by omega)
    have c := hC i (by omega)
    have i1 : sub (orIf (heldIn σ i (swx σ i S)) (swx σ i S) i) C := orIf_in ih (fun g => c.1 (held_mono ih g))
    refine orIf_in i1 (fun g => ?_)
    rw [Bool.and_eq_true] at g
    exact c.2 (i1 _ g.1) g.2
theorem swy_in {n : Nat} {σ : LV} {C S : Nat} (hC : Clo n σ C) (h : sub S C) : ∀ i, i ≤ n → sub (swy σ S i) C
  | 0, _ => h
  | i + 1, hi => by
    have c := hC i (by omega)
    refine orIf_in (orIf_in (swy_in hC h i (by omega)) (fun g => c.1 (held_mono h g))) (fun g => ?_)
    rw [Bool.and_eq_true] at g
    exact c.2 (h _ g.1) g.2
theorem swx_clo {n : Nat} {σ : LV} {S : Nat} (h : swx σ n S = S) : Clo n σ S := by
  have hall : ∀ i, i ≤ n → swx σ i S = S := fun i hi => by
    refine sub_anti ?_ ?_
    · have := swx_mono σ S i (n - i)
      rw [show i + (n - i) = n by omega, h] at this
      exact this
    · have := swx_mono σ S 0 i
      rw [Nat.zero_add] at this
      exact this
  intro v hv0
  have e1 := hall v (by omega)
  have e2 := hall (v + 1) (by omega)
  rw [swx, e1] at e2
  have s1 : sub (orIf (heldIn σ v S) S v) S := by
    have := orIf_sub ((orIf (heldIn σ v S) S v).testBit v && ruin σ v) (orIf (heldIn σ v S) S v) (σ 3 v - 1)
    rw [e2] at this
    exact this
  have e3 : orIf (heldIn σ v S) S v = S := sub_anti s1 (orIf_sub _ _ _)
  rw [e3] at e2
  refine ⟨fun g => s1 v (orIf_has g), fun g1 g2 => ?_⟩
  have := orIf_has (c := S.testBit v && ruin σ v) (T := S) (k := σ 3 v - 1) (by rw [g1, g2]; rfl)
  rw [e2] at this
  exact this
theorem swy_clo {n : Nat} {σ : LV} {S : Nat} (h : swy σ S n = S) : Clo n σ S := by
  intro v hv0
  have hm := swy_mono σ S (v + 1) (n - (v + 1))
  rw [show v + 1 + (n - (v + 1)) = n by omega, h] at hm
  rw [swy] at hm
  refine ⟨fun g => hm v (orIf_sub _ _ _ v (orIf_has g)), fun g1 g2 => hm _ (orIf_has (by rw [g1, g2]; rfl))⟩
def shutS (n : Nat) (σ : LV) (s : Nat) : Nat := itF (fun S => swx σ n S) (n - 1) (2 ^ s)
theorem itF_sub {F : Nat → Nat} (h : ∀ S, sub S (F S)) (S : Nat) : ∀ k, sub S (itF F k S)
  | 0 => sub_refl S
  | k + 1 => sub_trans (itF_sub h S k) (h _)
theorem itF_in {F : Nat → Nat} {C : Nat} (h : ∀ S, sub S C → sub (F S) C) {S : Nat} (hS : sub S C) : ∀ k, sub (itF F k S) C
  | 0 => hS
  | k + 1 => h _ (itF_in h hS k)
theorem shut_eq {n d : Nat} (hn : n ≤ 6) {σ : LV} (hV : Valid n d σ) {s : Nat} (hs : s < n) : itF (fun S => swy σ S n) 6 (2 ^ s) = shutS n σ s := by
  have xl : ∀ S, S < 2 ^ n → swx σ n S < 2 ^ n := fun S h => swx_lt hV h n (Nat.le_refl n)
  have yl : ∀ S, S < 2 ^ n → swy σ S n < 2 ^ n := fun S h => swy_lt hV h n (Nat.le_refl n)
  have xs : ∀ S, sub S (swx σ n S) := fun S => by have := swx_mono σ S 0 n; rw [Nat.zero_add] at this; exact this
  have ys : ∀ S, sub S (swy σ S n) := fun S => by have := swy_mono σ S 0 n; rw [Nat.zero_add] at this; exact this
  have fx := itF_fix xl (fun S _ => xs S) (one_lt hs) ⟨s, tb_self s⟩
  have fy := itF_fix yl (fun S _ => ys S) (one_lt hs) ⟨s, tb_self s⟩
  have e6 := itF_to6 hn yl (fun S _ => ys S) (one_lt hs) ⟨s, tb_self s⟩
  rw [e6]
  unfold shutS
  have cx : Clo n σ (itF (fun S => swx σ n S) (n - 1) (2 ^ s)) := swx_clo fx
  have cy : Clo n σ (itF (fun S => swy σ S n) (n - 1) (2 ^ s)) := swy_clo fy
  exact sub_anti (itF_in (fun S h => swy_in cx h n (Nat.le_refl n)) (itF_sub xs _ _) _) (itF_in (fun S h => swx_in cy h n (Nat.le_refl n)) (itF_sub ys _ _) _)
section Sh
variable {b n d : Nat} {M : SX} {σ : LV}
theorem ruins_X (hX : XRep b M n σ) (hn : n ≤ 6) (hV : Valid n d σ) (hd : d ≤ 40) {v : Nat} (hv0 : v < n) : p1_ruinsHolder b (nI v) M = some (if ruin σ v = true then 1 else 0, M) := by
  have h1 := due_le hV hv0 0
  rw [p1_ruinsHolder, isPawned_X hX hn hV hv0, bd_s, it01]
  unfold ruin
  by_cases h0 : σ 3 v = 0
  · rw [if_neg (by omega), h0]; rfl
  · have hh : σ 3 v - 1 < n := by have := (hV.2 v hv0).2.2.1; omega
    have h2 := cash_le hV hh
    have e4 := (hX.2 v hv0).2.2.2.1
    rw [hv_nI h0] at e4
    rw [if_pos (by omega), show p1_dueOf b (nI v) 0 M = _ from dueOf_X hX hn hV hd hv0 (w := 0) (by omega), bd_s, gd_of (bIn_nI (by omega) (by decide)), nI_clamp (by omega), e4, gd_of (bIn_nI (by omega) (by decide)), nI_clamp (by omega), (hX.2 _ hh).2.1, decide_eq_true (by omega : 0 < σ 3 v), Bool.true_and]
    by_cases c : due σ v 0 ≤ σ 1 (σ 3 v - 1)
    · rw [if_pos ((nI_leI (by omega) (by omega)).mpr c), decide_eq_false (by omega)]
      rfl
    · rw [if_neg (fun z => c ((nI_leI (by omega) (by omega)).mp z)), decide_eq_true (by omega)]
      rfl
theorem shutBy_X (hX : XRep b M n σ) (hn : n ≤ 6) (hV : Valid n d σ) (hd : d ≤ 40) {s : Nat} (hs : s < n) : p1_shutBy b (nI s) M = some (nI (shutS n σ s), M) := by
  rw [p1_shutBy, lt_v, shl1 s (by omega)]
  refine lp2_go (fun j => nI (itF (fun S => swx σ n S) j (2 ^ s))) (fun j => nI (1 + j)) (fun _ => M) (n - 1) (by omega) _ (fun j hj rc => ?_) (fun rc => ?_)
  · have hS : itF (fun S => swx σ n S) j (2 ^ s) < 2 ^ n := itF_lt (F := fun S => swx σ n S) (fun S h => swx_lt hV h n (Nat.le_refl n)) (one_lt hs) j
    show p1_shutBy_6 b rc (nI (itF (fun S => swx σ n S) j (2 ^ s))) (nI (1 + j)) M = rc (nI (swx σ n (itF (fun S => swx σ n S) j (2 ^ s)))) (nI (1 + (j + 1))) M
    generalize itF (fun S => swx σ n S) j (2 ^ s) = S at hS
    rw [p1_shutBy_6, hX.1, if_neg (nI_ge (by omega) (by omega))]
    refine lp3_go (fun i => nI (swx σ i S)) (fun _ => nI (1 + j)) (fun i => nI i) (fun _ => M) n (by omega) _ (fun i hi rc2 => ?_) (fun rc2 => ?_)
    · have hT := swx_lt hV hS i (by omega)
      have mid : ∀ T, T < 2 ^ n → p1_shutBy_43 b rc rc2 (nI T) (nI (1 + j)) (nI i) M = rc2 (nI (orIf (T.testBit i && ruin σ i) T (σ 3 i - 1))) (nI (1 + j)) (nI (i + 1)) M := by
        intro T hT
        rw [p1_shutBy_43, isIn_X (l31 hn hT) (by omega), bd_s, it01]
        unfold orIf
        by_cases t : T.testBit i = true
        · rw [if_pos t, ruins_X hX hn hV hd hi, bd_s, it01, t, Bool.true_and]
          by_cases r : ruin σ i = true
          · have hh := ruin_h hV hi (c := true) (by rw [r]; rfl)
            have h0 : ¬ σ 3 i = 0 := by
              intro z
              unfold ruin at r
              rw [z] at r
              exact absurd r (by simp)
            have e4 := (hX.2 i hi).2.2.2.1
            rw [hv_nI h0] at e4
            rw [if_pos r, if_pos r, gd_of (bIn_nI (by omega) (by decide)), nI_clamp (by omega), e4, lt_v, p1_shutBy_73, lt_v, shl1 _ (by omega), or_nI, nI_1]
          · rw [if_neg r, if_neg r, p1_shutBy_73, lt_v, nI_1]
        · have tf : T.testBit i = false := by simpa using t
          rw [if_neg t, tf, Bool.false_and, if_neg (by decide), p1_shutBy_73, lt_v, nI_1]
      rw [p1_shutBy_17, hX.1, if_neg (nI_ge hi (by omega)), isHeldIn_X hX hn hV hi hT, bd_s, it01, swx]
      by_cases h : heldIn σ i (swx σ i S) = true
      · rw [if_pos h, lt_v, shl1 i (by omega), or_nI, mid _ (or2_lt hT hi), show orIf (heldIn σ i (swx σ i S)) (swx σ i S) i = swx σ i S ||| 2 ^ i by unfold orIf; rw [if_pos h]]
      · rw [if_neg h, mid _ hT, show orIf (heldIn σ i (swx σ i S)) (swx σ i S) i = swx σ i S by unfold orIf; rw [if_neg h]]
    · rw [p1_shutBy_17, hX.1, if_pos (Int32.le_refl _), lt_v, nI_1]
      rfl
  · rw [p1_shutBy_6, hX.1, if_pos (nI_le (by omega) (by omega))]
    rfl
theorem shuts_Y (h0 : M.1 0 1 = nI n) (hY : YRep 0 M n σ) (hn : n ≤ 6) (hV : Valid n d σ) (hd : d ≤ 40) {s : Nat} (hs : s < n) : xlp3 p6_shuts_16 FU (nI s) (nI (2 ^ s)) 0 M = some (nI (shutS n σ s) &&& (nI (2 ^ s) ^^^ (-1)), M) := by
  rw [← shut_eq hn hV hs]
  refine lp3_go (fun _ => nI s) (fun j => nI (itF (fun S => swy σ S n) j (2 ^ s))) (fun j => nI j) (fun _ => M) 6 (by omega) _ (fun j hj rc => ?_) (fun rc => ?_)
  · have hS : itF (fun S => swy σ S n) j (2 ^ s) < 2 ^ n := itF_lt (F := fun S => swy σ S n) (fun S h => swy_lt hV h n (Nat.le_refl n)) (one_lt hs) j
    show p6_shuts_16 rc (nI s) (nI (itF (fun S => swy σ S n) j (2 ^ s))) (nI j) M = rc (nI s) (nI (swy σ (itF (fun S => swy σ S n) j (2 ^ s)) n)) (nI (j + 1)) M
    generalize itF (fun S => swy σ S n) j (2 ^ s) = S at hS
    rw [p6_shuts_16, if_neg (show ¬ (6 : Int32) ≤ nI j from nI_ge (b := 6) (by omega) (by omega))]
    refine lp5_go (fun _ => nI s) (fun _ => nI S) (fun _ => nI j) (fun i => nI (swy σ S i)) (fun i => nI i) (fun _ => M) n (by omega) _ (fun i hi rc2 => ?_) (fun rc2 => ?_)
    · have ix := ix7 (s := i) (by omega)
      have e4 := (hY i hi).2.2.2.1
      rw [Nat.zero_add] at e4
      have hh6 : σ 3 i ≤ 6 := Nat.le_trans (hV.2 i hi).2.2.1 hn
      have h1 := due_le hV hi 0
      have mid : ∀ T t1, p6_shuts_75 rc rc2 (nI s) (nI S) (nI j) (nI i) (hv (σ 3 i)) (nI T) t1 M = lt_ (nI T ||| t1) (fun x1 => rc2 (nI s) (nI S) (nI j) (x1 ||| (if (S.testBit i && ruin σ i) = true then nI (2 ^ (σ 3 i - 1)) else 0)) (nI (i + 1)) M) := by
        intro T t1
        rw [p6_shuts_75, lt_v, lt_v]
        by_cases z : σ 3 i = 0
        · have : ruin σ i = false := by unfold ruin; rw [z]; rfl
          rw [if_pos ((hv_m9 hh6).mpr z), p6_shuts_122, p6_shuts_123, lt_v, lt_v, this, Bool.and_false, if_neg (by decide), nI_1]
        · have hh : σ 3 i - 1 < n := by have := (hV.2 i hi).2.2.1; omega
          have h2 := cash_le hV hh
          have hy1 := (hY _ hh).2.1
          rw [Nat.zero_add] at hy1
          have ix1' := ix1 (s := σ 3 i - 1) (by omega)
          rw [if_neg (fun w => z ((hv_m9 hh6).mp w)), has_Y (l31 hn hS) (by omega), bd_s, it01]
          by_cases t : S.testBit i = true
          · rw [if_pos t, show p6_dueIn (nI i) 0 M = _ from dueIn_Y hY hn hV hd hi (w := 0) (by omega), bd_s, hv_nI z, gd_of ix1'.1, ix1'.2, hy1, t, Bool.true_and]
            have er : ruin σ i = decide (σ 1 (σ 3 i - 1) < due σ i 0) := by unfold ruin; rw [decide_eq_true (by omega : 0 < σ 3 i), Bool.true_and]
            by_cases c : due σ i 0 ≤ σ 1 (σ 3 i - 1)
            · rw [if_pos ((nI_leI (by omega) (by omega)).mpr c), er, decide_eq_false (by omega), p6_shuts_122, p6_shuts_123, lt_v, lt_v, if_neg (by decide), nI_1]
            · rw [if_neg (fun w => c ((nI_leI (by omega) (by omega)).mp w)), er, decide_eq_true (by omega), p6_shuts_123, lt_v, lt_v, shl1 _ (by omega), if_pos rfl, nI_1]
          · have tf : S.testBit i = false := by simpa using t
            rw [if_neg t, tf, Bool.false_and, p6_shuts_122, p6_shuts_123, lt_v, lt_v, if_neg (by decide), nI_1]
      have fin : ∀ T : Nat, (nI T ||| (if (S.testBit i && ruin σ i) = true then nI (2 ^ (σ 3 i - 1)) else 0)) = nI (orIf (S.testBit i && ruin σ i) T (σ 3 i - 1)) := by
        intro T
        unfold orIf
        by_cases c : (S.testBit i && ruin σ i) = true
        · rw [if_pos c, if_pos c, or_nI]
        · rw [if_neg c, if_neg c, or0]
      rw [p6_shuts_28, h0, if_neg (nI_ge hi (by omega)), gd_of ix.1, ix.2, e4, lt_v, swy]
      by_cases z : σ 3 i = 0
      · have hf : heldIn σ i S = false := by unfold heldIn; rw [z]; rfl
        rw [if_pos ((hv_m9 hh6).mpr z), p6_shuts_74, mid, lt_v, or0, fin, hf, show orIf false (swy σ S i) i = swy σ S i from rfl]
      · have hh : σ 3 i - 1 < n := by have := (hV.2 i hi).2.2.1; omega
        have hf : heldIn σ i S = S.testBit (σ 3 i - 1) := by unfold heldIn; rw [decide_eq_true (by omega : 0 < σ 3 i), Bool.true_and]
        rw [if_neg (fun w => z ((hv_m9 hh6).mp w))]
        have hq : p6_has (nI S) (hv (σ 3 i)) M = some (if S.testBit (σ 3 i - 1) = true then 1 else 0, M) := by rw [hv_nI z]; exact has_Y (l31 hn hS) (by omega) M
        rw [hq, bd_s, it01, hf]
        by_cases t : S.testBit (σ 3 i - 1) = true
        · rw [if_pos t, mid, lt_v, shl1 i (by omega), or_nI, fin, t, show orIf true (swy σ S i) i = swy σ S i ||| 2 ^ i from rfl]
        · have tf : S.testBit (σ 3 i - 1) = false := by simpa using t
          rw [if_neg t, p6_shuts_74, mid, lt_v, or0, fin, tf, show orIf false (swy σ S i) i = swy σ S i from rfl]
    · rw [p6_shuts_28, h0, if_pos (Int32.le_refl _), lt_v, nI_1]
  · rw [p6_shuts_16, if_pos (by decide), shl1 s (by omega)]
end Sh
theorem ag_shuts (a1 : Int32) (MX MY : SX) (hR : Rel MX MY) : Ag (p5_shuts a1 MX) (p6_shuts a1 MY) := by
  obtain ⟨n, d, σ, hH⟩ := rel_here hR
  rw [p5_shuts, p6_shuts]
  refine ag_shopg hR hH a1 (fun s hs e => ?_) (by rw [if_pos rfl]) (by rw [if_pos rfl])
  subst e
  obtain ⟨hn, hd, h0, hX, hY, hV, h7, h1⟩ := hH
  rw [if_neg i10, if_neg i10, shutBy_X hX hn hV hd hs, bd_s, lt_v, shl1 s (by omega), shuts_Y h0 hY hn hV hd hs]
  exact ag_no hR _
