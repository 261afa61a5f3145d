theorem tw_1398 : Cond.instantiable RX5 11 ∈ TBL := tbl_1 (i := 13) (by decide +kernel) (by decide +kernel)
theorem tw_1399 : Cond.instantiable RX6 26 ∈ TBL := tbl_4 (i := 74) (by decide +kernel) (by decide +kernel)
theorem tw_1400 : Cond.classLink RL 7 RX5 ∈ TBL := tbl_1 (i := 12) (by decide +kernel) (by decide +kernel)
theorem tw_1401 : Cond.code yX5_init cX5_init 2 none ∈ TBL := tbl_1 (i := 16) (by decide +kernel) (by decide +kernel)
theorem tw_1402 : Cond.methodLink RL 9 yX5_init ∈ TBL := tbl_1 (i := 14) (by decide +kernel) (by decide +kernel)
theorem tw_1403 : Cond.instanceMethod yX5_init ∈ TBL := tbl_1 (i := 15) (by decide +kernel) (by decide +kernel)
theorem tw_1404 : Cond.classLink RL 10 RX6 ∈ TBL := tbl_4 (i := 73) (by decide +kernel) (by decide +kernel)
theorem tw_1405 : Cond.code yX6_init cX6_init 2 none ∈ TBL := tbl_4 (i := 77) (by decide +kernel) (by decide +kernel)
theorem tw_1406 : Cond.methodLink RL 12 yX6_init ∈ TBL := tbl_4 (i := 75) (by decide +kernel) (by decide +kernel)
theorem tw_1407 : Cond.instanceMethod yX6_init ∈ TBL := tbl_4 (i := 76) (by decide +kernel) (by decide +kernel)
def pX : List Nat := [0, 1, 3, 2, 4, 6, 5, 7, 8, 9, 10, 11, 12, 13, 14, 15, 16, 17, 18, 19, 20, 21, 22, 23, 24, 25, 26, 33, 34, 35, 36, 37, 38, 39, 40, 41, 42, 43, 44, 45, 46, 47, 48, 49, 50, 51, 52, 53, 54, 55, 56, 57, 58, 59, 27, 28, 29, 30, 31, 32]
def pY : List Nat := [0, 1, 2, 3, 4, 5, 6, 7, 8, 9, 10, 11, 12, 13, 14, 15]
def GXo (D : va_G) (cI cJ cL : ClassId) (f : Nat → Nat) : XG := (D, fun k => f (pX.getD k 0), cI, cJ, cL)
def GYo (D : va_G) (cI cJ cL : ClassId) (f : Nat → Nat) : XG := (D, fun k => f (pY.getD k 0), cI, cJ, cL)
def MX0 : SX := (fun k => if k = 1 then (fun j => if j = 0 then 40 else 0) else if k = 2 then (fun j => if j < 6 then -1 else 0) else if k = 4 then (fun j => if j = 0 then 60 else 0) else if k = 5 then (fun j => if j < 4 then -1 else 0) else (fun _ => 0), fun k => if k = 0 then (fun j => if j = 10 then 1 else 0) else (fun _ => 0))
def MY0 : SX := (fun k => if k = 1 then (upd (upd (upd (fun _ => 0) 991 (-1)) 1982 (-1)) 2973 (-1)) else if k = 3 then (upd (upd (upd (upd (upd (upd (fun _ => 0) 0 (-1)) 1 (-1)) 2 (-1)) 3 (-1)) 4 (-1)) 5 (-1)) else if k = 5 then (upd (upd (upd (upd (fun _ => 0) 0 (-1)) 1 (-1)) 2 (-1)) 3 (-1)) else (fun _ => 0), fun k => if k = 0 then (fun j => if j = 9 then 1 else 0) else (fun _ => 0))
theorem arrV_eq {c : ClassId} {n : Nat} {f g : Nat → Value} (h : ∀ j, j < n → f j = g j) : arrV c n f = arrV c n g := by
  unfold arrV
  congr 1
  exact congrArg Array.ofFn (funext fun j => h j.val j.isLt)
set_option maxRecDepth 100000 in
set_option maxHeartbeats 4000000 in
theorem conv_X {D : va_G} {cI cJ cL : ClassId} {f : Nat → Nat} {H : Heap} (h : va_P D vwCl (kWX5_init cI cJ cL f) H) : va_P D vwCl (wd (GXo D cI cJ cL f) ZX MX0) H := by
  intro k q hk
  obtain ⟨h1, rfl⟩ := wd_at hk
  match k, h1 with
  | 0, _ => exact h 0 _ rfl
  | 1, _ => exact h 1 _ rfl
  | 2, _ => exact h 3 _ rfl
  | 3, _ => exact h 2 _ rfl
  | 4, _ => exact h 4 _ rfl
  | 5, _ => exact h 6 _ rfl
  | 6, _ => exact h 5 _ rfl
  | 7, _ => exact h 7 _ rfl
  | 8, _ => exact h 8 _ rfl
  | 9, _ => exact h 9 _ rfl
  | 10, _ => exact h 10 _ rfl
  | 11, _ => exact h 11 _ rfl
  | 12, _ => exact h 12 _ rfl
  | 13, _ => exact h 13 _ rfl
  | 14, _ => exact h 14 _ rfl
  | 15, _ => exact h 15 _ rfl
  | 16, _ => exact h 16 _ rfl
  | 17, _ => exact h 17 _ rfl
  | 18, _ => exact h 18 _ rfl
  | 19, _ => exact h 19 _ rfl
  | 20, _ => exact h 20 _ rfl
  | 21, _ => exact h 21 _ rfl
  | 22, _ => exact h 22 _ rfl
  | 23, _ => exact h 23 _ rfl
  | 24, _ => exact h 24 _ rfl
  | 25, _ => exact h 25 _ rfl
  | 26, _ =>
    have h2 := h 26 _ rfl
    show H[f 26]? = some (vp_cell cL _)
    have h3 : H[f 26]? = some (vp_cell cL _) := h2
    rw [h3, vp_cell_q, vp_cell_q]
    congr 1
  | 27, _ => exact h 33 _ rfl
  | 28, _ => exact h 34 _ rfl
  | 29, _ => exact h 35 _ rfl
  | 30, _ => exact h 36 _ rfl
  | 31, _ => exact h 37 _ rfl
  | 32, _ => exact h 38 _ rfl
  | 33, _ => exact h 39 _ rfl
  | 34, _ => exact h 40 _ rfl
  | 35, _ => exact h 41 _ rfl
  | 36, _ => exact h 42 _ rfl
  | 37, _ => exact h 43 _ rfl
  | 38, _ => exact h 44 _ rfl
  | 39, _ => exact h 45 _ rfl
  | 40, _ => exact h 46 _ rfl
  | 41, _ => exact h 47 _ rfl
  | 42, _ => exact h 48 _ rfl
  | 43, _ => exact h 49 _ rfl
  | 44, _ => exact h 50 _ rfl
  | 45, _ => exact h 51 _ rfl
  | 46, _ => exact h 52 _ rfl
  | 47, _ => exact h 53 _ rfl
  | 48, _ => exact h 54 _ rfl
  | 49, _ => exact h 55 _ rfl
  | 50, _ => exact h 56 _ rfl
  | 51, _ => exact h 57 _ rfl
  | 52, _ => exact h 58 _ rfl
  | 53, _ => exact h 59 _ rfl
  | 54, _ => exact h 27 _ rfl
  | 55, _ => exact h 28 _ rfl
  | 56, _ => exact h 29 _ rfl
  | 57, _ => exact h 30 _ rfl
  | 58, _ => exact h 31 _ rfl
  | 59, _ => exact h 32 _ rfl
  | k + 60, h9 => exact absurd h9 (by show ¬ (k + 60 < 60); omega)
set_option maxRecDepth 100000 in
set_option maxHeartbeats 4000000 in
theorem conv_Y {D : va_G} {cI cJ cL : ClassId} {f : Nat → Nat} {H : Heap} (h : va_P D vwCl (kWX6_init cI cJ cL f) H) : va_P D vwCl (wd (GYo D cI cJ cL f) ZY MY0) H := by
  intro k q hk
  obtain ⟨h1, rfl⟩ := wd_at hk
  match k, h1 with
  | 0, _ =>
    have h2 := h 0 _ rfl
    have e : entS (GYo D cI cJ cL f) MY0 0 (ZY.1 0) = .inr (6, [.ref (f 1), .int 0, .ref (f 2), .ref (f 3), .ref (f 4), .ref (f 5), .ref (f 6), .int 0, .long 0, .long 1, .int 0, .ref (f 7), .int 0, .int 0, .int 0, .ref (f 8), .int 0, .int 0, .ref (f 9), .ref (f 10), .ref (f 11), .ref (f 12), .int 0, .ref (f 13), .ref (f 14), .ref (f 15)]) := by
      rw [sM.2]
      simp [entS, fv, MY0, GYo, pY, List.mapIdx_cons]
    show va_at D vwCl (f 0, entS (GYo D cI cJ cL f) MY0 0 (ZY.1 0)) H
    rw [e]
    exact h2
  | 1, _ => exact h 1 _ rfl
  | 2, _ => exact h 2 _ rfl
  | 3, _ => exact h 3 _ rfl
  | 4, _ => exact h 4 _ rfl
  | 5, _ => exact h 5 _ rfl
  | 6, _ => exact h 6 _ rfl
  | 7, _ => exact h 7 _ rfl
  | 8, _ => exact h 8 _ rfl
  | 9, _ => exact h 9 _ rfl
  | 10, _ => exact h 10 _ rfl
  | 11, _ => exact h 11 _ rfl
  | 12, _ => exact h 12 _ rfl
  | 13, _ => exact h 13 _ rfl
  | 14, _ => exact h 14 _ rfl
  | 15, _ => exact h 15 _ rfl
  | k + 16, h9 => exact absurd h9 (by show ¬ (k + 16 < 16); omega)
theorem pX_lt : ∀ k, k < 60 → pX.getD k 0 < 60 := by decide
theorem pX_inj : ∀ i, i < 60 → ∀ j, j < 60 → pX.getD i 0 = pX.getD j 0 → i = j := by decide +kernel
theorem pY_lt : ∀ k, k < 16 → pY.getD k 0 < 16 := by decide
theorem pY_inj : ∀ i, i < 16 → ∀ j, j < 16 → pY.getD i 0 = pY.getD j 0 → i = j := by decide +kernel
theorem kW5_at {cI cJ cL : ClassId} {f : Nat → Nat} : ∀ i, i < 60 → ∃ e, (kWX5_init cI cJ cL f)[i]? = some (f i, e) := by
  intro i hi
  match i, hi with
  | 0, _ => exact ⟨_, rfl⟩
  | 1, _ => exact ⟨_, rfl⟩
  | 2, _ => exact ⟨_, rfl⟩
  | 3, _ => exact ⟨_, rfl⟩
  | 4, _ => exact ⟨_, rfl⟩
  | 5, _ => exact ⟨_, rfl⟩
  | 6, _ => exact ⟨_, rfl⟩
  | 7, _ => exact ⟨_, rfl⟩
  | 8, _ => exact ⟨_, rfl⟩
  | 9, _ => exact ⟨_, rfl⟩
  | 10, _ => exact ⟨_, rfl⟩
  | 11, _ => exact ⟨_, rfl⟩
  | 12, _ => exact ⟨_, rfl⟩
  | 13, _ => exact ⟨_, rfl⟩
  | 14, _ => exact ⟨_, rfl⟩
  | 15, _ => exact ⟨_, rfl⟩
  | 16, _ => exact ⟨_, rfl⟩
  | 17, _ => exact ⟨_, rfl⟩
  | 18, _ => exact ⟨_, rfl⟩
  | 19, _ => exact ⟨_, rfl⟩
  | 20, _ => exact ⟨_, rfl⟩
  | 21, _ => exact ⟨_, rfl⟩
  | 22, _ => exact ⟨_, rfl⟩
  | 23, _ => exact ⟨_, rfl⟩
  | 24, _ => exact ⟨_, rfl⟩
  | 25, _ => exact ⟨_, rfl⟩
  | 26, _ => exact ⟨_, rfl⟩
  | 27, _ => exact ⟨_, rfl⟩
  | 28, _ => exact ⟨_, rfl⟩
  | 29, _ => exact ⟨_, rfl⟩
  | 30, _ => exact ⟨_, rfl⟩
  | 31, _ => exact ⟨_, rfl⟩
  | 32, _ => exact ⟨_, rfl⟩
  | 33, _ => exact ⟨_, rfl⟩
  | 34, _ => exact ⟨_, rfl⟩
  | 35, _ => exact ⟨_, rfl⟩
  | 36, _ => exact ⟨_, rfl⟩
  | 37, _ => exact ⟨_, rfl⟩
  | 38, _ => exact ⟨_, rfl⟩
  | 39, _ => exact ⟨_, rfl⟩
  | 40, _ => exact ⟨_, rfl⟩
  | 41, _ => exact ⟨_, rfl⟩
  | 42, _ => exact ⟨_, rfl⟩
  | 43, _ => exact ⟨_, rfl⟩
  | 44, _ => exact ⟨_, rfl⟩
  | 45, _ => exact ⟨_, rfl⟩
  | 46, _ => exact ⟨_, rfl⟩
  | 47, _ => exact ⟨_, rfl⟩
  | 48, _ => exact ⟨_, rfl⟩
  | 49, _ => exact ⟨_, rfl⟩
  | 50, _ => exact ⟨_, rfl⟩
  | 51, _ => exact ⟨_, rfl⟩
  | 52, _ => exact ⟨_, rfl⟩
  | 53, _ => exact ⟨_, rfl⟩
  | 54, _ => exact ⟨_, rfl⟩
  | 55, _ => exact ⟨_, rfl⟩
  | 56, _ => exact ⟨_, rfl⟩
  | 57, _ => exact ⟨_, rfl⟩
  | 58, _ => exact ⟨_, rfl⟩
  | 59, _ => exact ⟨_, rfl⟩
  | k + 60, h9 => exact absurd h9 (by omega)
theorem kW6_at {cI cJ cL : ClassId} {f : Nat → Nat} : ∀ i, i < 16 → ∃ e, (kWX6_init cI cJ cL f)[i]? = some (f i, e) := by
  intro i hi
  match i, hi with
  | 0, _ => exact ⟨_, rfl⟩
  | 1, _ => exact ⟨_, rfl⟩
  | 2, _ => exact ⟨_, rfl⟩
  | 3, _ => exact ⟨_, rfl⟩
  | 4, _ => exact ⟨_, rfl⟩
  | 5, _ => exact ⟨_, rfl⟩
  | 6, _ => exact ⟨_, rfl⟩
  | 7, _ => exact ⟨_, rfl⟩
  | 8, _ => exact ⟨_, rfl⟩
  | 9, _ => exact ⟨_, rfl⟩
  | 10, _ => exact ⟨_, rfl⟩
  | 11, _ => exact ⟨_, rfl⟩
  | 12, _ => exact ⟨_, rfl⟩
  | 13, _ => exact ⟨_, rfl⟩
  | 14, _ => exact ⟨_, rfl⟩
  | 15, _ => exact ⟨_, rfl⟩
  | k + 16, h9 => exact absurd h9 (by omega)
theorem kW_apart {A : Nat → Prop} {cI cJ cL : ClassId} {f g : Nat → Nat} (hD : va_D A (kWX5_init cI cJ cL f ++ kWX6_init cI cJ cL g)) : (∀ i j, i < 60 → j < 60 → f i = f j → i = j) ∧ (∀ i j, i < 16 → j < 16 → g i = g j → i = j) ∧ (∀ i j, i < 60 → j < 16 → f i ≠ g j) ∧ (∀ i, i < 60 → A (f i)) ∧ (∀ j, j < 16 → A (g j)) := by
  have hl : (kWX5_init cI cJ cL f).length = 60 := rfl
  have h1 : ∀ i, i < 60 → ∃ e, (kWX5_init cI cJ cL f ++ kWX6_init cI cJ cL g)[i]? = some (f i, e) := fun i hi => by
    obtain ⟨e, he⟩ := kW5_at (cI := cI) (cJ := cJ) (cL := cL) (f := f) i hi
    exact ⟨e, by rw [List.getElem?_append_left (by rw [hl]; exact hi)]; exact he⟩
  have h2 : ∀ j, j < 16 → ∃ e, (kWX5_init cI cJ cL f ++ kWX6_init cI cJ cL g)[60 + j]? = some (g j, e) := fun j hj => by
    obtain ⟨e, he⟩ := kW6_at (cI := cI) (cJ := cJ) (cL := cL) (f := g) j hj
    exact ⟨e, by rw [List.getElem?_append_right (by rw [hl]; omega), hl, Nat.add_sub_cancel_left]; exact he⟩
  refine ⟨fun i j hi hj e => ?_, fun i j hi hj e => ?_, fun i j hi hj e => ?_, fun i hi => ?_, fun j hj => ?_⟩
  · obtain ⟨a, ha⟩ := h1 i hi
    obtain ⟨b, hb⟩ := h1 j hj
    exact hD.1 i j _ _ ha hb e
  · obtain ⟨a, ha⟩ := h2 i hi
    obtain ⟨b, hb⟩ := h2 j hj
    have := hD.1 _ _ _ _ ha hb e
    omega
  · obtain ⟨a, ha⟩ := h1 i hi
    obtain ⟨b, hb⟩ := h2 j hj
    have := hD.1 _ _ _ _ ha hb e
    omega
  · obtain ⟨a, ha⟩ := h1 i hi
    exact hD.2 _ _ ha
  · obtain ⟨b, hb⟩ := h2 j hj
    exact hD.2 _ _ hb
theorem rel0 : Rel MX0 MY0 := by
  refine ⟨⟨rfl, fun r hr => ?_⟩, ⟨rfl, fun r hr => ?_⟩, ⟨rfl, rfl, rfl, rfl, fun f _ => rfl⟩, 0, Or.inl rfl, rfl, ⟨0, fun _ => fun _ _ => 0, fun _ => rfl, ?_⟩, fun k hk => Or.inl ⟨?_, ?_⟩⟩
  · rcases six6 (show r ≤ 5 by omega) with rfl | rfl | rfl | rfl | rfl | rfl <;> exact ⟨rfl, Or.inl rfl⟩
  · rcases (show r = 0 ∨ r = 1 ∨ r = 2 ∨ r = 3 by omega) with rfl | rfl | rfl | rfl <;> exact ⟨rfl, Or.inl rfl⟩
  · exact ⟨by omega, ⟨rfl, fun s hs => absurd hs (Nat.not_lt_zero s)⟩, rfl, fun s hs => absurd hs (Nat.not_lt_zero s), rfl, fun i hi => absurd hi (Nat.not_lt_zero i), fun i _ => ⟨Nat.zero_le _, fun s hs => absurd hs (Nat.not_lt_zero s)⟩⟩
  · rcases (show k = 0 ∨ k = 1 ∨ k = 2 by omega) with rfl | rfl | rfl <;> rfl
  · rcases (show k = 0 ∨ k = 1 ∨ k = 2 by omega) with rfl | rfl | rfl <;> rfl
