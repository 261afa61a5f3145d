/-! the words that hold all along: those of the tables that are kept -/
def TBL : List Cond := lw_tbl.filter goodWord
theorem tbl_good {w : Cond} (h : w ∈ TBL) : w ∈ lw_tbl ∧ ((w.onTables && w.keeps) = true ∨ ∃ ty, w = .arrayClass ty) := ⟨(List.mem_filter.mp h).1, good_of_word (List.mem_filter.mp h).2⟩
theorem tbl_sel {i : Nat} {w : Cond} (h : (k2_sels lw_privs)[i]? = some w) (g : goodWord w = true) : w ∈ TBL := List.mem_filter.mpr ⟨List.mem_append_left _ (List.mem_of_getElem? h), g⟩
theorem tbl_1 {i : Nat} {w : Cond} (h : tables_1_1[i]? = some w) (g : goodWord w = true) : w ∈ TBL := List.mem_filter.mpr ⟨List.mem_append_right _ (List.mem_append_left _ (List.mem_of_getElem? h)), g⟩
theorem tbl_2 {i : Nat} {w : Cond} (h : tables_1_2[i]? = some w) (g : goodWord w = true) : w ∈ TBL := List.mem_filter.mpr ⟨List.mem_append_right _ (List.mem_append_right _ (List.mem_append_left _ (List.mem_of_getElem? h))), g⟩
theorem tbl_3 {i : Nat} {w : Cond} (h : tables_1_3[i]? = some w) (g : goodWord w = true) : w ∈ TBL := List.mem_filter.mpr ⟨List.mem_append_right _ (List.mem_append_right _ (List.mem_append_right _ (List.mem_append_left _ (List.mem_of_getElem? h)))), g⟩
theorem tbl_4 {i : Nat} {w : Cond} (h : tables_1_4[i]? = some w) (g : goodWord w = true) : w ∈ TBL := List.mem_filter.mpr ⟨List.mem_append_right _ (List.mem_append_right _ (List.mem_append_right _ (List.mem_append_right _ (List.mem_append_left _ (List.mem_of_getElem? h))))), g⟩
theorem tbl_5 {i : Nat} {w : Cond} (h : tables_1_5[i]? = some w) (g : goodWord w = true) : w ∈ TBL := List.mem_filter.mpr ⟨List.mem_append_right _ (List.mem_append_right _ (List.mem_append_right _ (List.mem_append_right _ (List.mem_append_right _ (List.mem_append_left _ (List.mem_of_getElem? h)))))), g⟩
theorem tbl_6 {i : Nat} {w : Cond} (h : tables_1_6[i]? = some w) (g : goodWord w = true) : w ∈ TBL := List.mem_filter.mpr ⟨List.mem_append_right _ (List.mem_append_right _ (List.mem_append_right _ (List.mem_append_right _ (List.mem_append_right _ (List.mem_append_right _ (List.mem_of_getElem? h)))))), g⟩
theorem good_V {own C : String} {idx : Nat} {y : MethodName} {cd : Cond} (h1 : Cond.methodLink own idx y ∈ TBL) (h2 : Cond.instanceMethod y ∈ TBL) (h3 : Cond.selects C y y ∈ TBL) (h4 : Cond.initialized C ∈ TBL) (h5 : cd ∈ TBL) : GoodIn TBL (wsV own idx C y (cd :: TBL)) := by
  intro w hw
  have hm : w ∈ TBL := by
    rcases List.mem_append.mp hw with h | h
    · rcases List.mem_cons.mp h with rfl | h
      · exact h1
      · rcases List.mem_cons.mp h with rfl | h
        · exact h2
        · rcases List.mem_cons.mp h with rfl | h
          · exact h3
          · rcases List.mem_cons.mp h with rfl | h
            · exact h4
            · exact absurd h List.not_mem_nil
    · rcases List.mem_cons.mp h with rfl | h
      · exact h5
      · exact h
  exact ⟨hm, (tbl_good hm).2⟩
theorem good_C {cd : Cond} (h5 : cd ∈ TBL) : GoodIn TBL (cd :: TBL) := by
  intro w hw
  have hm : w ∈ TBL := by
    rcases List.mem_cons.mp hw with rfl | h
    · exact h5
    · exact h
  exact ⟨hm, (tbl_good hm).2⟩
/-! the words of nest mates -/
def nst : List (String × Nat × MethodName) := [("PawnLane$Lane", 66, yX5_isIn), ("PawnLane$Lane", 70, yX5_dueWith), ("PawnLane$Lane", 78, yX5_isOfKind), ("PawnLane$Orders", 44, yX5_isIn), ("PawnLane", 23, yX3_init), ("PawnLane", 30, yX1_init), ("PawnLane", 41, yX2_init), ("PawnLane$Lane", 36, yX0_init), ("PawnLane$Reader", 11, yX1_init)]
def NW (U : State) : Prop := ∀ q ∈ nst, va_Nw (.methodLinkNest q.1 q.2.1 q.2.2 "PawnLane") U
theorem NW.warm {s U : State} (h : NW s) (hW : s.WarmedH U.vm) : NW U := fun q hq => va_Nw.warmM hW (h q hq)
theorem NW.same {s U : State} (h : NW s) (hv : s.vm = U.vm) : NW U := fun q hq => va_Nw.same rfl hv (h q hq)
/-! the state: whole numbers and long ones, by cell and place -/
abbrev SX : Type := (Nat → Nat → Int32) × (Nat → Nat → Int64)
def wR (M : SX) (k : Nat) (f : Nat → Int32) : SX := (fun a => if a = k then f else M.1 a, M.2)
def wL (M : SX) (k : Nat) (f : Nat → Int64) : SX := (M.1, fun a => if a = k then f else M.2 a)
def wI (M : SX) (k j : Nat) (v : Int32) : SX := wR M k (upd (M.1 k) j v)
def wJ (M : SX) (k j : Nat) (v : Int64) : SX := wL M k (vp_updL (M.2 k) j v)
/-- a cell's shape: an object (its number among vwCl; its fields: 0 an int, 1 a long, n + 2 the cell n), or an array (0 ints, 1 longs, n + 2 the cells from n on, by nines; its length) -/
abbrev Shp : Type := (Nat × List Nat) ⊕ (Nat × Nat)
abbrev Zh : Type := (Nat → Shp) × Nat
/-- what is fixed of a heap: places of fields, addresses, the array kinds -/
abbrev XG : Type := va_G × (Nat → Nat) × ClassId × ClassId × ClassId
def fv (G : XG) (M : SX) (k j : Nat) : Nat → Value
  | 0 => .int (M.1 k j)
  | 1 => .long (M.2 k j)
  | n + 2 => .ref (G.2.1 n)
def entS (G : XG) (M : SX) (k : Nat) : Shp → va_E
  | .inl q => .inr (q.1, q.2.mapIdx (fun j c => fv G M k j c))
  | .inr (0, n) => .inl (G.2.2.1, n, .inl (M.1 k))
  | .inr (1, n) => .inl (G.2.2.2.1, n, .inr (.inl (M.2 k)))
  | .inr (b + 2, n) => .inl (G.2.2.2.2, n, .inr (.inr (.inr (.inr (fun j => some (G.2.1 (b + 9 * j)))))))
def wd (G : XG) (Z : Zh) (M : SX) : va_W := (List.range Z.2).map (fun k => (G.2.1 k, entS G M k (Z.1 k)))
def tysOf (G : XG) : List (ClassId × FieldType) := [(G.2.2.1, .int), (G.2.2.2.1, .long), (G.2.2.2.2, .object "PawnLane$Lane")]
def inA (G : XG) (Z : Zh) : Nat → Prop := fun q => ∃ k, k < Z.2 ∧ q = G.2.1 k
def Inj (G : XG) (Z : Zh) : Prop := ∀ i j, i < Z.2 → j < Z.2 → G.2.1 i = G.2.1 j → i = j
theorem wd_get {G : XG} {Z : Zh} {M : SX} {k : Nat} (h : k < Z.2) : (wd G Z M)[k]? = some (G.2.1 k, entS G M k (Z.1 k)) := by
  unfold wd
  rw [List.getElem?_map, List.getElem?_range h]
  rfl
theorem wd_at {G : XG} {Z : Zh} {M : SX} {k : Nat} {q : Nat × va_E} (h : (wd G Z M)[k]? = some q) : k < Z.2 ∧ q = (G.2.1 k, entS G M k (Z.1 k)) := by
  have hl := (List.getElem?_eq_some_iff.mp h).1
  have hk : k < Z.2 := by simpa [wd] using hl
  refine ⟨hk, ?_⟩
  rw [wd_get hk] at h
  exact (Option.some.inj h).symm
theorem wd_D {G : XG} {Z : Zh} (h : Inj G Z) (M : SX) : va_D (inA G Z) (wd G Z M) := by
  refine ⟨fun i j x y hi hj hxy => ?_, fun k q hk => ?_⟩
  · obtain ⟨h1, rfl⟩ := wd_at hi
    obtain ⟨h2, rfl⟩ := wd_at hj
    exact h i j h1 h2 hxy
  · obtain ⟨h1, rfl⟩ := wd_at hk
    exact ⟨k, h1, rfl⟩
theorem fv_eq {G : XG} {M M' : SX} {k j c : Nat} (h1 : M.1 k = M'.1 k) (h2 : M.2 k = M'.2 k) : fv G M k j c = fv G M' k j c := by
  match c with
  | 0 => simp [fv, h1]
  | 1 => simp [fv, h2]
  | n + 2 => rfl
theorem entS_eq {G : XG} {M M' : SX} {k : Nat} (sh : Shp) (h1 : M.1 k = M'.1 k) (h2 : M.2 k = M'.2 k) : entS G M k sh = entS G M' k sh := by
  match sh with
  | .inl q =>
    show Sum.inr _ = Sum.inr _
    have hf : (fun j c => fv G M k j c) = (fun j c => fv G M' k j c) := by
      funext j c
      exact fv_eq h1 h2
    rw [hf]
  | .inr (0, n) => simp [entS, h1]
  | .inr (1, n) => simp [entS, h2]
  | .inr (b + 2, n) => rfl
theorem wd_set {G : XG} {Z : Zh} {M M' : SX} {k : Nat} {e : va_E} (hk : k < Z.2) (h1 : ∀ a, a ≠ k → M.1 a = M'.1 a) (h2 : ∀ a, a ≠ k → M.2 a = M'.2 a) (he : entS G M' k (Z.1 k) = e) : (wd G Z M).set k (G.2.1 k, e) = wd G Z M' := by
  apply List.ext_getElem?
  intro i
  by_cases hi : i = k
  · subst hi
    rw [List.getElem?_set_self (by simpa [wd] using hk), wd_get hk, he]
  · rw [List.getElem?_set_ne (Ne.symm hi)]
    by_cases hl : i < Z.2
    · rw [wd_get hl, wd_get hl, entS_eq (Z.1 i) (h1 i hi) (h2 i hi)]
    · rw [List.getElem?_eq_none (by simpa [wd] using Nat.le_of_not_lt hl), List.getElem?_eq_none (by simpa [wd] using Nat.le_of_not_lt hl)]
theorem wR_ne {M : SX} {k a : Nat} {f : Nat → Int32} (h : a ≠ k) : (wR M k f).1 a = M.1 a := by simp [wR, h]
theorem wR_self {M : SX} {k : Nat} {f : Nat → Int32} : (wR M k f).1 k = f := by simp [wR]
theorem wL_ne {M : SX} {k a : Nat} {f : Nat → Int64} (h : a ≠ k) : (wL M k f).2 a = M.2 a := by simp [wL, h]
theorem wL_self {M : SX} {k : Nat} {f : Nat → Int64} : (wL M k f).2 k = f := by simp [wL]
theorem wd_setR {G : XG} {Z : Zh} {M : SX} {k n : Nat} {f : Nat → Int32} (hk : k < Z.2) (hs : Z.1 k = .inr (0, n)) : (wd G Z M).set k (G.2.1 k, .inl (G.2.2.1, n, .inl f)) = wd G Z (wR M k f) := by
  refine wd_set hk (fun a h => (wR_ne h).symm) (fun a _ => rfl) ?_
  rw [hs]
  show Sum.inl _ = Sum.inl _
  rw [wR_self]
theorem wd_setL {G : XG} {Z : Zh} {M : SX} {k n : Nat} {f : Nat → Int64} (hk : k < Z.2) (hs : Z.1 k = .inr (1, n)) : (wd G Z M).set k (G.2.1 k, .inl (G.2.2.2.1, n, .inr (.inl f))) = wd G Z (wL M k f) := by
  refine wd_set hk (fun a _ => rfl) (fun a h => (wL_ne h).symm) ?_
  rw [hs]
  show Sum.inl _ = Sum.inl _
  rw [wL_self]
theorem wd_setI {G : XG} {Z : Zh} {M : SX} {k j ci : Nat} {cs : List Nat} {v : Int32} (hk : k < Z.2) (hs : Z.1 k = .inl (ci, cs)) (hc : cs[j]? = some 0) : (wd G Z M).set k (G.2.1 k, .inr (ci, (cs.mapIdx (fun j c => fv G M k j c)).set j (.int v))) = wd G Z (wI M k j v) := by
  refine wd_set hk (fun a h => (wR_ne h).symm) (fun a _ => rfl) ?_
  rw [hs]
  show Sum.inr _ = Sum.inr _
  congr 2
  apply List.ext_getElem?
  intro i
  have hl : j < cs.length := (List.getElem?_eq_some_iff.mp hc).1
  by_cases hi : i = j
  · subst hi
    rw [List.getElem?_set_self (by simpa using hl), List.getElem?_mapIdx, hc]
    simp [fv, wI, wR_self, upd]
  · rw [List.getElem?_set_ne (Ne.symm hi), List.getElem?_mapIdx, List.getElem?_mapIdx]
    congr 1
    funext c
    match c with
    | 0 => simp [fv, wI, wR_self, upd, hi]
    | 1 => rfl
    | n + 2 => rfl
theorem wd_setJ {G : XG} {Z : Zh} {M : SX} {k j ci : Nat} {cs : List Nat} {v : Int64} (hk : k < Z.2) (hs : Z.1 k = .inl (ci, cs)) (hc : cs[j]? = some 1) : (wd G Z M).set k (G.2.1 k, .inr (ci, (cs.mapIdx (fun j c => fv G M k j c)).set j (.long v))) = wd G Z (wJ M k j v) := by
  refine wd_set hk (fun a _ => rfl) (fun a h => (wL_ne h).symm) ?_
  rw [hs]
  show Sum.inr _ = Sum.inr _
  congr 2
  apply List.ext_getElem?
  intro i
  have hl : j < cs.length := (List.getElem?_eq_some_iff.mp hc).1
  by_cases hi : i = j
  · subst hi
    rw [List.getElem?_set_self (by simpa using hl), List.getElem?_mapIdx, hc]
    simp [fv, wJ, wL_self, vp_updL]
  · rw [List.getElem?_set_ne (Ne.symm hi), List.getElem?_mapIdx, List.getElem?_mapIdx]
    congr 1
    funext c
    match c with
    | 0 => rfl
    | 1 => simp [fv, wJ, wL_self, vp_updL, hi]
    | n + 2 => rfl
/-- the world as it stands in a walk -/
def Wld (G : XG) (Z : Zh) (M : SX) (H0 H : Heap) (locs : List Loc) : Prop := va_P G.1 vwCl (wd G Z M) H ∧ va_S (inA G Z) H0 H locs
def Fx (G : XG) (Z : Zh) (p : Program) (m : MethodId) (c : Code) (cc : ByteArray) (nL : Nat) (s : State) (args : Array Value) (own : String) : Prop :=
  CallFix p m c cc nL s args TBL own ∧ va_K G.1 vwCl (tysOf G) s ∧ NW s ∧ Inj G Z
def rmX (d : Nat) : Room := { frames := d, cells := 0, slots := 0, locals := 100 * d }
def xPc (G : XG) (Z : Zh) (M : SX) (av : List Value) : Array Value → State → Prop := va_Pc av (fun U => va_P G.1 vwCl (wd G Z M) U.heap ∧ va_K G.1 vwCl (tysOf G) U ∧ NW U ∧ Inj G Z)
def xQi (G : XG) (Z : Zh) (r : Int32) (M : SX) : Array Value → State → Outcome → State → Prop := va_Qi (fun (a : Int32) (_ : Unit) => a = r) (fun _ t => va_P G.1 vwCl (wd G Z M) t.heap) (inA G Z)
def xQl (G : XG) (Z : Zh) (r : Int64) (M : SX) : Array Value → State → Outcome → State → Prop := va_Ql (fun (a : Int64) (_ : Unit) => a = r) (fun _ t => va_P G.1 vwCl (wd G Z M) t.heap) (inA G Z)
def xQv (G : XG) (Z : Zh) (M : SX) : Array Value → State → Outcome → State → Prop := va_Qv (fun (_ : Unit) => True) (fun _ t => va_P G.1 vwCl (wd G Z M) t.heap) (inA G Z)
theorem xPc_blind (G : XG) (Z : Zh) (M : SX) (av : List Value) : FrameBlind (xPc G Z M av) := by
  intro a U g mk h
  obtain ⟨h1, h2, h3, h4, h5⟩ := h
  exact ⟨h1, h2, va_K.moved (u := U) (U := U.calling g mk a) (Vm.Alike.refl U.vm) h3, h4.same rfl, h5⟩
/-! plain words of the pure side -/
def gd {α : Type} (b : Bool) (x : Option α) : Option α := if b = true then x else none
def lt_ {α β : Type} (x : α) (f : α → β) : β := f x
def bd {α β : Type} (x : Option (α × SX)) (f : α → SX → Option β) : Option β := match x with
  | none => none
  | some q => f q.1 q.2
def bv {β : Type} (x : Option SX) (f : SX → Option β) : Option β := match x with
  | none => none
  | some q => f q
def bIn (i : Int32) (n : Nat) : Bool := decide (0 ≤ i ∧ i.toNatClampNeg < n)
def isB (v : Int32) : Bool := decide (v = 0 ∨ v = 1)
def nz (v : Int32) : Bool := decide (¬ v = 0)
def nzL (v : Int64) : Bool := decide (¬ v = 0)
def FU : Nat := 2000
theorem gd_some {α : Type} {b : Bool} {x : Option α} {r : α} (h : gd b x = some r) : b = true ∧ x = some r := by
  unfold gd at h
  split at h
  · rename_i hb; exact ⟨hb, h⟩
  · cases h
theorem lt_elim {α β : Type} {x : α} {f : α → β} {r : β} (h : lt_ x f = r) : ∃ y, y = x ∧ f y = r := ⟨x, rfl, h⟩
theorem bd_some {α β : Type} {x : Option (α × SX)} {f : α → SX → Option β} {r : β} (h : bd x f = some r) : ∃ a M, x = some (a, M) ∧ f a M = some r := by
  match x, h with
  | some (a, M), h => exact ⟨a, M, rfl, h⟩
theorem bv_some {β : Type} {x : Option SX} {f : SX → Option β} {r : β} (h : bv x f = some r) : ∃ M, x = some M ∧ f M = some r := by
  match x, h with
  | some M, h => exact ⟨M, rfl, h⟩
theorem it_t {α : Type} {c : Prop} [Decidable c] {a b : Option α} {r : Option α} (h : (if c then a else b) = r) (hc : c) : a = r := by rw [if_pos hc] at h; exact h
theorem it_f {α : Type} {c : Prop} [Decidable c] {a b : Option α} {r : Option α} (h : (if c then a else b) = r) (hc : ¬ c) : b = r := by rw [if_neg hc] at h; exact h
theorem bIn_vp {i : Int32} {n : Nat} (h : bIn i n = true) : vp_in i n := by
  have h1 : 0 ≤ i ∧ i.toNatClampNeg < n := by simpa [bIn] using h
  intro h2
  rcases h2 with h2 | h2
  · exact absurd h1.1 (Int32.not_le.mpr h2)
  · omega
theorem nz_ne {v : Int32} (h : nz v = true) : ¬ v = 0 := by simpa [nz] using h
theorem nzL_ne {v : Int64} (h : nzL v = true) : ¬ v = 0 := by simpa [nzL] using h
theorem isB_nar {v : Int32} (h : isB v = true) : narrow .boolean (.int v) = .int v := by
  have h1 : v = 0 ∨ v = 1 := by simpa [isB] using h
  rcases h1 with rfl | rfl <;> rfl
def xlp0 {β : Type} (body : (SX → Option β) → SX → Option β) : Nat → SX → Option β
  | 0, _ => none
  | n + 1, M => body (xlp0 body n) M
def xlp1 {A β : Type} (body : (A → SX → Option β) → A → SX → Option β) : Nat → A → SX → Option β
  | 0, _, _ => none
  | n + 1, a, M => body (xlp1 body n) a M
def xlp2 {A B β : Type} (body : (A → B → SX → Option β) → A → B → SX → Option β) : Nat → A → B → SX → Option β
  | 0, _, _, _ => none
  | n + 1, a, b, M => body (xlp2 body n) a b M
def xlp3 {A B C β : Type} (body : (A → B → C → SX → Option β) → A → B → C → SX → Option β) : Nat → A → B → C → SX → Option β
  | 0, _, _, _, _ => none
  | n + 1, a, b, c, M => body (xlp3 body n) a b c M
def xlp4 {A B C D β : Type} (body : (A → B → C → D → SX → Option β) → A → B → C → D → SX → Option β) : Nat → A → B → C → D → SX → Option β
  | 0, _, _, _, _, _ => none
  | n + 1, a, b, c, d, M => body (xlp4 body n) a b c d M
def xlp5 {A B C D E β : Type} (body : (A → B → C → D → E → SX → Option β) → A → B → C → D → E → SX → Option β) : Nat → A → B → C → D → E → SX → Option β
  | 0, _, _, _, _, _, _ => none
  | n + 1, a, b, c, d, e, M => body (xlp5 body n) a b c d e M
def xlp6 {A B C D E F β : Type} (body : (A → B → C → D → E → F → SX → Option β) → A → B → C → D → E → F → SX → Option β) : Nat → A → B → C → D → E → F → SX → Option β
  | 0, _, _, _, _, _, _, _ => none
  | n + 1, a, b, c, d, e, f, M => body (xlp6 body n) a b c d e f M
def xlp7 {A B C D E F G β : Type} (body : (A → B → C → D → E → F → G → SX → Option β) → A → B → C → D → E → F → G → SX → Option β) : Nat → A → B → C → D → E → F → G → SX → Option β
  | 0, _, _, _, _, _, _, _, _ => none
  | n + 1, a, b, c, d, e, f, g, M => body (xlp7 body n) a b c d e f g M
def xlp8 {A B C D E F G K β : Type} (body : (A → B → C → D → E → F → G → K → SX → Option β) → A → B → C → D → E → F → G → K → SX → Option β) : Nat → A → B → C → D → E → F → G → K → SX → Option β
  | 0, _, _, _, _, _, _, _, _, _ => none
  | n + 1, a, b, c, d, e, f, g, k, M => body (xlp8 body n) a b c d e f g k M
