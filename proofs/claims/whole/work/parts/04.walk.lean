section XWalk
variable {G : XG} {Z : Zh} {p : Program} {l : Launch} {e : Env} {R : Room} {s : State} {m : MethodId} {args : Array Value} {below : List Frame} {meth : Method} {c : Code} {H : Heap} {locs : List Loc} {Q : State → Prop}
variable {cc : ByteArray} {pc nL : Nat} {ls : Array Slot} {rest : List Value} {M : SX} {own : String}
theorem x_let {x y : Int32} (h : y = x) (k : W p l e R s m args below meth c H locs 0 0 Q (F0 m pc ls (.int y :: rest))) : W p l e R s m args below meth c H locs 0 0 Q (F0 m pc ls (.int x :: rest)) := h ▸ k
theorem x_letL {x y : Int64} (h : y = x) (k : W p l e R s m args below meth c H locs 0 0 Q (F0 m pc ls (.long y :: rest))) : W p l e R s m args below meth c H locs 0 0 Q (F0 m pc ls (.long x :: rest)) := h ▸ k
/-- a field is read -/
theorem x_get (F : Fx G Z p m c cc nL s args own) (hw : Wld G Z M s.heap H locs) {k j ci code index : Nat} {cs : List Nat} {C : String} {T : u_T} {N : Nat} (hk : k < Z.2) (hs : Z.1 k = .inl (ci, cs)) (hc : cs[j]? = some code) (hcl : vwCl[ci]? = some (C, T, N)) (hin : ∀ w ∈ u_ws C T N, w ∈ TBL) (hj : j < N) (hlk : Cond.fieldLink own index (T j).1 (T j).2.1 (T j).2.2.1 ∈ TBL) (hdg : decode cc pc = .ok (.getfield index, 3))
    (kk : W p l e R s m args below meth c H locs 0 0 Q (F0 m (pc + 3) ls (fv G M k j code :: rest))) : W p l e R s m args below meth c H locs 0 0 Q (F0 m pc ls (.ref (G.2.1 k) :: rest)) := by
  obtain ⟨⟨hx, hb, hml, hown, hts⟩, hK, hN, hI⟩ := F
  have he := wd_get (G := G) (M := M) hk
  rw [hs] at he
  exact va_get (D := G.1) (ci := ci) (v := fv G M k j code) (C := C) (T := T) (N := N) hx hb hts hin hown hK hw.1 k he hcl j hj (hts _ hlk) (fun _ h9 => h9) (by rw [List.getElem?_mapIdx, hc]; rfl) hdg kk
/-- an int field is written -/
theorem x_putI (F : Fx G Z p m c cc nL s args own) (hw : Wld G Z M s.heap H locs) {k j ci index : Nat} {cs : List Nat} {C : String} {T : u_T} {N : Nat} {v : Int32} {ty : FieldType} (hk : k < Z.2) (hs : Z.1 k = .inl (ci, cs)) (hc : cs[j]? = some 0) (hcl : vwCl[ci]? = some (C, T, N)) (hin : ∀ w ∈ u_ws C T N, w ∈ TBL) (ty0 : Nat → FieldType) (hty : ∀ k, k < N → parseFieldDescriptor (T k).2.2.1 = some (ty0 k)) (hnm : ∀ a, a < N → ∀ b, b < N → a ≠ b → (T a).2.1 ≠ (T b).2.1) (hj : j < N) (hlk : Cond.fieldLink own index (T j).1 (T j).2.1 (T j).2.2.1 ∈ TBL) (hfin : (T j).2.2.2 = false) (hd : parseFieldDescriptor (T j).2.2.1 = some ty) (hn : narrow ty (.int v) = .int v) (hfit : fits ty (.int v) = true) (hdg : decode cc pc = .ok (.putfield index, 3))
    (kk : ∀ (H1 : Heap) (locs1 : List Loc), Wld G Z (wI M k j v) s.heap H1 locs1 → W p l e R s m args below meth c H1 locs1 0 0 Q (F0 m (pc + 3) ls rest)) : W p l e R s m args below meth c H locs 0 0 Q (F0 m pc ls (.int v :: .ref (G.2.1 k) :: rest)) := by
  obtain ⟨⟨hx, hb, hml, hown, hts⟩, hK, hN, hI⟩ := F
  have he := wd_get (G := G) (M := M) hk
  rw [hs] at he
  have hl : j < cs.length := (List.getElem?_eq_some_iff.mp hc).1
  refine va_put (D := G.1) (ci := ci) (v := .int v) (ty := ty) (C := C) (T := T) (N := N) hx hb hts hin ty0 hty hnm hown hK hw.1 (wd_D hI M) hw.2 k he hcl j hj (hts _ hlk) (fun _ h9 => h9) hfin hd hn hfit (by simpa using hl) hdg (fun H1 locs1 hP _ hS => kk H1 locs1 ⟨?_, hS⟩)
  rw [← wd_setI hk hs hc]
  exact hP
/-- a long field is written -/
theorem x_putJ (F : Fx G Z p m c cc nL s args own) (hw : Wld G Z M s.heap H locs) {k j ci index : Nat} {cs : List Nat} {C : String} {T : u_T} {N : Nat} {v : Int64} (hk : k < Z.2) (hs : Z.1 k = .inl (ci, cs)) (hc : cs[j]? = some 1) (hcl : vwCl[ci]? = some (C, T, N)) (hin : ∀ w ∈ u_ws C T N, w ∈ TBL) (ty0 : Nat → FieldType) (hty : ∀ k, k < N → parseFieldDescriptor (T k).2.2.1 = some (ty0 k)) (hnm : ∀ a, a < N → ∀ b, b < N → a ≠ b → (T a).2.1 ≠ (T b).2.1) (hj : j < N) (hlk : Cond.fieldLink own index (T j).1 (T j).2.1 (T j).2.2.1 ∈ TBL) (hfin : (T j).2.2.2 = false) (hd : parseFieldDescriptor (T j).2.2.1 = some .long) (hdg : decode cc pc = .ok (.putfield index, 3))
    (kk : ∀ (H1 : Heap) (locs1 : List Loc), Wld G Z (wJ M k j v) s.heap H1 locs1 → W p l e R s m args below meth c H1 locs1 0 0 Q (F0 m (pc + 3) ls rest)) : W p l e R s m args below meth c H locs 0 0 Q (F0 m pc ls (.long v :: .ref (G.2.1 k) :: rest)) := by
  obtain ⟨⟨hx, hb, hml, hown, hts⟩, hK, hN, hI⟩ := F
  have he := wd_get (G := G) (M := M) hk
  rw [hs] at he
  have hl : j < cs.length := (List.getElem?_eq_some_iff.mp hc).1
  refine va_put (D := G.1) (ci := ci) (v := .long v) (ty := .long) (C := C) (T := T) (N := N) hx hb hts hin ty0 hty hnm hown hK hw.1 (wd_D hI M) hw.2 k he hcl j hj (hts _ hlk) (fun _ h9 => h9) hfin hd rfl rfl (by simpa using hl) hdg (fun H1 locs1 hP _ hS => kk H1 locs1 ⟨?_, hS⟩)
  rw [← wd_setJ hk hs hc]
  exact hP
/-- an int of an array is read -/
theorem x_iald (F : Fx G Z p m c cc nL s args own) (hw : Wld G Z M s.heap H locs) {k n : Nat} {i : Int32} (hs : k < Z.2 ∧ Z.1 k = .inr (0, n)) (hi : bIn i n = true) (hdg : decode cc pc = .ok (.iaload, 1))
    (kk : W p l e R s m args below meth c H locs 0 0 Q (F0 m (pc + 1) ls (.int (M.1 k i.toNatClampNeg) :: rest))) : W p l e R s m args below meth c H locs 0 0 Q (F0 m pc ls (.int i :: .ref (G.2.1 k) :: rest)) := by
  obtain ⟨⟨hx, hb, hml, hown, hts⟩, hK, hN, hI⟩ := F
  have he := wd_get (G := G) (M := M) hs.1
  rw [hs.2] at he
  exact va_iald (D := G.1) hx hb hK hw.1 k 0 (cA := G.2.2.1) (n := n) (f := M.1 k) he rfl (bIn_vp hi) hdg kk
theorem x_iast (F : Fx G Z p m c cc nL s args own) (hw : Wld G Z M s.heap H locs) {k n : Nat} {i v : Int32} (hs : k < Z.2 ∧ Z.1 k = .inr (0, n)) (hi : bIn i n = true) (hdg : decode cc pc = .ok (.iastore, 1))
    (kk : ∀ (H1 : Heap) (locs1 : List Loc), Wld G Z (wI M k i.toNatClampNeg v) s.heap H1 locs1 → W p l e R s m args below meth c H1 locs1 0 0 Q (F0 m (pc + 1) ls rest)) : W p l e R s m args below meth c H locs 0 0 Q (F0 m pc ls (.int v :: .int i :: .ref (G.2.1 k) :: rest)) := by
  obtain ⟨⟨hx, hb, hml, hown, hts⟩, hK, hN, hI⟩ := F
  have he := wd_get (G := G) (M := M) hs.1
  rw [hs.2] at he
  refine va_iast (D := G.1) hx hb hK hw.1 (wd_D hI M) hw.2 k 0 (cA := G.2.2.1) (n := n) (f := M.1 k) he rfl (bIn_vp hi) hdg (fun H1 locs1 hP _ hS => kk H1 locs1 ⟨?_, hS⟩)
  rw [wI, ← wd_setR hs.1 hs.2]
  exact hP
theorem x_lald (F : Fx G Z p m c cc nL s args own) (hw : Wld G Z M s.heap H locs) {k n : Nat} {i : Int32} (hs : k < Z.2 ∧ Z.1 k = .inr (1, n)) (hi : bIn i n = true) (hdg : decode cc pc = .ok (.laload, 1))
    (kk : W p l e R s m args below meth c H locs 0 0 Q (F0 m (pc + 1) ls (.long (M.2 k i.toNatClampNeg) :: rest))) : W p l e R s m args below meth c H locs 0 0 Q (F0 m pc ls (.int i :: .ref (G.2.1 k) :: rest)) := by
  obtain ⟨⟨hx, hb, hml, hown, hts⟩, hK, hN, hI⟩ := F
  have he := wd_get (G := G) (M := M) hs.1
  rw [hs.2] at he
  exact va_lald (D := G.1) hx hb hK hw.1 k 1 (cA := G.2.2.2.1) (n := n) (f := M.2 k) he rfl (bIn_vp hi) hdg kk
theorem x_last (F : Fx G Z p m c cc nL s args own) (hw : Wld G Z M s.heap H locs) {k n : Nat} {i : Int32} {v : Int64} (hs : k < Z.2 ∧ Z.1 k = .inr (1, n)) (hi : bIn i n = true) (hdg : decode cc pc = .ok (.lastore, 1))
    (kk : ∀ (H1 : Heap) (locs1 : List Loc), Wld G Z (wJ M k i.toNatClampNeg v) s.heap H1 locs1 → W p l e R s m args below meth c H1 locs1 0 0 Q (F0 m (pc + 1) ls rest)) : W p l e R s m args below meth c H locs 0 0 Q (F0 m pc ls (.long v :: .int i :: .ref (G.2.1 k) :: rest)) := by
  obtain ⟨⟨hx, hb, hml, hown, hts⟩, hK, hN, hI⟩ := F
  have he := wd_get (G := G) (M := M) hs.1
  rw [hs.2] at he
  refine va_last (D := G.1) hx hb hK hw.1 (wd_D hI M) hw.2 k 1 (cA := G.2.2.2.1) (n := n) (f := M.2 k) he rfl (bIn_vp hi) hdg (fun H1 locs1 hP _ hS => kk H1 locs1 ⟨?_, hS⟩)
  rw [wJ, ← wd_setL hs.1 hs.2]
  exact hP
theorem x_aald (F : Fx G Z p m c cc nL s args own) (hw : Wld G Z M s.heap H locs) {k b n : Nat} {i : Int32} (hs : k < Z.2 ∧ Z.1 k = .inr (b + 2, n)) (hi : bIn i n = true) (hdg : decode cc pc = .ok (.aaload, 1))
    (kk : W p l e R s m args below meth c H locs 0 0 Q (F0 m (pc + 1) ls (.ref (G.2.1 (b + 9 * i.toNatClampNeg)) :: rest))) : W p l e R s m args below meth c H locs 0 0 Q (F0 m pc ls (.int i :: .ref (G.2.1 k) :: rest)) := by
  obtain ⟨⟨hx, hb, hml, hown, hts⟩, hK, hN, hI⟩ := F
  have he := wd_get (G := G) (M := M) hs.1
  rw [hs.2] at he
  exact va_aldq (D := G.1) hx hb hK hw.1 k 2 (cA := G.2.2.2.2) (C := "PawnLane$Lane") (n := n) (f := fun j => some (G.2.1 (b + 9 * j))) he rfl (bIn_vp hi) hdg kk
theorem x_alenI (F : Fx G Z p m c cc nL s args own) (hw : Wld G Z M s.heap H locs) {k n : Nat} (hs : k < Z.2 ∧ Z.1 k = .inr (0, n)) (hdg : decode cc pc = .ok (.arraylength, 1))
    (kk : W p l e R s m args below meth c H locs 0 0 Q (F0 m (pc + 1) ls (.int (Int32.ofNat n) :: rest))) : W p l e R s m args below meth c H locs 0 0 Q (F0 m pc ls (.ref (G.2.1 k) :: rest)) := by
  obtain ⟨⟨hx, hb, hml, hown, hts⟩, hK, hN, hI⟩ := F
  have he := wd_get (G := G) (M := M) hs.1
  rw [hs.2] at he
  exact va_alen (D := G.1) hx hb hK hw.1 k 0 (cA := G.2.2.1) he (ty := .int) rfl (v := Int32.ofNat n) rfl hdg kk
/-- a stretch of ints is copied -/
def cpOk (sp dp n : Int32) (n0 n1 : Nat) : Bool := decide (0 ≤ sp ∧ 0 ≤ dp ∧ 0 ≤ n ∧ sp.toNatClampNeg + n.toNatClampNeg ≤ n0 ∧ dp.toNatClampNeg + n.toNatClampNeg ≤ n1)
theorem x_copy (F : Fx G Z p m c cc nL s args own) (hw : Wld G Z M s.heap H locs) (hln : ls.size = nL) {k0 k1 n0 n1 index : Nat} {sp dp n : Int32} (h0 : k0 < Z.2 ∧ Z.1 k0 = .inr (0, n0)) (h1 : k1 < Z.2 ∧ Z.1 k1 = .inr (0, n1)) (ho : cpOk sp dp n n0 n1 = true) (hlk : Cond.methodLink own index arraycopyName ∈ TBL) (hnt : Cond.native arraycopyName ∈ TBL) (hst : Cond.static arraycopyName ∈ TBL) (hin : Cond.initialized "java/lang/System" ∈ TBL) (hfr : 1 ≤ R.frames) (hlo : (rest.map fun v => v.category).sum + (nativeFrameWords "java/lang/System" "arraycopy" 5 + 11) ≤ R.locals) (hdg : decode cc pc = .ok (.invokestatic index, 3))
    (kk : ∀ (H1 : Heap) (locs1 : List Loc), Wld G Z (wR M k1 (va_cpy (M.1 k0) (M.1 k1) sp.toNatClampNeg dp.toNatClampNeg n.toNatClampNeg)) s.heap H1 locs1 → W p l e R s m args below meth c H1 locs1 0 0 Q (F0 m (pc + 3) ls rest)) : W p l e R s m args below meth c H locs 0 0 Q (F0 m pc ls (.int n :: .int dp :: .ref (G.2.1 k1) :: .int sp :: .ref (G.2.1 k0) :: rest)) := by
  obtain ⟨⟨hx, hb, hml, hown, hts⟩, hK, hN, hI⟩ := F
  have he := wd_get (G := G) (M := M) h0.1
  rw [h0.2] at he
  have he1 := wd_get (G := G) (M := M) h1.1
  rw [h1.2] at he1
  have ho : 0 ≤ sp ∧ 0 ≤ dp ∧ 0 ≤ n ∧ sp.toNatClampNeg + n.toNatClampNeg ≤ n0 ∧ dp.toNatClampNeg + n.toNatClampNeg ≤ n1 := by simpa [cpOk] using ho
  refine va_copyi (D := G.1) hx hb (by rw [hml, hln]) hown (hts _ hlk) (hts _ hnt) (hts _ hst) (hts _ hin) hK hw.1 (wd_D hI M) hw.2 k0 k1 0 0 (f := M.1 k0) (g := M.1 k1) he he1 rfl rfl rfl (Int32.not_lt.mpr ho.1) (Int32.not_lt.mpr ho.2.1) (Int32.not_lt.mpr ho.2.2.1) ho.2.2.2.1 ho.2.2.2.2 (fun _ _ => rfl) hfr hlo hdg (fun H1 locs1 hP _ hS => kk H1 locs1 ⟨?_, hS⟩)
  rw [← wd_setR h1.1 h1.2]
  exact hP
end XWalk
def jmax (x y : Int32) : Int32 := if x < y then y else x
def jmin (x y : Int32) : Int32 := if y < x then y else x
def jmaxL (x y : Int64) : Int64 := if y < x then x else y
section XMath
variable {G : XG} {Z : Zh} {p : Program} {l : Launch} {e : Env} {R : Room} {s : State} {m : MethodId} {args : Array Value} {below : List Frame} {meth : Method} {c : Code} {H : Heap} {locs : List Loc} {Q : State → Prop}
variable {cc : ByteArray} {pc nL index : Nat} {ls : Array Slot} {rest : List Value} {M : SX} {own : String}
theorem x_max (F : Fx G Z p m c cc nL s args own) (hln : ls.size = nL) {x y : Int32} (h1 : Cond.methodLink own index Lib.Math.max.name ∈ TBL) (h2 : Cond.static Lib.Math.max.name ∈ TBL) (h3 : Cond.initialized "java/lang/Math" ∈ TBL) (h4 : Cond.code Lib.Math.max.name Lib.Math.max.code 2 (some .int) ∈ TBL) (hf : 1 ≤ R.frames) (hl : (rest.map fun v => v.category).sum + 13 ≤ R.locals) (hdg : decode cc pc = .ok (.invokestatic index, 3))
    (kk : W p l e R s m args below meth c H locs 0 0 Q (F0 m (pc + 3) ls (.int (jmax x y) :: rest))) : W p l e R s m args below meth c H locs 0 0 Q (F0 m pc ls (.int y :: .int x :: rest)) := by
  obtain ⟨⟨hx, hb, hml, hown, hts⟩, hK, hN, hI⟩ := F
  exact va_mmax hx hb (by rw [hml, hln]) hown (hts _ h1) (hts _ h2) (hts _ h3) (hts _ h4) hf hl (Nat.zero_le _) (Nat.zero_le _) hdg kk
theorem x_min (F : Fx G Z p m c cc nL s args own) (hln : ls.size = nL) {x y : Int32} (h1 : Cond.methodLink own index Lib.Math.min.name ∈ TBL) (h2 : Cond.static Lib.Math.min.name ∈ TBL) (h3 : Cond.initialized "java/lang/Math" ∈ TBL) (h4 : Cond.code Lib.Math.min.name Lib.Math.min.code 2 (some .int) ∈ TBL) (hf : 1 ≤ R.frames) (hl : (rest.map fun v => v.category).sum + 13 ≤ R.locals) (hdg : decode cc pc = .ok (.invokestatic index, 3))
    (kk : W p l e R s m args below meth c H locs 0 0 Q (F0 m (pc + 3) ls (.int (jmin x y) :: rest))) : W p l e R s m args below meth c H locs 0 0 Q (F0 m pc ls (.int y :: .int x :: rest)) := by
  obtain ⟨⟨hx, hb, hml, hown, hts⟩, hK, hN, hI⟩ := F
  exact va_mmin hx hb (by rw [hml, hln]) hown (hts _ h1) (hts _ h2) (hts _ h3) (hts _ h4) hf hl (Nat.zero_le _) (Nat.zero_le _) hdg kk
theorem x_maxL (F : Fx G Z p m c cc nL s args own) (hln : ls.size = nL) {x y : Int64} (h1 : Cond.methodLink own index Lib.MathLoose.max_long.x ∈ TBL) (h2 : Cond.static Lib.MathLoose.max_long.x ∈ TBL) (h3 : Cond.initialized "java/lang/Math" ∈ TBL) (h4 : Cond.code Lib.MathLoose.max_long.x Lib.MathLoose.max_long.code 4 (some .long) ∈ TBL) (hf : 1 ≤ R.frames) (hl : (rest.map fun v => v.category).sum + 15 ≤ R.locals) (hdg : decode cc pc = .ok (.invokestatic index, 3))
    (kk : W p l e R s m args below meth c H locs 0 0 Q (F0 m (pc + 3) ls (.long (jmaxL x y) :: rest))) : W p l e R s m args below meth c H locs 0 0 Q (F0 m pc ls (.long y :: .long x :: rest)) := by
  obtain ⟨⟨hx, hb, hml, hown, hts⟩, hK, hN, hI⟩ := F
  exact va_mmax_long hx hb (by rw [hml, hln]) hown (hts _ h1) (hts _ h2) (hts _ h3) (hts _ h4) hf hl (Nat.zero_le _) (Nat.zero_le _) hdg kk
end XMath
