/-! constructors: worlds that grow, cell by cell -/
abbrev tys3 (cI cJ cL : ClassId) : List (ClassId × FieldType) := [(cI, .int), (cJ, .long), (cL, .object "PawnLane$Lane")]
def rmK (d mc ms : Nat) : Room := { frames := d, cells := mc, slots := ms, locals := 100 * d }
def Kx (D : va_G) (cI cJ cL : ClassId) (p : Program) (m : MethodId) (c : Code) (cc : ByteArray) (nL : Nat) (s : State) (args : Array Value) (own : String) : Prop :=
  CallFix p m c cc nL s args TBL own ∧ va_K D vwCl (tys3 cI cJ cL) s ∧ NW s ∧ va_AO "PawnLane$Lane" s
def kPc (D : va_G) (cI cJ cL : ClassId) (sz : Nat) (w0 : va_W) (av : List Value) : Array Value → State → Prop := va_Pc av (fun U => U.heap.size = sz ∧ va_P D vwCl w0 U.heap ∧ va_K D vwCl (tys3 cI cJ cL) U ∧ NW U ∧ va_AO "PawnLane$Lane" U ∧ va_D (fun _ => True) w0)
def kQv (D : va_G) (sz : Nat) (w0 : va_W) (h0 : Nat) (wf : (Nat → Nat) → va_W) : Array Value → State → Outcome → State → Prop := va_Qv (fun (_ : Unit) => True) (fun _ t => ∃ f : Nat → Nat, f 0 = h0 ∧ va_P D vwCl (wf f) t.heap ∧ va_D (va_A w0 sz) (wf f)) (va_A w0 sz)
theorem kPc_blind (D : va_G) (cI cJ cL : ClassId) (sz : Nat) (w0 : va_W) (av : List Value) : FrameBlind (kPc D cI cJ cL sz w0 av) := by
  intro a U g mk h
  obtain ⟨h1, h2, h3, h4, h5, h6, h7⟩ := h
  exact ⟨h1, h2, h3, va_K.moved (u := U) (U := U.calling g mk a) (Vm.Alike.refl U.vm) h4, h5.same rfl, h6.moved (Vm.Alike.refl U.vm), h7⟩
section KNew
variable {D : va_G} {cI cJ cL : ClassId} {p : Program} {l : Launch} {e : Env} {R : Room} {s : State} {m : MethodId} {args : Array Value} {below : List Frame} {meth : Method} {c : Code} {H H0 : Heap} {locs : List Loc} {cells slots : Nat} {Q : State → Prop}
variable {cc : ByteArray} {pc nL index : Nat} {ls : Array Slot} {rest st0 : List Value} {own : String} {A : Nat → Prop} {ws : va_W}
theorem k_newI (K : Kx D cI cJ cL p m c cc nL s args own) (hP : va_P D vwCl ws H) (hD : va_D A ws) (hS : va_S A H0 H locs) (hA : ∀ q, H0.size ≤ q → A q) {n : Int32} {N' : Nat} (hn : ¬ n < 0) (hN : n.toNatClampNeg = N') (hbytes : N' * componentBytes .int ≤ 536870912) (hcells : cells + 1 ≤ R.cells) (hslots : slots + N' ≤ R.slots) (hdg : decode cc pc = .ok (.newarray .int, 2)) (harr : Cond.arrayClass .int ∈ TBL)
    (kk : ∀ (q : Nat) (H1 : Heap), va_P D vwCl (ws ++ [(q, .inl (cI, N', .inl (fun _ => 0)))]) H1 → va_D A (ws ++ [(q, .inl (cI, N', .inl (fun _ => 0)))]) → va_S A H0 H1 locs → W p l e R s m args below meth c H1 locs (cells + 1) (slots + N') Q (F0 m (pc + 2) ls (.ref q :: rest))) : W p l e R s m args below meth c H locs cells slots Q (F0 m pc ls (.int n :: rest)) := by
  obtain ⟨⟨hx, hb, hml, hown, hts⟩, hK, hN2, hO⟩ := K
  refine va_newa (atype := .int) (ty := .int) (a0 := (N', .inl (fun _ => 0))) hx hb (hts _ harr) rfl hK hP hD hS hA (fun _ => rfl) hn hN hbytes hcells hslots hdg (fun q cA H1 hK1 hP1 hD1 hS1 => ?_)
  have e : cA = cI := by
    have h1 : s.vm.findClass ("[" ++ FieldType.int.toString) = some cI := (hK1.2 0 (cI, .int) rfl).2
    have h2 : s.vm.findClass ("[" ++ FieldType.int.toString) = some cA := (hK1.2 3 (cA, .int) rfl).2
    exact Option.some.inj (h2.symm.trans h1)
  subst e
  exact kk q H1 hP1 hD1 hS1
theorem k_newJ (K : Kx D cI cJ cL p m c cc nL s args own) (hP : va_P D vwCl ws H) (hD : va_D A ws) (hS : va_S A H0 H locs) (hA : ∀ q, H0.size ≤ q → A q) {n : Int32} {N' : Nat} (hn : ¬ n < 0) (hN : n.toNatClampNeg = N') (hbytes : N' * componentBytes .long ≤ 536870912) (hcells : cells + 1 ≤ R.cells) (hslots : slots + N' ≤ R.slots) (hdg : decode cc pc = .ok (.newarray .long, 2)) (harr : Cond.arrayClass .long ∈ TBL)
    (kk : ∀ (q : Nat) (H1 : Heap), va_P D vwCl (ws ++ [(q, .inl (cJ, N', .inr (.inl (fun _ => 0))))]) H1 → va_D A (ws ++ [(q, .inl (cJ, N', .inr (.inl (fun _ => 0))))]) → va_S A H0 H1 locs → W p l e R s m args below meth c H1 locs (cells + 1) (slots + N') Q (F0 m (pc + 2) ls (.ref q :: rest))) : W p l e R s m args below meth c H locs cells slots Q (F0 m pc ls (.int n :: rest)) := by
  obtain ⟨⟨hx, hb, hml, hown, hts⟩, hK, hN2, hO⟩ := K
  refine va_newa (atype := .long) (ty := .long) (a0 := (N', .inr (.inl (fun _ => 0)))) hx hb (hts _ harr) rfl hK hP hD hS hA (fun _ => rfl) hn hN hbytes hcells hslots hdg (fun q cA H1 hK1 hP1 hD1 hS1 => ?_)
  have e : cA = cJ := by
    have h1 : s.vm.findClass ("[" ++ FieldType.long.toString) = some cJ := (hK1.2 1 (cJ, .long) rfl).2
    have h2 : s.vm.findClass ("[" ++ FieldType.long.toString) = some cA := (hK1.2 3 (cA, .long) rfl).2
    exact Option.some.inj (h2.symm.trans h1)
  subst e
  exact kk q H1 hP1 hD1 hS1
theorem k_newL (K : Kx D cI cJ cL p m c cc nL s args own) (hP : va_P D vwCl ws H) (hD : va_D A ws) (hS : va_S A H0 H locs) (hA : ∀ q, H0.size ≤ q → A q) {n : Int32} {N' : Nat} (hn : ¬ n < 0) (hN : n.toNatClampNeg = N') (hbytes : N' * 4 ≤ 536870912) (hcells : cells + 1 ≤ R.cells) (hslots : slots + N' ≤ R.slots) (hdg : decode cc pc = .ok (.anewarray index, 3)) (hlk : Cond.classLink own index "PawnLane$Lane" ∈ TBL)
    (kk : ∀ (q : Nat) (H1 : Heap), va_P D vwCl (ws ++ [(q, .inl (cL, N', .inr (.inr (.inr (.inr (fun _ => none))))))]) H1 → va_D A (ws ++ [(q, .inl (cL, N', .inr (.inr (.inr (.inr (fun _ => none))))))]) → va_S A H0 H1 locs → W p l e R s m args below meth c H1 locs (cells + 1) (slots + N') Q (F0 m (pc + 3) ls (.ref q :: rest))) : W p l e R s m args below meth c H locs cells slots Q (F0 m pc ls (.int n :: rest)) := by
  obtain ⟨⟨hx, hb, hml, hown, hts⟩, hK, hN2, hO⟩ := K
  refine va_newq (C := "PawnLane$Lane") hx hb hown (hts _ hlk) hO hK hP hD hS hA hn hN hbytes hcells hslots hdg (fun q cA H1 hK1 hP1 hD1 hS1 => ?_)
  have e : cA = cL := by
    obtain ⟨k1, c1, -, -, -, h1⟩ := (hK1.2 2 (cL, .object "PawnLane$Lane") rfl).2
    obtain ⟨k2, c2, -, -, -, h2⟩ := (hK1.2 3 (cA, .object "PawnLane$Lane") rfl).2
    exact Option.some.inj (h2.symm.trans h1)
  subst e
  exact kk q H1 hP1 hD1 hS1
theorem k_obj (K : Kx D cI cJ cL p m c cc nL s args own) (hln : ls.size = nL) {a : Nat} (h1 : Cond.methodLink own index objectInit ∈ TBL) (h2 : Cond.instanceMethod objectInit ∈ TBL) (h3 : Cond.code objectInit ⟨#[0xb1]⟩ 1 none ∈ TBL) (hfr : 1 ≤ R.frames) (hlo : (rest.map fun v => v.category).sum + 12 ≤ R.locals) (hdg : decode cc pc = .ok (.invokespecial index, 3))
    (kk : W p l e R s m args below meth c H locs cells slots Q (F0 m (pc + 3) ls rest)) : W p l e R s m args below meth c H locs cells slots Q (F0 m pc ls (.ref a :: rest)) := by
  obtain ⟨⟨hx, hb, hml, hown, hts⟩, hK, hN2, hO⟩ := K
  exact W.objInit hx hb hown (hts _ h1) (hts _ h2) (hts _ h3) (g := F0 m pc ls (.ref a :: rest)) rfl (by rw [hml]; exact hln) rfl hdg hfr (by show 2 * 0 + _ + 12 ≤ _; omega) kk
/-- a constructor is called: its cells, and the rest -/
theorem k_call {y : MethodName} {maxL n d mc ms b : Nat} {bytes : ByteArray} {As : List Value} {w0 wr : va_W} {wf : (Nat → Nat) → va_W} (K : Kx D cI cJ cL p m c cc nL s args own) (hP : va_P D vwCl ws H) (hD : va_D A ws) (hS : va_S A H0 H locs) (hA : ∀ q, H0.size ≤ q → A q) (hln : ls.size = nL) (isC isR : List Nat) (hC : isC.map (fun i => ws[i]?) = w0.map some) (hR : isR.map (fun i => ws[i]?) = wr.map some) (hnC : va_nd isC = true) (hn1 : va_nd isR = true) (hdis : ∀ i ∈ isR, i ∉ isC)
    (hM : Met l y (.code y bytes maxL none :: TBL) (rmK d mc ms) (kPc D cI cJ cL H.size w0 (.ref b :: As)) (kQv D H.size w0 b wf) mc ms (va_A w0 H.size))
    (hcw : (CallB R s args own index y bytes maxL none (.code y bytes maxL none :: TBL) (rmK d mc ms) mc ms n ∧ y.name = "<init>" ∧ (Cond.instanceMethod y).before args s = true) ∨ (va_CN R s args own index y "PawnLane" bytes maxL none (.code y bytes maxL none :: TBL) (rmK d mc ms) mc ms n ∧ y.name = "<init>" ∧ (Cond.instanceMethod y).before args s = true))
    (hn : As.length = n) (hst : st0 = As.reverse ++ .ref b :: rest) (hcat : (rest.map fun v => v.category).sum ≤ 8) (hdg : decode cc pc = .ok (.invokespecial index, 3)) (hcs : cells + mc ≤ R.cells ∧ slots + ms ≤ R.slots)
    (kk : ∀ (f : Nat → Nat) (H1 : Heap) (locs1 : List Loc), f 0 = b → va_P D vwCl (wr ++ wf f) H1 → va_D A (wr ++ wf f) → va_S A H0 H1 locs1 → W p l e R s m args below meth c H1 locs1 (cells + mc) (slots + ms) Q (F0 m (pc + 3) ls rest)) : W p l e R s m args below meth c H locs cells slots Q (F0 m pc ls st0) := by
  obtain ⟨hCF, hK, hN2, hO⟩ := K
  have hPc : va_P D vwCl w0 H := hP.sub isC (by
    have e : isC.filterMap (fun i => ws[i]?) = (isC.map (fun i => ws[i]?)).filterMap id := by rw [List.filterMap_map]; rfl
    rw [e, hC, List.filterMap_map]
    show List.filterMap some w0 = w0
    exact List.filterMap_some)
  have hDc : va_D A w0 := hD.sub isC hnC hC
  have hFc := va_free (wc := w0) hD hS hA isC hC
  have hpre : PreS s H (kPc D cI cJ cL H.size w0 (.ref b :: As)) (.ref b :: As) := ⟨kPc_blind D cI cJ cL H.size w0 _, fun U hU hW => ⟨rfl, by rw [hU], by rw [hU]; exact hPc, va_K.moved hW.alike hK, hN2.warm hW, hO.moved hW.alike, hDc.weaken (fun _ _ _ _ => trivial)⟩⟩
  have hrun : va_Run p l e R s m args below meth c H locs cells slots mc ms (F0 m pc ls st0) rest (kQv D H.size w0 b wf (Value.ref b :: As).toArray) (va_A w0 H.size) := by
    rcases hcw with h | h
    · exact va_runI (As := As) (rest := rest) hCF hM h hpre rfl hn hln hst (lv_room hcat) hdg hcs
    · exact va_runIN (As := As) (rest := rest) (host := "PawnLane") hCF hM h hpre rfl hn hln hst (lv_room hcat) hdg hcs
  refine va_callv hrun hS (fun q _ h => hFc q h) hFc (fun u t H1 locs1 ht _ _ hB _ hk1 hS1 => ?_)
  obtain ⟨f, hf0, hP1, hD1⟩ : ∃ f : Nat → Nat, f 0 = b ∧ va_P D vwCl (wf f) t.heap ∧ va_D (va_A w0 H.size) (wf f) := hB
  rw [ht] at hP1
  obtain ⟨hP2, hD2⟩ := va_join hP hD isC isR hC hR hn1 hdis hk1 hFc hP1 hD1
  exact kk f H1 locs1 hf0 hP2 hD2 hS1
theorem k_vret {w0 : va_W} {wf : (Nat → Nat) → va_W} {h0 : Nat} (K : Kx D cI cJ cL p m c cc nL s args own) (hr : meth.sig.returnType = none) (hlk : meth.locks = false) (f : Nat → Nat) (hf : f 0 = h0) (hP : va_P D vwCl (wf f) H) (hD : va_D (va_A w0 s.heap.size) (wf f)) (hS : va_S (va_A w0 s.heap.size) s.heap H locs) (hdg : decode cc pc = .ok (.return_, 1)) : W p l e R s m args below meth c H locs cells slots (MQ below (kQv D s.heap.size w0 h0 wf) args s cells slots (va_A w0 s.heap.size)) (F0 m pc ls []) :=
  W.vret K.1.1 K.1.2.1 hr (fun t ht _ => ⟨⟨(), rfl, trivial, f, hf, by rw [ht]; exact hP, hD⟩, hS.F ht⟩) hS.2.2 hdg hlk
theorem k_met {y : MethodName} {maxL d mc ms sz h0 : Nat} {av : List Value} {w0 : va_W} {wf : (Nat → Nat) → va_W} (hy : plainName y.cls = true) (hlen : (lg_sl av).length ≤ maxL)
    (body : ∀ (p : Program) (e : Env) (s : State) (m : MethodId) (below : List Frame) (meth : Method) (c : Code) (ls : Array Slot), Kx D cI cJ cL p m c cc maxL s av.toArray y.cls → meth.sig.returnType = none → meth.locks = false → meth.name = y.name → lv_has ls maxL (lv_args 0 av) → va_P D vwCl w0 s.heap → va_D (va_A w0 s.heap.size) w0 → (∀ q : Nat, s.heap.size ≤ q → va_A w0 s.heap.size q) → W p l e (rmK d mc ms) s m av.toArray below meth c s.heap [] 0 0 (MQ below (kQv D s.heap.size w0 h0 wf) av.toArray s mc ms (va_A w0 s.heap.size)) (F0 m 0 ls [])) :
    Met l y (.code y cc maxL none :: TBL) (rmK d mc ms) (kPc D cI cJ cL sz w0 av) (kQv D sz w0 h0 wf) mc ms (va_A w0 sz) := by
  refine Met.ofW (cc := cc) (maxL := maxL) (ret := none) hy rfl ?_
  intro p e s m args below meth c s₁ B hml hv
  obtain ⟨rfl, hsz, hP, hK, hN, hO, hD0⟩ := hv
  have hts := atoms_spec (ws := (Cond.code y cc maxL none :: TBL)) B.pre
  have hown : s.vm.findClass y.cls = some m.cls := findClass_of_methodNamed B.named
  have hl := lv_entry av (n := maxL) hlen
  subst hsz
  rw [lg_entry_eq]
  exact body p e s m below meth c _ ⟨⟨B.exec, B.bytes, hml, hown, fun w h => hts w (List.mem_cons_of_mem _ h)⟩, hK, hN, hO⟩ B.returns B.notSynchronized (name_of_methodNamed B.named B.method).1 hl hP (hD0.self (sz := s.heap.size)) (fun q h => Or.inr h)
end KNew
section KFill
variable {D : va_G} {cI cJ cL : ClassId} {p : Program} {l : Launch} {e : Env} {R : Room} {s : State} {m : MethodId} {args : Array Value} {below : List Frame} {meth : Method} {c : Code} {H H0 : Heap} {locs : List Loc} {cells slots : Nat} {Q : State → Prop}
variable {cc : ByteArray} {pc nL index : Nat} {ls : Array Slot} {rest st0 : List Value} {own : String} {A : Nat → Prop} {ws : va_W}
theorem k_let {x y : Int32} (h : y = x) (k : W p l e R s m args below meth c H locs cells slots Q (F0 m pc ls (.int y :: rest))) : W p l e R s m args below meth c H locs cells slots Q (F0 m pc ls (.int x :: rest)) := h ▸ k
def oneZ (n : Nat) : Zh := (fun _ => .inr (0, n), 1)
def oneG (D : va_G) (cI cJ cL : ClassId) (a : Nat) : XG := (D, fun _ => a, cI, cJ, cL)
/-- Arrays.fill of a row of noughts with v: what its function says -/
theorem fill_pure (n b : Nat) (v : Int32) (hn : n < 1000) (M : SX) : pj_fill n b v M = some (wR M b (fun j => if j < n then v else M.1 b j)) := by
  have key : ∀ (k i : Nat) (M1 : SX), i ≤ n → n - i < k → (∀ j, M1.1 b j = if j < i then v else M.1 b j) → (∀ a, a ≠ b → M1.1 a = M.1 a) → M1.2 = M.2 → xlp3 (pj_fill_5 n b) k v (nI i) (Int32.ofNat n) M1 = some (wR M b (fun j => if j < n then v else M.1 b j)) := by
    intro k
    induction k with
    | zero => intro i M1 _ h; omega
    | succ k ih =>
      intro i M1 hi hk h1 h2 h3
      show pj_fill_5 n b (xlp3 (pj_fill_5 n b) k) v (nI i) (Int32.ofNat n) M1 = _
      unfold pj_fill_5
      by_cases hc : i = n
      · subst hc
        rw [if_pos (show Int32.ofNat i ≤ nI i from Int32.le_refl _)]
        congr 1
        apply Prod.ext
        · funext a
          by_cases ha : a = b
          · subst ha
            funext j
            rw [wR_self, h1]
          · rw [wR_ne ha, h2 a ha]
        · exact h3
      · have hlt : i < n := by omega
        rw [if_neg (show ¬ Int32.ofNat n ≤ nI i from nI_ge hlt (by omega))]
        have hb : bIn (nI i) n = true := by
          simp only [bIn, decide_eq_true_eq]
          exact ⟨nI_pos' (by omega), by rw [nI_clamp (by omega)]; exact hlt⟩
        simp only [gd, hb, if_true, lt_]
        rw [nI_1]
        refine ih (i + 1) _ (by omega) (by omega) ?_ ?_ ?_
        · intro j
          rw [wI, wR_self, nI_clamp (by omega)]
          by_cases hj : j = i
          · subst hj
            simp [upd]
          · rw [pk_un hj, h1]
            by_cases h5 : j < i
            · rw [if_pos h5, if_pos (by omega)]
            · rw [if_neg h5, if_neg (by omega)]
        · intro a ha
          rw [wI, wR_ne ha, h2 a ha]
        · exact h3
  unfold pj_fill
  simp only [lt_]
  exact key FU 0 M (by omega) (by unfold FU; omega) (fun j => by simp) (fun _ _ => rfl) rfl
theorem k_fill {n b : Nat} {v : Int32} {wr : va_W} (K : Kx D cI cJ cL p m c cc nL s args own) (hP : va_P D vwCl ws H) (hD : va_D A ws) (hS : va_S A H0 H locs) (hA : ∀ q, H0.size ≤ q → A q) (hln : ls.size = nL) (i : Nat) (isR : List Nat) (hC : ws[i]? = some (b, .inl (cI, n, .inl (fun _ => 0)))) (hR : isR.map (fun i => ws[i]?) = wr.map some) (hn0 : n < 1000) (hn1 : va_nd isR = true) (hdis : ∀ j ∈ isR, j ∉ [i])
    (hg : GoodIn TBL (Cond.code yJ7_fill_53178 cJ7_fill_53178 4 none :: TBL)) (h1 : Cond.initialized RJ7 ∈ TBL) (h2 : Cond.methodLink own index yJ7_fill_53178 ∈ TBL) (h3 : Cond.static yJ7_fill_53178 ∈ TBL) (hRm : rok R 4 0) (hcs : cells ≤ R.cells ∧ slots ≤ R.slots) (hcat : (rest.map fun v => v.category).sum ≤ 8) (hdg : decode cc pc = .ok (.invokestatic index, 3))
    (kk : ∀ (H1 : Heap) (locs1 : List Loc), va_P D vwCl (wr ++ [(b, .inl (cI, n, .inl (fun j => if j < n then v else 0)))]) H1 → va_D A (wr ++ [(b, .inl (cI, n, .inl (fun j => if j < n then v else 0)))]) → va_S A H0 H1 locs1 → W p l e R s m args below meth c H1 locs1 cells slots Q (F0 m (pc + 3) ls rest)) : W p l e R s m args below meth c H locs cells slots Q (F0 m pc ls (.int v :: .ref b :: rest)) := by
  obtain ⟨hCF, hK, hN2, hO⟩ := K
  have hts := hCF.2.2.2.2
  let G1 : XG := oneG D cI cJ cL b
  let M0 : SX := (fun _ _ => 0, fun _ _ => 0)
  have hM := cj_fill (l := l) (G := G1) (Z := oneZ n) (M := M0) n 0 ⟨Nat.zero_lt_one, rfl⟩ v (fill_pure n 0 v hn0 M0)
  have hw0 : wd G1 (oneZ n) M0 = [(b, .inl (cI, n, .inl (fun _ => 0)))] := rfl
  have hPc : va_P D vwCl (wd G1 (oneZ n) M0) H := by
    rw [hw0]
    intro k q hk
    have hz : k < 1 := (List.getElem?_eq_some_iff.mp hk).1
    have hk0 : k = 0 := by omega
    subst hk0
    cases hk
    exact hP i _ hC
  have hI : Inj G1 (oneZ n) := fun i j hi hj _ => by
    have h1 : i < 1 := hi
    have h2 : j < 1 := hj
    omega
  have hin : ∀ q, inA G1 (oneZ n) q → A q := fun q h => by
    obtain ⟨k, hk, e⟩ := h
    have e2 : q = b := e
    subst e2
    exact hD.2 i _ hC
  have hrun := va_runS (p := p) (l := l) (e := e) (R := R) (s := s) (m := m) (args := args) (below := below) (meth := meth) (c := c) (H := H) (locs := locs) (cells := cells) (slots := slots) (own := own) (index := index) (n := 2) (g := F0 m pc ls (.int v :: .ref b :: rest)) (As := [.ref b, .int v]) (rest := rest) (Ts := TBL) (cc := cc) (nL := nL) hCF hM ⟨callB_of 2 hts hg rfl rfl rfl (hts _ h1) (hts _ h2) (by decide +kernel) hRm, hts _ h3⟩ ⟨xPc_blind G1 (oneZ n) M0 _, fun U hU hW => ⟨rfl, by rw [hU]; exact hPc, va_K.moved hW.alike hK, hN2.warm hW, hI⟩⟩ rfl rfl hln rfl (lv_room hcat) hdg hcs
  refine va_callv hrun hS (fun q _ h => hin q h) hin (fun u t H1 locs1 ht _ _ hB _ hk1 hS1 => ?_)
  have hB : va_P D vwCl (wd G1 (oneZ n) (wR M0 0 (fun j => if j < n then v else M0.1 0 j))) t.heap := hB
  rw [ht] at hB
  have hw1 : wd G1 (oneZ n) (wR M0 0 (fun j => if j < n then v else M0.1 0 j)) = [(b, .inl (cI, n, .inl (fun j => if j < n then v else 0)))] := rfl
  rw [hw1] at hB
  have hFc : ∀ q, va_A [(b, .inl (cI, n, .inl (fun _ => 0)))] H.size q → A q := va_free (wc := [(b, .inl (cI, n, .inl (fun _ => 0)))]) hD hS hA [i] (by show [ws[i]?] = _; rw [hC]; rfl)
  have hD1 : va_D (va_A [(b, .inl (cI, n, .inl (fun _ => 0)))] H.size) [(b, .inl (cI, n, .inl (fun j => if j < n then v else 0)))] := by
    refine ⟨fun i j x y hi hj _ => ?_, fun k q hk => ?_⟩
    · have h1 : i < 1 := (List.getElem?_eq_some_iff.mp hi).1
      have h2 : j < 1 := (List.getElem?_eq_some_iff.mp hj).1
      omega
    · have hz : k < 1 := (List.getElem?_eq_some_iff.mp hk).1
      have hk0 : k = 0 := by omega
      subst hk0
      cases hk
      exact Or.inl ⟨0, _, rfl⟩
  obtain ⟨hP2, hD2⟩ := va_join (wc := [(b, .inl (cI, n, .inl (fun _ => 0)))]) hP hD [i] isR (by show [ws[i]?] = _; rw [hC]; rfl) hR hn1 hdis (fun q h1 h2 => hk1 q h1 (fun hq => h2 (by
    obtain ⟨k, hk, e⟩ := hq
    have e2 : q = b := e
    subst e2
    exact Or.inl ⟨0, _, rfl⟩))) hFc hB hD1
  exact kk H1 locs1 hP2 hD2 hS1
end KFill
