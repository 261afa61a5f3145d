section XCall
variable {G : XG} {Z : Zh} {p : Program} {l : Launch} {e : Env} {R : Room} {s : State} {m : MethodId} {args : Array Value} {below : List Frame} {meth : Method} {c : Code} {H : Heap} {locs : List Loc} {Q : State → Prop}
variable {cc : ByteArray} {pc nL : Nat} {ls : Array Slot} {rest st0 : List Value} {M M' : SX} {own : String}
/-- the words of a call -/
def VW (own : String) (index : Nat) (C : String) (y : MethodName) (cd : Cond) (n : Nat) : Prop := GoodIn TBL (wsV own index C y (cd :: TBL)) ∧ y.cls = C ∧ y.cls ≠ "java/lang/invoke/MethodHandle" ∧ y.cls ≠ "java/lang/invoke/VarHandle" ∧ (parseMethodDescriptor y.desc).map (fun d => d.parameters.length) = some n
def SW (own : String) (index : Nat) (y : MethodName) (cd : Cond) (n : Nat) : Prop := GoodIn TBL (cd :: TBL) ∧ Cond.initialized y.cls ∈ TBL ∧ Cond.methodLink own index y ∈ TBL ∧ Cond.static y ∈ TBL ∧ y.cls ≠ "java/lang/invoke/MethodHandle" ∧ y.cls ≠ "java/lang/invoke/VarHandle" ∧ (parseMethodDescriptor y.desc).map (fun d => d.parameters.length) = some n
def NN (own : String) (index : Nat) (y : MethodName) (cd : Cond) (n : Nat) : Prop := GoodIn TBL (cd :: TBL) ∧ Cond.initialized y.cls ∈ TBL ∧ (own, index, y) ∈ nst ∧ Cond.static y ∈ TBL ∧ y.cls ≠ "java/lang/invoke/MethodHandle" ∧ y.cls ≠ "java/lang/invoke/VarHandle" ∧ (parseMethodDescriptor y.desc).map (fun d => d.parameters.length) = some n
abbrev rok (R : Room) (maxL d : Nat) : Prop := (rmX d).frames + 1 ≤ R.frames ∧ 8 + (maxL + 11) + (rmX d).locals ≤ R.locals
theorem x_runV {y : MethodName} {C : String} {T : u_T} {N index maxL n d k ci : Nat} {cs : List Nat} {bytes : ByteArray} {ret : Option FieldType} {As : List Value} {Qc : Array Value → State → Outcome → State → Prop} (F : Fx G Z p m c cc nL s args own) (hw : Wld G Z M s.heap H locs) (hln : ls.size = nL) (hv : VW own index C y (.code y bytes maxL ret) n) (hs : k < Z.2 ∧ Z.1 k = .inl (ci, cs)) (hcl : vwCl[ci]? = some (C, T, N)) (hM : Met l y (.code y bytes maxL ret :: TBL) (rmX d) (xPc G Z M (.ref (G.2.1 k) :: As)) Qc 0 0 (inA G Z)) (hn : As.length = n) (hst : st0 = As.reverse ++ .ref (G.2.1 k) :: rest) (hcat : (rest.map fun v => v.category).sum ≤ 8) (hR : rok R maxL d) (hdg : decode cc pc = .ok (.invokevirtual index, 3)) :
    va_Run p l e R s m args below meth c H locs 0 0 0 0 (F0 m pc ls st0) rest (Qc (Value.ref (G.2.1 k) :: As).toArray) (inA G Z) := by
  obtain ⟨hCF, hK, hN, hI⟩ := F
  have he := wd_get (G := G) (M := M) hs.1
  rw [hs.2] at he
  refine va_runV (As := As) (rest := rest) hCF hM (cwV n hCF.2.2.2.2 hv.1 rfl rfl rfl hv.2 hR) ⟨xPc_blind G Z M _, va_recv hK hw.1 hcl he, fun U hU hW => ⟨rfl, by rw [hU]; exact hw.1, va_K.moved hW.alike hK, hN.warm hW, hI⟩⟩ rfl hn hln hst (lv_room hcat) hdg ⟨Nat.zero_le _, Nat.zero_le _⟩
theorem x_runS {y : MethodName} {index maxL n d : Nat} {bytes : ByteArray} {ret : Option FieldType} {As : List Value} {Qc : Array Value → State → Outcome → State → Prop} (F : Fx G Z p m c cc nL s args own) (hw : Wld G Z M s.heap H locs) (hln : ls.size = nL) (hv : SW own index y (.code y bytes maxL ret) n) (hM : Met l y (.code y bytes maxL ret :: TBL) (rmX d) (xPc G Z M As) Qc 0 0 (inA G Z)) (hn : As.length = n) (hst : st0 = As.reverse ++ rest) (hcat : (rest.map fun v => v.category).sum ≤ 8) (hR : rok R maxL d) (hdg : decode cc pc = .ok (.invokestatic index, 3)) :
    va_Run p l e R s m args below meth c H locs 0 0 0 0 (F0 m pc ls st0) rest (Qc As.toArray) (inA G Z) := by
  obtain ⟨hCF, hK, hN, hI⟩ := F
  have hts := hCF.2.2.2.2
  refine va_runS (As := As) (rest := rest) hCF hM ⟨callB_of n hts hv.1 rfl rfl rfl (hts _ hv.2.1) (hts _ hv.2.2.1) hv.2.2.2.2 hR, hts _ hv.2.2.2.1⟩ ⟨xPc_blind G Z M _, fun U hU hW => ⟨rfl, by rw [hU]; exact hw.1, va_K.moved hW.alike hK, hN.warm hW, hI⟩⟩ rfl hn hln hst (lv_room hcat) hdg ⟨Nat.zero_le _, Nat.zero_le _⟩
theorem x_runN {y : MethodName} {index maxL n d : Nat} {bytes : ByteArray} {ret : Option FieldType} {As : List Value} {Qc : Array Value → State → Outcome → State → Prop} (F : Fx G Z p m c cc nL s args own) (hw : Wld G Z M s.heap H locs) (hln : ls.size = nL) (hv : NN own index y (.code y bytes maxL ret) n) (hM : Met l y (.code y bytes maxL ret :: TBL) (rmX d) (xPc G Z M As) Qc 0 0 (inA G Z)) (hn : As.length = n) (hst : st0 = As.reverse ++ rest) (hcat : (rest.map fun v => v.category).sum ≤ 8) (hR : rok R maxL d) (hdg : decode cc pc = .ok (.invokestatic index, 3)) :
    va_Run p l e R s m args below meth c H locs 0 0 0 0 (F0 m pc ls st0) rest (Qc As.toArray) (inA G Z) := by
  obtain ⟨hCF, hK, hN, hI⟩ := F
  have hts := hCF.2.2.2.2
  refine va_runSN (As := As) (rest := rest) (host := "PawnLane") hCF hM ⟨va_cnB n hts hv.1 rfl rfl rfl (hN _ hv.2.2.1) (hts _ hv.2.1) hv.2.2.2.2 hR, hts _ hv.2.2.2.1, trivial⟩ ⟨xPc_blind G Z M _, fun U hU hW => ⟨rfl, by rw [hU]; exact hw.1, va_K.moved hW.alike hK, hN.warm hW, hI⟩⟩ rfl hn hln hst (lv_room hcat) hdg ⟨Nat.zero_le _, Nat.zero_le _⟩
theorem x_aftI {a : Array Value} {r : Int32} (hw : Wld G Z M s.heap H locs) (hr : va_Run p l e R s m args below meth c H locs 0 0 0 0 (F0 m pc ls st0) rest (xQi G Z r M' a) (inA G Z))
    (kk : ∀ (H1 : Heap) (locs1 : List Loc), Wld G Z M' s.heap H1 locs1 → W p l e R s m args below meth c H1 locs1 0 0 Q (F0 m (pc + 3) ls (.int r :: rest))) : W p l e R s m args below meth c H locs 0 0 Q (F0 m pc ls st0) := by
  refine va_calli hr hw.2 (fun _ _ h => h) (fun _ h => h) (fun r1 u t H1 locs1 ht _ hr1 hP _ _ hS => ?_)
  have hP : va_P G.1 vwCl (wd G Z M') t.heap := hP
  have hr1 : r1 = r := hr1
  rw [ht] at hP
  rw [hr1]
  exact kk H1 locs1 ⟨hP, hS⟩
theorem x_aftL {a : Array Value} {r : Int64} (hw : Wld G Z M s.heap H locs) (hr : va_Run p l e R s m args below meth c H locs 0 0 0 0 (F0 m pc ls st0) rest (xQl G Z r M' a) (inA G Z))
    (kk : ∀ (H1 : Heap) (locs1 : List Loc), Wld G Z M' s.heap H1 locs1 → W p l e R s m args below meth c H1 locs1 0 0 Q (F0 m (pc + 3) ls (.long r :: rest))) : W p l e R s m args below meth c H locs 0 0 Q (F0 m pc ls st0) := by
  refine va_calll hr hw.2 (fun _ _ h => h) (fun _ h => h) (fun r1 u t H1 locs1 ht _ hr1 hP _ _ hS => ?_)
  have hP : va_P G.1 vwCl (wd G Z M') t.heap := hP
  have hr1 : r1 = r := hr1
  rw [ht] at hP
  rw [hr1]
  exact kk H1 locs1 ⟨hP, hS⟩
theorem x_aftV {a : Array Value} (hw : Wld G Z M s.heap H locs) (hr : va_Run p l e R s m args below meth c H locs 0 0 0 0 (F0 m pc ls st0) rest (xQv G Z M' a) (inA G Z))
    (kk : ∀ (H1 : Heap) (locs1 : List Loc), Wld G Z M' s.heap H1 locs1 → W p l e R s m args below meth c H1 locs1 0 0 Q (F0 m (pc + 3) ls rest)) : W p l e R s m args below meth c H locs 0 0 Q (F0 m pc ls st0) := by
  refine va_callv hr hw.2 (fun _ _ h => h) (fun _ h => h) (fun u t H1 locs1 ht _ _ hP _ _ hS => ?_)
  have hP : va_P G.1 vwCl (wd G Z M') t.heap := hP
  rw [ht] at hP
  exact kk H1 locs1 ⟨hP, hS⟩
theorem x_iret {v r : Int32} (F : Fx G Z p m c cc nL s args own) (hw : Wld G Z M s.heap H locs) (hr : meth.sig.returnType = some .int) (hlk : meth.locks = false) (hf : some (v, M) = some (r, M')) (hdg : decode cc pc = .ok (.ireturn, 1)) : W p l e R s m args below meth c H locs 0 0 (MQ below (xQi G Z r M') args s 0 0 (inA G Z)) (F0 m pc ls [.int v]) := by
  cases hf
  exact W.iret F.1.1 F.1.2.1 hr (fun t ht _ => ⟨⟨v, (), rfl, rfl, by show va_P _ _ _ _; rw [ht]; exact hw.1⟩, hw.2.F ht⟩) hw.2.2.2 hdg hlk
theorem x_zret {v r : Int32} (F : Fx G Z p m c cc nL s args own) (hw : Wld G Z M s.heap H locs) (hr : meth.sig.returnType = some .boolean) (hlk : meth.locks = false) (hn : narrow .boolean (.int v) = .int v) (hf : some (v, M) = some (r, M')) (hdg : decode cc pc = .ok (.ireturn, 1)) : W p l e R s m args below meth c H locs 0 0 (MQ below (xQi G Z r M') args s 0 0 (inA G Z)) (F0 m pc ls [.int v]) := by
  cases hf
  exact W.zret F.1.1 F.1.2.1 hr hn (fun t ht _ => ⟨⟨v, (), rfl, rfl, by show va_P _ _ _ _; rw [ht]; exact hw.1⟩, hw.2.F ht⟩) hw.2.2.2 hdg hlk
theorem x_lret {v r : Int64} (F : Fx G Z p m c cc nL s args own) (hw : Wld G Z M s.heap H locs) (hr : meth.sig.returnType = some .long) (hlk : meth.locks = false) (hf : some (v, M) = some (r, M')) (hdg : decode cc pc = .ok (.lreturn, 1)) : W p l e R s m args below meth c H locs 0 0 (MQ below (xQl G Z r M') args s 0 0 (inA G Z)) (F0 m pc ls [.long v]) := by
  cases hf
  exact W.lret F.1.1 F.1.2.1 hr (fun t ht _ => ⟨⟨v, (), rfl, rfl, by show va_P _ _ _ _; rw [ht]; exact hw.1⟩, hw.2.F ht⟩) hw.2.2.2 hdg hlk
theorem x_vret (F : Fx G Z p m c cc nL s args own) (hw : Wld G Z M s.heap H locs) (hr : meth.sig.returnType = none) (hlk : meth.locks = false) (hf : some M = some M') (hdg : decode cc pc = .ok (.return_, 1)) : W p l e R s m args below meth c H locs 0 0 (MQ below (xQv G Z M') args s 0 0 (inA G Z)) (F0 m pc ls []) := by
  cases hf
  exact W.vret F.1.1 F.1.2.1 hr (fun t ht _ => ⟨⟨(), rfl, trivial, by show va_P _ _ _ _; rw [ht]; exact hw.1⟩, hw.2.F ht⟩) hw.2.2.2 hdg hlk
theorem x_met {y : MethodName} {maxL d : Nat} {ret : Option FieldType} {av : List Value} {Qc : Array Value → State → Outcome → State → Prop} (hy : plainName y.cls = true) (hlen : (lg_sl av).length ≤ maxL)
    (body : ∀ (p : Program) (e : Env) (s : State) (m : MethodId) (below : List Frame) (meth : Method) (c : Code) (ls : Array Slot), Fx G Z p m c cc maxL s av.toArray y.cls → meth.sig.returnType = ret → meth.locks = false → lv_has ls maxL (lv_args 0 av) → Wld G Z M s.heap s.heap [] → W p l e (rmX d) s m av.toArray below meth c s.heap [] 0 0 (MQ below Qc av.toArray s 0 0 (inA G Z)) (F0 m 0 ls [])) :
    Met l y (.code y cc maxL ret :: TBL) (rmX d) (xPc G Z M av) Qc 0 0 (inA G Z) := by
  refine Met.ofW (cc := cc) (maxL := maxL) (ret := ret) hy rfl ?_
  intro p e s m args below meth c s₁ B hml hv
  obtain ⟨rfl, hP, hK, hN, hI⟩ := hv
  have hts := atoms_spec (ws := (Cond.code y cc maxL ret :: TBL)) B.pre
  have hown : s.vm.findClass y.cls = some m.cls := findClass_of_methodNamed B.named
  have hl := lv_entry av (n := maxL) hlen
  rw [lg_entry_eq]
  exact body p e s m below meth c _ ⟨⟨B.exec, B.bytes, hml, hown, fun w h => hts w (List.mem_cons_of_mem _ h)⟩, hK, hN, hI⟩ B.returns B.notSynchronized hl ⟨hP, va_S.rf⟩
end XCall
