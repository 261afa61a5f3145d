/-! THE CLAIM OUT OF ONE WALK OF THE LAW'S BODY. Your part is whole_start (and what it stands on); all else here is the same for every law, but numbers. -/
def R_law : String := "PawnLaneLaw"
def lw_P (b : Addr) (xs : List Int32) (args : Array Value) (s : State) : Prop := args = #[.ref b] ∧ s.IntsAt b xs ∧ xs.length ≤ 384 ∧ (Jvm.Cond.and given_1 narrow_1).before args s = true
def lw_Q (_ : Array Value) (s : State) (o : Outcome) (t : State) : Prop := o = .returned (some (.int 1)) ∧ Framed s o t [] 600000 7302250
def lw_Z (below : List Frame) (a : Array Value) (s : State) : State → Prop := fun t => ∃ o, t.status = .running ∧ Ended t below o ∧ lw_Q a s o t
/-- the law's own end, with 1 on the stack, nothing written that was there before, its room as the claim has it -/
theorem lw_ret {p : Program} {l : Launch} {e : Env} {s : State} {m : MethodId} {below : List Frame} {meth : Method} {c : Code} {b : Nat} (hx : p.tables.exec = Jvm.exec) (hb : c.code = code) (hr : meth.sig.returnType = ret) (hlocks : meth.locks = false) {pc : Nat} {H : Heap} {ls : Array Slot} (hdg : decode code pc = .ok (.ireturn, 1)) : W p l e room_1 s m #[Value.ref b] below meth c H [] 600000 7302250 (lw_Z below #[Value.ref b] s) (F0 m pc ls [.int 1]) := by
  intro T hT X
  obtain ⟨fs, hret, hrun, hended, hW, hframe⟩ := X.leave (v := some (.int 1)) (hlocks := hlocks) (fun h => by rw [hr] at h; cases h)
  have hmeth' : T.vm.method? m = some meth := X.method'
  refine ⟨T.setFrames fs, ?_, .returned (some (.int 1)), hrun, hended, rfl, ⟨_, rfl⟩, hW, hframe⟩
  jvm_step X.here [X.here.top, hx, hb, hdg, hmeth', hr, ret, narrow_b1]
  (try refine ⟨rfl, ?_⟩); (try refine ⟨rfl, ?_⟩)
  first | (intro acts; rw [hret _ acts rfl rfl rfl]) | rw [hret _ _ rfl rfl rfl]
  exact Steps.refl _
/-- what holds at the law's entry: the machine, the code, the tables' words (any of lw_tbl by 'hts w (by decide +kernel)'), the script of L ints xs at the cell b, what the Statement gives of the start (any of its parts by flat_of_before) -/
def lw_At (p : Program) (s : State) (m : MethodId) (meth : Method) (c : Code) (b L : Nat) (xs : Nat → Int32) : Prop :=
  p.tables.exec = Jvm.exec ∧ c.code = code ∧ meth.sig.returnType = ret ∧ c.maxLocals = 4 ∧ s.vm.findClass R_law = some m.cls ∧ (∀ w ∈ lw_tbl, w.before #[Value.ref b] s = true) ∧ va_X b L xs s s.heap ∧ b < s.heap.size ∧ meth.locks = false ∧ (Jvm.Cond.and given_1 narrow_1).before #[Value.ref b] s = true
/-! the law's world: both objects, apart, all made since its start -/
def LWd (GX GY : XG) (MX MY : SX) (H : Heap) : Prop := va_P GX.1 vwCl (wd GX ZX MX) H ∧ va_P GY.1 vwCl (wd GY ZY MY) H
def LEnv (GX GY : XG) (s : State) : Prop := va_K GX.1 vwCl (tysOf GX) s ∧ va_K GY.1 vwCl (tysOf GY) s ∧ NW s ∧ Inj GX ZX ∧ Inj GY ZY ∧ (∀ i j, i < 60 → j < 16 → GX.2.1 i ≠ GY.2.1 j) ∧ (∀ i, i < 60 → s.heap.size ≤ GX.2.1 i) ∧ (∀ j, j < 16 → s.heap.size ≤ GY.2.1 j)
abbrev WL (p : Program) (l : Launch) (e : Env) (s : State) (m : MethodId) (b : Nat) (below : List Frame) (meth : Method) (c : Code) (H : Heap) (locs : List Loc) (g : JFrame) : Prop := W p l e room_1 s m #[Value.ref b] below meth c H locs 76 5777 (lw_Z below #[Value.ref b] s) g
section LCalls
variable {p : Program} {l : Launch} {e : Env} {s : State} {m : MethodId} {below : List Frame} {meth : Method} {c : Code} {b L : Nat} {xs : Nat → Int32} {GX GY : XG} {H : Heap} {locs : List Loc} {pc : Nat} {ls : Array Slot} {rest st0 : List Value} {MX MY M' : SX}
theorem l_runX {y : MethodName} {index maxL n d : Nat} {bytes : ByteArray} {ret : Option FieldType} {As : List Value} {Qc : Array Value → State → Outcome → State → Prop} (C0 : lw_At p s m meth c b L xs) (E : LEnv GX GY s) (hln : ls.size = 4) (hv : VW RL index RX5 y (.code y bytes maxL ret) n) (hM : Met l y (.code y bytes maxL ret :: TBL) (rmX d) (xPc GX ZX MX (.ref (GX.2.1 0) :: As)) Qc 0 0 (inA GX ZX)) (hP : LWd GX GY MX MY H) (hn : As.length = n) (hst : st0 = As.reverse ++ .ref (GX.2.1 0) :: rest) (hcat : (rest.map fun v => v.category).sum ≤ 8) (hR : rok room_1 maxL d) (hdg : decode code pc = .ok (.invokevirtual index, 3)) :
    va_Run p l e room_1 s m #[Value.ref b] below meth c H locs 76 5777 0 0 (F0 m pc ls st0) rest (Qc (Value.ref (GX.2.1 0) :: As).toArray) (inA GX ZX) := by
  obtain ⟨hx, hb, hr, hml, hown, hts, hX, hbl, hlocks, hgv⟩ := C0
  obtain ⟨hK, -, hN, hI, -, -, -, -⟩ := E
  have ht : ∀ w ∈ TBL, w.before #[Value.ref b] s = true := fun w h => hts w (tbl_good h).1
  have he := wd_get (G := GX) (Z := ZX) (M := MX) sP.1
  rw [sP.2] at he
  exact va_runV (As := As) (rest := rest) ⟨hx, hb, hml, hown, ht⟩ hM (cwV n ht hv.1 rfl rfl rfl hv.2 hR) ⟨xPc_blind GX ZX MX _, va_recv (ci := 5) hK hP.1 rfl he, fun U hU hW => ⟨rfl, by rw [hU]; exact hP.1, va_K.moved hW.alike hK, hN.warm hW, hI⟩⟩ rfl hn hln hst (lv_room hcat) hdg ⟨Nat.le_of_ble_eq_true rfl, Nat.le_of_ble_eq_true rfl⟩
theorem l_runY {y : MethodName} {index maxL n d : Nat} {bytes : ByteArray} {ret : Option FieldType} {As : List Value} {Qc : Array Value → State → Outcome → State → Prop} (C0 : lw_At p s m meth c b L xs) (E : LEnv GX GY s) (hln : ls.size = 4) (hv : VW RL index RX6 y (.code y bytes maxL ret) n) (hM : Met l y (.code y bytes maxL ret :: TBL) (rmX d) (xPc GY ZY MY (.ref (GY.2.1 0) :: As)) Qc 0 0 (inA GY ZY)) (hP : LWd GX GY MX MY H) (hn : As.length = n) (hst : st0 = As.reverse ++ .ref (GY.2.1 0) :: rest) (hcat : (rest.map fun v => v.category).sum ≤ 8) (hR : rok room_1 maxL d) (hdg : decode code pc = .ok (.invokevirtual index, 3)) :
    va_Run p l e room_1 s m #[Value.ref b] below meth c H locs 76 5777 0 0 (F0 m pc ls st0) rest (Qc (Value.ref (GY.2.1 0) :: As).toArray) (inA GY ZY) := by
  obtain ⟨hx, hb, hr, hml, hown, hts, hX, hbl, hlocks, hgv⟩ := C0
  obtain ⟨-, hK, hN, -, hI, -, -, -⟩ := E
  have ht : ∀ w ∈ TBL, w.before #[Value.ref b] s = true := fun w h => hts w (tbl_good h).1
  have he := wd_get (G := GY) (Z := ZY) (M := MY) sM.1
  rw [sM.2] at he
  exact va_runV (As := As) (rest := rest) ⟨hx, hb, hml, hown, ht⟩ hM (cwV n ht hv.1 rfl rfl rfl hv.2 hR) ⟨xPc_blind GY ZY MY _, va_recv (ci := 6) hK hP.2 rfl he, fun U hU hW => ⟨rfl, by rw [hU]; exact hP.2, va_K.moved hW.alike hK, hN.warm hW, hI⟩⟩ rfl hn hln hst (lv_room hcat) hdg ⟨Nat.le_of_ble_eq_true rfl, Nat.le_of_ble_eq_true rfl⟩
theorem inA_X (E : LEnv GX GY s) (q : Nat) (h : inA GX ZX q) : s.heap.size ≤ q := by
  obtain ⟨k, hk, e⟩ := h
  rw [e]
  exact E.2.2.2.2.2.2.1 k hk
theorem inA_Y (E : LEnv GX GY s) (q : Nat) (h : inA GY ZY q) : s.heap.size ≤ q := by
  obtain ⟨k, hk, e⟩ := h
  rw [e]
  exact E.2.2.2.2.2.2.2 k hk
theorem keepY {H1 : Heap} (E : LEnv GX GY s) (hP : va_P GY.1 vwCl (wd GY ZY MY) H) (hk : ∀ q : Nat, q < H.size → ¬ inA GX ZX q → H1[q]? = H[q]?) : va_P GY.1 vwCl (wd GY ZY MY) H1 := by
  refine hP.kept (fun k q hq => hk q.1 (hP k q hq).lt (fun h => ?_))
  obtain ⟨h1, h2⟩ := wd_at hq
  obtain ⟨j, hj, e⟩ := h
  rw [h2] at e
  exact E.2.2.2.2.2.1 j k hj h1 e.symm
theorem keepX {H1 : Heap} (E : LEnv GX GY s) (hP : va_P GX.1 vwCl (wd GX ZX MX) H) (hk : ∀ q : Nat, q < H.size → ¬ inA GY ZY q → H1[q]? = H[q]?) : va_P GX.1 vwCl (wd GX ZX MX) H1 := by
  refine hP.kept (fun k q hq => hk q.1 (hP k q hq).lt (fun h => ?_))
  obtain ⟨h1, h2⟩ := wd_at hq
  obtain ⟨j, hj, e⟩ := h
  rw [h2] at e
  exact E.2.2.2.2.2.1 k j h1 hj e
theorem l_cXi {y : MethodName} {index maxL n d : Nat} {bytes : ByteArray} {ret : Option FieldType} {As : List Value} {r : Int32} (C0 : lw_At p s m meth c b L xs) (E : LEnv GX GY s) (hln : ls.size = 4) (hv : VW RL index RX5 y (.code y bytes maxL ret) n) (hM : Met l y (.code y bytes maxL ret :: TBL) (rmX d) (xPc GX ZX MX (.ref (GX.2.1 0) :: As)) (xQi GX ZX r M') 0 0 (inA GX ZX)) (hP : LWd GX GY MX MY H) (hS : va_S (fun q : Nat => s.heap.size ≤ q) s.heap H locs) (hn : As.length = n) (hst : st0 = As.reverse ++ .ref (GX.2.1 0) :: rest) (hcat : (rest.map fun v => v.category).sum ≤ 8) (hR : rok room_1 maxL d) (hdg : decode code pc = .ok (.invokevirtual index, 3))
    (kk : ∀ (H : Heap) (locs : List Loc), LWd GX GY M' MY H → va_S (fun q : Nat => s.heap.size ≤ q) s.heap H locs → WL p l e s m b below meth c H locs (F0 m (pc + 3) ls (.int r :: rest))) : WL p l e s m b below meth c H locs (F0 m pc ls st0) := by
  refine va_calli (l_runX C0 E hln hv hM hP hn hst hcat hR hdg) hS (fun q _ h => inA_X E q h) (inA_X E) (fun r1 u t H1 locs1 ht _ hr1 hB _ hk1 hS1 => ?_)
  have hB : va_P GX.1 vwCl (wd GX ZX M') t.heap := hB
  have hr1 : r1 = r := hr1
  rw [ht] at hB
  rw [hr1]
  exact kk H1 locs1 ⟨hB, keepY E hP.2 hk1⟩ hS1
theorem l_cXl {y : MethodName} {index maxL n d : Nat} {bytes : ByteArray} {ret : Option FieldType} {As : List Value} {r : Int64} (C0 : lw_At p s m meth c b L xs) (E : LEnv GX GY s) (hln : ls.size = 4) (hv : VW RL index RX5 y (.code y bytes maxL ret) n) (hM : Met l y (.code y bytes maxL ret :: TBL) (rmX d) (xPc GX ZX MX (.ref (GX.2.1 0) :: As)) (xQl GX ZX r M') 0 0 (inA GX ZX)) (hP : LWd GX GY MX MY H) (hS : va_S (fun q : Nat => s.heap.size ≤ q) s.heap H locs) (hn : As.length = n) (hst : st0 = As.reverse ++ .ref (GX.2.1 0) :: rest) (hcat : (rest.map fun v => v.category).sum ≤ 8) (hR : rok room_1 maxL d) (hdg : decode code pc = .ok (.invokevirtual index, 3))
    (kk : ∀ (H : Heap) (locs : List Loc), LWd GX GY M' MY H → va_S (fun q : Nat => s.heap.size ≤ q) s.heap H locs → WL p l e s m b below meth c H locs (F0 m (pc + 3) ls (.long r :: rest))) : WL p l e s m b below meth c H locs (F0 m pc ls st0) := by
  refine va_calll (l_runX C0 E hln hv hM hP hn hst hcat hR hdg) hS (fun q _ h => inA_X E q h) (inA_X E) (fun r1 u t H1 locs1 ht _ hr1 hB _ hk1 hS1 => ?_)
  have hB : va_P GX.1 vwCl (wd GX ZX M') t.heap := hB
  have hr1 : r1 = r := hr1
  rw [ht] at hB
  rw [hr1]
  exact kk H1 locs1 ⟨hB, keepY E hP.2 hk1⟩ hS1
theorem l_cYi {y : MethodName} {index maxL n d : Nat} {bytes : ByteArray} {ret : Option FieldType} {As : List Value} {r : Int32} (C0 : lw_At p s m meth c b L xs) (E : LEnv GX GY s) (hln : ls.size = 4) (hv : VW RL index RX6 y (.code y bytes maxL ret) n) (hM : Met l y (.code y bytes maxL ret :: TBL) (rmX d) (xPc GY ZY MY (.ref (GY.2.1 0) :: As)) (xQi GY ZY r M') 0 0 (inA GY ZY)) (hP : LWd GX GY MX MY H) (hS : va_S (fun q : Nat => s.heap.size ≤ q) s.heap H locs) (hn : As.length = n) (hst : st0 = As.reverse ++ .ref (GY.2.1 0) :: rest) (hcat : (rest.map fun v => v.category).sum ≤ 8) (hR : rok room_1 maxL d) (hdg : decode code pc = .ok (.invokevirtual index, 3))
    (kk : ∀ (H : Heap) (locs : List Loc), LWd GX GY MX M' H → va_S (fun q : Nat => s.heap.size ≤ q) s.heap H locs → WL p l e s m b below meth c H locs (F0 m (pc + 3) ls (.int r :: rest))) : WL p l e s m b below meth c H locs (F0 m pc ls st0) := by
  refine va_calli (l_runY C0 E hln hv hM hP hn hst hcat hR hdg) hS (fun q _ h => inA_Y E q h) (inA_Y E) (fun r1 u t H1 locs1 ht _ hr1 hB _ hk1 hS1 => ?_)
  have hB : va_P GY.1 vwCl (wd GY ZY M') t.heap := hB
  have hr1 : r1 = r := hr1
  rw [ht] at hB
  rw [hr1]
  exact kk H1 locs1 ⟨keepX E hP.1 hk1, hB⟩ hS1
theorem l_cYl {y : MethodName} {index maxL n d : Nat} {bytes : ByteArray} {ret : Option FieldType} {As : List Value} {r : Int64} (C0 : lw_At p s m meth c b L xs) (E : LEnv GX GY s) (hln : ls.size = 4) (hv : VW RL index RX6 y (.code y bytes maxL ret) n) (hM : Met l y (.code y bytes maxL ret :: TBL) (rmX d) (xPc GY ZY MY (.ref (GY.2.1 0) :: As)) (xQl GY ZY r M') 0 0 (inA GY ZY)) (hP : LWd GX GY MX MY H) (hS : va_S (fun q : Nat => s.heap.size ≤ q) s.heap H locs) (hn : As.length = n) (hst : st0 = As.reverse ++ .ref (GY.2.1 0) :: rest) (hcat : (rest.map fun v => v.category).sum ≤ 8) (hR : rok room_1 maxL d) (hdg : decode code pc = .ok (.invokevirtual index, 3))
    (kk : ∀ (H : Heap) (locs : List Loc), LWd GX GY MX M' H → va_S (fun q : Nat => s.heap.size ≤ q) s.heap H locs → WL p l e s m b below meth c H locs (F0 m (pc + 3) ls (.long r :: rest))) : WL p l e s m b below meth c H locs (F0 m pc ls st0) := by
  refine va_calll (l_runY C0 E hln hv hM hP hn hst hcat hR hdg) hS (fun q _ h => inA_Y E q h) (inA_Y E) (fun r1 u t H1 locs1 ht _ hr1 hB _ hk1 hS1 => ?_)
  have hB : va_P GY.1 vwCl (wd GY ZY M') t.heap := hB
  have hr1 : r1 = r := hr1
  rw [ht] at hB
  rw [hr1]
  exact kk H1 locs1 ⟨keepX E hP.1 hk1, hB⟩ hS1
end LCalls

