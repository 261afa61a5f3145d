set_option maxHeartbeats 4000000 in
set_option maxRecDepth 100000 in
theorem whole_start {p : Program} {e : Env} {s : State} {m : MethodId} {below : List Frame} {meth : Method} {c : Code} (l : Launch) {b L : Nat} {xs : Nat → Int32} (hL : L ≤ 384) (C0 : lw_At p s m meth c b L xs) : W p l e room_1 s m #[Value.ref b] below meth c s.heap [] 0 0 (lw_Z below #[Value.ref b] s) (entryFrame m ([Value.ref b] : List Value).toArray 4) := by
  obtain ⟨hx, hb, hr, hml, hown, hts, hX, hbl, hlocks, hgv⟩ := id C0
  have ht : ∀ w ∈ TBL, w.before #[Value.ref b] s = true := fun w h => hts w (tbl_good h).1
  obtain ⟨c0, iS0, hKn0⟩ := u_known (C := RX0) (T := TX0) (N := 2) (n := 2) ht inT0 (ht _ tw_900)
  obtain ⟨c1, iS1, hKn1⟩ := u_known (C := RX1) (T := TX1) (N := 8) (n := 8) ht inT1 (ht _ tw_906)
  obtain ⟨c2, iS2, hKn2⟩ := u_known (C := RX2) (T := TX2) (N := 6) (n := 6) ht inT2 (ht _ tw_923)
  obtain ⟨c3, iS3, hKn3⟩ := u_known (C := RX3) (T := TX3) (N := 5) (n := 5) ht inT3 (ht _ tw_918)
  obtain ⟨c4, iS4, hKn4⟩ := u_known (C := RX4) (T := TX4) (N := 3) (n := 3) ht inT4 (ht _ tw_913)
  obtain ⟨c5, iS5, hKn5⟩ := u_known (C := RX5) (T := TX5) (N := 11) (n := 11) ht inT5 (ht _ tw_1398)
  obtain ⟨c6, iS6, hKn6⟩ := u_known (C := RX6) (T := TX6) (N := 26) (n := 26) ht inT6 (ht _ tw_1399)
  obtain ⟨D, hKc⟩ : ∃ D : va_G, ∀ (k : Nat) (q : vw_C), vwCl[k]? = some q → u_Kn s q.1 q.2.1 q.2.2 (D.1 k) (D.2 k) := by
    refine ⟨(fun k => if k = 0 then c0 else (if k = 1 then c1 else (if k = 2 then c2 else (if k = 3 then c3 else (if k = 4 then c4 else (if k = 5 then c5 else c6))))), fun k => if k = 0 then iS0 else (if k = 1 then iS1 else (if k = 2 then iS2 else (if k = 3 then iS3 else (if k = 4 then iS4 else (if k = 5 then iS5 else iS6)))))), ?_⟩
    intro k q hq
    match k, hq with
    | 0, hq => cases hq; exact hKn0
    | 1, hq => cases hq; exact hKn1
    | 2, hq => cases hq; exact hKn2
    | 3, hq => cases hq; exact hKn3
    | 4, hq => cases hq; exact hKn4
    | 5, hq => cases hq; exact hKn5
    | 6, hq => cases hq; exact hKn6
    | k + 7, hq => simp [vwCl] at hq
  obtain ⟨cI, kI, pI, fI1, fI2, fI3⟩ := Cond.arrayClass_spec (ht (.arrayClass .int) tw_897)
  obtain ⟨cJ, kJ, pJ, fJ1, fJ2, fJ3⟩ := Cond.arrayClass_spec (ht (.arrayClass .long) tw_927)
  have hAO : va_AO "PawnLane$Lane" s := va_AO.of (hts (.arrayOver (.object "PawnLane$Lane")) (List.mem_append_right _ (List.mem_append_left _ (List.mem_of_getElem? (i := 124) (by decide +kernel)))))
  obtain ⟨pL, cL, kL, fL1, fL2, fL3, fL4, fL5⟩ := Cond.arrayOver_spec hAO
  have hK : va_K D vwCl (tys3 cI cJ cL) s := by
    refine ⟨hKc, fun k q hq => ?_⟩
    match k, hq with
    | 0, hq => cases hq; exact ⟨fun n z => ⟨fun k h => (by cases h), kI, fI2, pI, fI3⟩, fI1⟩
    | 1, hq => cases hq; exact ⟨fun n z => ⟨fun k h => (by cases h), kJ, fJ2, pJ, fJ3⟩, fJ1⟩
    | 2, hq => cases hq; exact ⟨fun n z => ⟨fun k h => (by cases h), kL, fL3, pL, fL4⟩, kL, pL, fL3, fL4, fL1, fL5⟩
    | k + 3, hq => simp [tys3] at hq
  have hN : NW s := by
    intro q hq
    obtain ⟨j, hj⟩ := List.getElem?_of_mem hq
    match j, hj with
    | 0, hj => cases hj; exact va_Nw.of rfl (hts _ (List.mem_append_right _ (List.mem_append_right _ (List.mem_append_right _ (List.mem_append_left _ (List.mem_of_getElem? (i := 64) (by decide +kernel)))))))
    | 1, hj => cases hj; exact va_Nw.of rfl (hts _ (List.mem_append_right _ (List.mem_append_right _ (List.mem_append_left _ (List.mem_of_getElem? (i := 116) (by decide +kernel))))))
    | 2, hj => cases hj; exact va_Nw.of rfl (hts _ (List.mem_append_right _ (List.mem_append_right _ (List.mem_append_right _ (List.mem_append_right _ (List.mem_append_left _ (List.mem_of_getElem? (i := 44) (by decide +kernel))))))))
    | 3, hj => cases hj; exact va_Nw.of rfl (hts _ (List.mem_append_right _ (List.mem_append_right _ (List.mem_append_left _ (List.mem_of_getElem? (i := 169) (by decide +kernel))))))
    | 4, hj => cases hj; exact va_Nw.of rfl (hts _ (List.mem_append_right _ (List.mem_append_left _ (List.mem_of_getElem? (i := 42) (by decide +kernel)))))
    | 5, hj => cases hj; exact va_Nw.of rfl (hts _ (List.mem_append_right _ (List.mem_append_left _ (List.mem_of_getElem? (i := 123) (by decide +kernel)))))
    | 6, hj => cases hj; exact va_Nw.of rfl (hts _ (List.mem_append_right _ (List.mem_append_left _ (List.mem_of_getElem? (i := 127) (by decide +kernel)))))
    | 7, hj => cases hj; exact va_Nw.of rfl (hts _ (List.mem_append_right _ (List.mem_append_left _ (List.mem_of_getElem? (i := 54) (by decide +kernel)))))
    | 8, hj => cases hj; exact va_Nw.of rfl (hts _ (List.mem_append_right _ (List.mem_append_left _ (List.mem_of_getElem? (i := 48) (by decide +kernel)))))
    | j + 9, hj => simp [nst] at hj
  have hA : ∀ q : Nat, s.heap.size ≤ q → (fun q : Nat => s.heap.size ≤ q) q := fun _ h => h
  have K : Kx D cI cJ cL p m c code 4 s #[Value.ref b] RL := ⟨⟨hx, hb, hml, hown, ht⟩, hK, hN, hAO⟩
  have hS : va_S (fun q : Nat => s.heap.size ≤ q) s.heap s.heap [] := va_S.rf
  have hP : va_P D vwCl [] s.heap := fun k q h => by simp at h
  have hD : va_D (fun q : Nat => s.heap.size ≤ q) [] := ⟨fun i j p q h => by simp at h, fun k q h => by simp at h⟩
  have hl := lv_entry ([.ref b]) (n := 4) (Nat.le_of_ble_eq_true rfl)
  rw [lg_entry_eq]
  generalize (lg_sl ([.ref b]) ++ List.replicate (4 - (lg_sl ([.ref b])).length) Slot.unset).toArray = ls at hl ⊢
  have hl : lv_has ls 4 [(0, .ref b)] := hl
  refine va_new (ci := 5) (fs := [.null, .null, .null, .null, .null, .null, .null, .int 0, .int 0, .long 0, .long 0]) (C := RX5) (T := TX5) (N := 11) hx hb ht inT5 tyX5 tyX5_ok hown (ht _ tw_1400) (ht _ tw_1398) (ht _ tw_60) hK hP hD hS hA rfl (fun j hj => by rcases (show j = 0 ∨ j = 1 ∨ j = 2 ∨ j = 3 ∨ j = 4 ∨ j = 5 ∨ j = 6 ∨ j = 7 ∨ j = 8 ∨ j = 9 ∨ j = 10 by omega) with rfl | rfl | rfl | rfl | rfl | rfl | rfl | rfl | rfl | rfl | rfl <;> rfl) (Nat.le_of_ble_eq_true rfl) (Nat.le_of_ble_eq_true rfl) dL_law_0 (fun q0 H hP hD hS => ?_)
  have hP : va_P D vwCl [(q0, .inr (5, [.null, .null, .null, .null, .null, .null, .null, .int 0, .int 0, .long 0, .long 0]))] H := hP
  have hD : va_D (fun q : Nat => s.heap.size ≤ q) [(q0, .inr (5, [.null, .null, .null, .null, .null, .null, .null, .int 0, .int 0, .long 0, .long 0]))] := hD
  refine W.cs (cells' := 1) (slots' := 11) rfl rfl ?_
  refine lv_dup hx hb dL_law_3 rfl ?_
  refine k_call (rest := [.ref q0]) (wr := []) (b := q0) K hP hD hS hA hl.1 [0] [] rfl rfl (by decide) (by decide) (by decide) (kX5_init (l := l) (D := D) (cI := cI) (cJ := cJ) (cL := cL) q0 H.size) (Or.inl (cwI 0 ht (good_C tw_1401) rfl rfl rfl (ht _ tw_60) (ht _ tw_1402) (ht _ tw_1403) rfl (by decide +kernel) ⟨Nat.le_of_ble_eq_true rfl, Nat.le_of_ble_eq_true rfl⟩)) rfl rfl (Nat.le_of_ble_eq_true rfl) dL_law_4 ⟨Nat.le_of_ble_eq_true rfl, Nat.le_of_ble_eq_true rfl⟩ (fun f H locs hf hPn hDn hSn => ?_)
  subst hf
  have hP := hPn
  have hD := hDn
  have hS := hSn
  clear hPn hDn hSn
  have hP : va_P D vwCl (kWX5_init cI cJ cL f) H := hP
  have hD : va_D (fun q : Nat => s.heap.size ≤ q) (kWX5_init cI cJ cL f) := hD
  refine W.cs (cells' := 60) (slots' := 1039) rfl rfl ?_
  refine lv_astore_n (lv' := [(1, .ref (f 0)), (0, .ref b)]) hx hb dL_law_7 rfl hl (by decide) rfl (fun ls hl => ?_)
  refine va_new (ci := 6) (fs := [.null, .int 0, .null, .null, .null, .null, .null, .int 0, .long 0, .long 0, .int 0, .null, .int 0, .int 0, .int 0, .null, .int 0, .int 0, .null, .null, .null, .null, .int 0, .null, .null, .null]) (C := RX6) (T := TX6) (N := 26) hx hb ht inT6 tyX6 tyX6_ok hown (ht _ tw_1404) (ht _ tw_1399) (ht _ tw_618) hK hP hD hS hA rfl (fun j hj => by rcases (show j = 0 ∨ j = 1 ∨ j = 2 ∨ j = 3 ∨ j = 4 ∨ j = 5 ∨ j = 6 ∨ j = 7 ∨ j = 8 ∨ j = 9 ∨ j = 10 ∨ j = 11 ∨ j = 12 ∨ j = 13 ∨ j = 14 ∨ j = 15 ∨ j = 16 ∨ j = 17 ∨ j = 18 ∨ j = 19 ∨ j = 20 ∨ j = 21 ∨ j = 22 ∨ j = 23 ∨ j = 24 ∨ j = 25 by omega) with rfl | rfl | rfl | rfl | rfl | rfl | rfl | rfl | rfl | rfl | rfl | rfl | rfl | rfl | rfl | rfl | rfl | rfl | rfl | rfl | rfl | rfl | rfl | rfl | rfl | rfl <;> rfl) (Nat.le_of_ble_eq_true rfl) (Nat.le_of_ble_eq_true rfl) dL_law_8 (fun q1 H hP hD hS => ?_)
  refine W.cs (cells' := 61) (slots' := 1065) rfl rfl ?_
  refine lv_dup hx hb dL_law_11 rfl ?_
  refine k_call (rest := [.ref q1]) (wr := (kWX5_init cI cJ cL f)) (b := q1) K hP hD hS hA hl.1 [60] [0, 1, 2, 3, 4, 5, 6, 7, 8, 9, 10, 11, 12, 13, 14, 15, 16, 17, 18, 19, 20, 21, 22, 23, 24, 25, 26, 27, 28, 29, 30, 31, 32, 33, 34, 35, 36, 37, 38, 39, 40, 41, 42, 43, 44, 45, 46, 47, 48, 49, 50, 51, 52, 53, 54, 55, 56, 57, 58, 59] rfl rfl (by decide) (by decide) (by decide) (kX6_init (l := l) (D := D) (cI := cI) (cJ := cJ) (cL := cL) q1 H.size) (Or.inl (cwI 0 ht (good_C tw_1405) rfl rfl rfl (ht _ tw_618) (ht _ tw_1406) (ht _ tw_1407) rfl (by decide +kernel) ⟨Nat.le_of_ble_eq_true rfl, Nat.le_of_ble_eq_true rfl⟩)) rfl rfl (Nat.le_of_ble_eq_true rfl) dL_law_12 ⟨Nat.le_of_ble_eq_true rfl, Nat.le_of_ble_eq_true rfl⟩ (fun g H locs hg hPn hDn hSn => ?_)
  subst hg
  have hP := hPn
  have hD := hDn
  have hS := hSn
  clear hPn hDn hSn
  refine W.cs (cells' := 76) (slots' := 5777) rfl rfl ?_
  refine lv_astore_n (lv' := [(2, .ref (g 0)), (1, .ref (f 0)), (0, .ref b)]) hx hb dL_law_15 rfl hl (by decide) rfl (fun ls hl => ?_)
  refine lv_iconst (v := 0) hx hb dL_law_16 (by decide) ?_
  refine lv_istore_n (lv' := [(3, .int 0), (2, .ref (g 0)), (1, .ref (f 0)), (0, .ref b)]) hx hb dL_law_17 rfl hl (by decide) rfl (fun ls hl => ?_)
  obtain ⟨a1, a2, a3, a4, a5⟩ := kW_apart hD
  have hPX : va_P D vwCl (wd (GXo D cI cJ cL f) ZX MX0) H := conv_X (fun k q hk => hP k q (by
    have hlt : k < (kWX5_init cI cJ cL f).length := (List.getElem?_eq_some_iff.mp hk).1
    rw [List.getElem?_append_left hlt]
    exact hk))
  have hPY : va_P D vwCl (wd (GYo D cI cJ cL g) ZY MY0) H := conv_Y (fun k q hk => hP (60 + k) q (by
    have hl : (kWX5_init cI cJ cL f).length = 60 := rfl
    rw [List.getElem?_append_right (by rw [hl]; omega), hl, Nat.add_sub_cancel_left]
    exact hk))
  have E : LEnv (GXo D cI cJ cL f) (GYo D cI cJ cL g) s := ⟨hK, hK, hN, fun i j hi hj e => pX_inj i hi j hj (a1 _ _ (pX_lt i hi) (pX_lt j hj) e), fun i j hi hj e => pY_inj i hi j hj (a2 _ _ (pY_lt i hi) (pY_lt j hj) e), fun i j hi hj => a3 _ _ (pX_lt i hi) (pY_lt j hj), fun i hi => a4 _ (pX_lt i hi), fun j hj => a5 _ (pY_lt j hj)⟩
  exact law_loop C0 E hL (L + 1) 0 0 (Nat.zero_le L) (by omega) nI_0.symm MX0 MY0 H locs ls rel0 ⟨hPX, hPY⟩ hS (lv_sub hl [3, 2, 1, 0] rfl)
-- ===== YOUR PART ENDS =====
set_option maxHeartbeats 4000000 in
theorem lw_walk (l : Launch) (b : Addr) (xs : List Int32) : MetFree l x (headSpec (Jvm.Cond.code x code maxLocals ret :: tables_1) room_1) (lw_P b xs) (fun _ _ _ _ _ => True) lw_Q := by
  refine MetFree.of_bodyS (code := code) (maxLocals := maxLocals) (ret := ret) (by decide) ?_ ?_
  · intro args s m h hn
    obtain ⟨meth, c, h1, h2, h3, h4, h5, h6, -, -⟩ := Cond.code_spec hn (atoms_spec (ws := Jvm.Cond.code x code maxLocals ret :: tables_1) h _ List.mem_cons_self)
    exact ⟨meth, c, h1, h2, h3, h4, h5, h6⟩
  · intro p e s m args below meth c s₁ B hml0 hP _
    obtain ⟨rfl, hx, hbd, hgv⟩ := hP
    obtain ⟨scr, harrAt, hlist, hof, hsmall⟩ := hx
    obtain ⟨hcb, hkn, -, -⟩ := State.arrayAt?_spec harrAt
    have hown : s.vm.findClass R_law = some m.cls := findClass_of_methodNamed B.named
    have hts0 : ∀ c ∈ (Jvm.Cond.code x code maxLocals ret :: tables_1), c.before #[Value.ref b] s = true := atoms_spec (ws := Jvm.Cond.code x code maxLocals ret :: tables_1) B.pre
    have hts : ∀ w ∈ lw_tbl, w.before #[Value.ref b] s = true := k2_hts_sels lw_privs (fun w hw => hts0 w (List.mem_cons_of_mem _ hw)) lw_privs_ok
    have hml : c.maxLocals = 4 := B.maxLocals_eq (hts0 _ List.mem_cons_self)
    have X₀ : Stand p l e room_1 s m #[Value.ref b] below meth c s₁ [] 0 0 := Stand.of_body B
    have hh0 : s₁.heap = s.heap := by rw [B.state]; rfl
    have hsz : scr.slots.size = xs.length := by rw [← Array.length_toList, hlist, List.length_map]
    have hval : ∀ j : Nat, j < xs.length → scr.slots[j]? = some (.int (xs.getD j 0)) := fun j hj => by
      rw [← Array.getElem?_toList, hlist]
      simp [hj]
    have hbl : b < s.heap.size := (Array.getElem?_eq_some_iff.mp hcb).1
    have hX : va_X b xs.length (fun j => xs.getD j 0) s s.heap := ⟨scr, hcb, hof, hkn, hsz, hval⟩
    have K : W p l e room_1 s m #[Value.ref b] below meth c s₁.heap [] 0 0 (lw_Z below #[Value.ref b] s) (entryFrame m ([Value.ref b] : List Value).toArray 4) := by
      rw [hh0]
      exact whole_start l hbd ⟨B.exec, B.bytes, B.returns, hml, hown, hts, hX, hbl, B.notSynchronized, hgv⟩
    obtain ⟨t, a1, o, b1, b2, b3⟩ := K s₁ rfl X₀
    exact ⟨t, o, a1, b1, b2, b3⟩
theorem lw_pre_spec {args : Array Value} {s : State} (h : (Jvm.Cond.and given_1 narrow_1).before args s = true) (hr : rest_1_c.before args s = true) : ∃ (b : Addr) (xs : List Int32), lw_P b xs args s := by
  have hs := flat_of_before _ h
  have hq := flat_of_before _ hr
  have hc : (Cond.count 1).before args s = true := hs _ (by decide +kernel)
  have harr : (Cond.arrayOf (.arg 0) .int).before args s = true := hs _ (by decide +kernel)
  have hle : (Cond.le (.length (.arg 0)) (.int 384)).before args s = true := hs _ (by decide +kernel)
  have hlen : (Cond.isInt (.length (.arg 0))).before args s = true := hq _ (by decide +kernel)
  have hall : (Cond.all (.arg 0) (.isInt (.elem (.arg 0) (.index 0)))).before args s = true := hq _ (by decide +kernel)
  obtain ⟨b, xs, hb, hx⟩ := State.ints_of_pre rfl harr hlen hall
  have hsm : xs.length < 2 ^ 31 := hx.choose_spec.2.2.2
  have hev : (Term.length (.arg 0)).eval args s none [] s = some (.int xs.length.toInt32) := hx.length_eval hb
  have hv := Cond.le_ints hev (show (Term.int 384).eval args s none [] s = some (.int 384) from rfl)
  have hd : xs.length.toInt32 ≤ 384 := by
    simpa [Cond.before, Cond.holds, hv] using hle
  have hN : xs.length ≤ 384 := (Int32.ofNat_le_ofNat hsm (by decide)).mp (show Int32.ofNat xs.length ≤ Int32.ofNat 384 from hd)
  exact ⟨b, xs, Cond.one_arg hc (show args[0]? = some (.ref b) from hb), hx, hN, h⟩
theorem lw_comes (l : Launch) : Comes l x (Jvm.Cond.code x code maxLocals ret :: tables_1) room_1 (fun tb e args s => Calls_1 tb e args s ∧ rest_1 tb e args s ∧ Pre_1 tb e args s)
    (fun _ _ args s o t => lw_Q args s o t) := by
  intro p e ha hc hk s m args below hf hfit hheap happ hpre
  obtain ⟨b, xs, hP⟩ := lw_pre_spec hpre.2.2 hpre.2.1
  obtain ⟨k, o, h1, h2, h3, hQ⟩ := lw_walk l b xs p e ha hc hk s m args below hf ((Spec.applies_iff_loose hf).mp happ).1 hP trivial
  exact ⟨k, o, h1, h2, h3, hQ⟩
theorem lw_frame {s t : State} {o : Outcome} {args : Array Value} (h : Framed s o t [] 600000 7302250) :
    Framed s o t (fieldLocs frame_1_writes args s ++ arrayLocs frame_1_arrays args s ++ staticLocs frame_1_statics s) 600000 7302250 := h
theorem lw_limb (L : Cond) (hL : ∀ (args : Array Value) (s t : State), L.after args s (.returned (some (.int 1))) t = true) :
    ArmFor flags0 classFile x code maxLocals ret World_1 tables_1 room_1 Calls_1 rest_1 Pre_1
      (fun tb e a s o t => postC L tb e a s o t ∧ Framed s o t (fieldLocs frame_1_writes a s ++ arrayLocs frame_1_arrays a s ++ staticLocs frame_1_statics s) 600000 7302250) := by
  intro l _ _ _ p e ha hc hk s m args below hf hfit hheap happ hpre
  obtain ⟨k, o, h1, h2, h3, rfl, hF⟩ := lw_comes l p e ha hc hk s m args below hf hfit hheap happ hpre
  exact ⟨k, _, h1, h2, h3, hL args s _, lw_frame hF⟩
theorem i_vc : Claimed_1_1 ∧ Claimed_1_2 := ⟨lw_limb limb_1_1 (fun args s t => by simp [limb_1_1, Cond.after, Cond.holds, Cond.value]), lw_limb limb_1_2 (fun args s t => Cond.after_iff.mpr (by
  first | (rw [show limb_1_2 = Cond.eq .result (.int 1) from rfl, Cond.eq_ints (x := 1) (y := 1) rfl rfl]; simp; done) | (simp [limb_1_2, Cond.value, Term.eval]; done)))⟩

