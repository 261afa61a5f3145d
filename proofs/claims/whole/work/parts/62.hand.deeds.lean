/-! one place of a lane anew -/
def enc (f x : Nat) : Int32 := if f = 3 then hv x else nI x
theorem enc_n {f x : Nat} (h : f ≠ 3) : enc f x = nI x := if_neg h
theorem enc_3 {x : Nat} : enc 3 x = hv x := if_pos rfl
theorem setF_s (σ : LV) (f s v : Nat) : setF σ f s v f s = v := if_pos ⟨rfl, rfl⟩
theorem setF_n (σ : LV) {f s v g t : Nat} (h : ¬ (g = f ∧ t = s)) : setF σ f s v g t = σ g t := if_neg h
theorem XRep_i {b : Nat} {M : SX} {n : Nat} {σ : LV} : XRep b M n σ ↔ M.1 b 0 = nI n ∧ ∀ f, f ≤ 5 → ∀ s, s < n → M.1 (b + 1 + f) s = enc f (σ f s) := by
  constructor
  · rintro ⟨h0, h⟩
    refine ⟨h0, fun f hf s hs => ?_⟩
    have hx := h s hs
    rcases six6 hf with rfl | rfl | rfl | rfl | rfl | rfl
    · exact hx.1
    · exact hx.2.1
    · exact hx.2.2.1
    · exact hx.2.2.2.1
    · exact hx.2.2.2.2.1
    · exact hx.2.2.2.2.2
  · rintro ⟨h0, h⟩
    exact ⟨h0, fun s hs => ⟨h 0 (by omega) s hs, h 1 (by omega) s hs, h 2 (by omega) s hs, h 3 (by omega) s hs, h 4 (by omega) s hs, h 5 (by omega) s hs⟩⟩
theorem XRep.set {b : Nat} {M : SX} {n : Nat} {σ : LV} (h : XRep b M n σ) {f s v : Nat} {x : Int32} (c : Nat) (hc : c = b + 1 + f) (hf : f ≤ 5) (hx : x = enc f v) : XRep b (wI M c s x) n (setF σ f s v) := by
  subst hc hx
  rw [XRep_i] at *
  refine ⟨by rw [wI_nk (by omega)]; exact h.1, fun g hg t ht => ?_⟩
  by_cases e : g = f
  · subst e
    rw [wI_k]
    by_cases e2 : t = s
    · subst e2; rw [if_pos rfl, setF_s]
    · rw [if_neg e2, setF_n σ (fun z => e2 z.2)]; exact h.2 g hg t ht
  · rw [wI_nk (by omega), setF_n σ (fun z => e z.1)]; exact h.2 g hg t ht
theorem XRep.congr {b : Nat} {M : SX} {n : Nat} {σ σ' : LV} (h : XRep b M n σ) (e : ∀ g t, t < n → σ' g t = σ g t) : XRep b M n σ' := by
  rw [XRep_i] at *
  exact ⟨h.1, fun f hf s hs => by rw [e f s hs]; exact h.2 f hf s hs⟩
def off (f : Nat) : Nat := match f with
  | 1 => 1
  | 2 => 25
  | 3 => 7
  | 4 => 13
  | _ => 19
theorem YRep_i {o : Nat} {M : SX} {n : Nat} {σ : LV} : YRep o M n σ ↔ (∀ s, s < n → M.1 2 s = nI (σ 0 s)) ∧ ∀ f, 1 ≤ f → f ≤ 5 → ∀ s, s < n → M.1 1 (o + off f + s) = enc f (σ f s) := by
  constructor
  · intro h
    refine ⟨fun s hs => (h s hs).1, fun f h1 hf s hs => ?_⟩
    have hx := h s hs
    rcases five15 h1 hf with rfl | rfl | rfl | rfl | rfl
    · exact hx.2.1
    · exact hx.2.2.1
    · exact hx.2.2.2.1
    · exact hx.2.2.2.2.1
    · exact hx.2.2.2.2.2
  · rintro ⟨h0, h⟩ s hs
    exact ⟨h0 s hs, h 1 (by omega) (by omega) s hs, h 2 (by omega) (by omega) s hs, h 3 (by omega) (by omega) s hs, h 4 (by omega) (by omega) s hs, h 5 (by omega) (by omega) s hs⟩
theorem off_ne {f g s t : Nat} (h1 : 1 ≤ f) (h2 : f ≤ 5) (h3 : 1 ≤ g) (h4 : g ≤ 5) (hs : s < 6) (ht : t < 6) (h : off f + s = off g + t) : f = g ∧ s = t := by
  rcases five15 h1 h2 with rfl | rfl | rfl | rfl | rfl <;> rcases five15 h3 h4 with rfl | rfl | rfl | rfl | rfl <;> simp only [off] at h <;> omega
theorem YRep.set {M : SX} {n : Nat} {σ : LV} (h : YRep 0 M n σ) (hn : n ≤ 6) {f s v : Nat} {x : Int32} (c : Nat) (hc : c = off f + s) (h1 : 1 ≤ f) (hf : f ≤ 5) (hs : s < n) (hx : x = enc f v) : YRep 0 (wI M 1 c x) n (setF σ f s v) := by
  subst hc hx
  rw [YRep_i] at *
  refine ⟨fun t ht => by rw [wI_nk (by decide), setF_n σ (fun z => by omega)]; exact h.1 t ht, fun g h1g hg t ht => ?_⟩
  have hh := h.2 g h1g hg t ht
  rw [Nat.zero_add] at hh ⊢
  rw [wI_k]
  by_cases e : g = f ∧ t = s
  · rw [e.1, e.2, if_pos rfl, setF_s]
  · rw [if_neg (fun z => e (off_ne h1g hg h1 hf (by omega) (by omega) z)), setF_n σ e]
    exact hh
theorem YRep.congr {o : Nat} {M : SX} {n : Nat} {σ σ' : LV} (h : YRep o M n σ) (e : ∀ g t, t < n → σ' g t = σ g t) : YRep o M n σ' := by
  rw [YRep_i] at *
  exact ⟨fun s hs => by rw [e 0 s hs]; exact h.1 s hs, fun f h1 hf s hs => by rw [e f s hs]; exact h.2 f h1 hf s hs⟩
/-! a deed, packed -/
theorem pack_or {a k : Nat} (b : Nat) (h : a < 2 ^ k) : nI a ||| nI (b * 2 ^ k) = nI (a + 2 ^ k * b) := by
  rw [or_nI, Nat.or_comm, Nat.mul_comm, ← Nat.two_pow_add_eq_or_of_lt h, Nat.add_comm]
theorem packI {a1 a2 a3 a4 a5 : Nat} (h1 : a1 < 4) (h2 : a2 < 8) (h3 : a3 < 8) (h4 : a4 < 128) (h5 : a5 < 128) : ((((nI a1 ||| (nI a2 <<< ((2 : Int32) &&& 31))) ||| (nI a3 <<< ((5 : Int32) &&& 31))) ||| (nI a4 <<< ((8 : Int32) &&& 31))) ||| (nI a5 <<< ((15 : Int32) &&& 31))) = nI (a1 + 4 * a2 + 32 * a3 + 256 * a4 + 32768 * a5) := by
  rw [pk_shlN ((2 : Int32) &&& 31) 2 (by decide) (by omega), pk_shlN ((5 : Int32) &&& 31) 5 (by decide) (by omega), pk_shlN ((8 : Int32) &&& 31) 8 (by decide) (by omega), pk_shlN ((15 : Int32) &&& 31) 15 (by decide) (by omega), pack_or (k := 2) a2 (by omega), pack_or (k := 5) a3 (by omega), pack_or (k := 8) a4 (by omega), pack_or (k := 15) a5 (by omega)]
theorem hasRoom_X {b d k : Nat} {M : SX} (h : M.1 b 1 = nI d) (hd : d ≤ 40) (hk : k ≤ 1000) : p0_hasRoom b (nI k) M = some (if d + k ≤ 40 then 1 else 0, M) := by
  rw [p0_hasRoom, h, nI_add]
  by_cases c : d + k ≤ 40
  · rw [if_neg (show ¬ (40 : Int32) < nI (d + k) from nI_nlt (a := 40) c (by decide)), if_pos c]
  · rw [if_pos (show (40 : Int32) < nI (d + k) from nI_lt (a := 40) (by omega) (by omega)), if_neg c]
theorem add_X {b d a1 a2 a3 a4 a5 : Nat} {M : SX} (h : M.1 b 1 = nI d) (hd : d < 40) (h1 : a1 < 4) (h2 : a2 < 8) (h3 : a3 < 8) (h4 : a4 < 128) (h5 : a5 < 128) : p0_add b (nI a1) (nI a2) (nI a3) (nI a4) (nI a5) M = some (wI (wI M (b + 1) d (nI (a1 + 4 * a2 + 32 * a3 + 256 * a4 + 32768 * a5))) b 1 (nI (d + 1))) := by
  rw [p0_add, show p0_hasRoom b 1 M = _ from hasRoom_X (k := 1) h (by omega) (by omega), bd_s, if_pos (by omega : d + 1 ≤ 40), if_neg i10, h, gd_of (bIn_nI hd (by decide)), lt_v, lt_v, nI_clamp (by omega), packI h1 h2 h3 h4 h5, wI_nk (by omega), h, nI_1]
/-! the reference keeps the past -/
def kpY (M : SX) (d : Nat) : SX := wI (wR M 1 (fun j => if 31 + 24 * d ≤ j ∧ j < 31 + 24 * d + 24 then M.1 1 (1 + (j - (31 + 24 * d))) else M.1 1 j)) 1 0 (nI (d + 1))
theorem kpY_lo {M : SX} {d j : Nat} (h : 1 ≤ j) (h2 : j < 31) : (kpY M d).1 1 j = M.1 1 j := by
  unfold kpY
  rw [wI_k, if_neg (by omega), wR_self, if_neg (by omega)]
theorem kpY_sn {M : SX} {d v : Nat} (h : v < 24) : (kpY M d).1 1 (31 + 24 * d + v) = M.1 1 (1 + v) := by
  unfold kpY
  rw [wI_k, if_neg (by omega), wR_self, if_pos (by omega), show 31 + 24 * d + v - (31 + 24 * d) = v by omega]
theorem kpY_hi {M : SX} {d j : Nat} (h : 31 ≤ j) (h2 : j < 31 + 24 * d ∨ 31 + 24 * d + 24 ≤ j) : (kpY M d).1 1 j = M.1 1 j := by
  unfold kpY
  rw [wI_k, if_neg (by omega), wR_self, if_neg (by omega)]
theorem kpY_0 {M : SX} {d : Nat} : (kpY M d).1 1 0 = nI (d + 1) := by
  unfold kpY
  rw [wI_k, if_pos rfl]
theorem kpY_nk {M : SX} {d k : Nat} (h : k ≠ 1) : (kpY M d).1 k = M.1 k := by
  unfold kpY
  rw [wI_nk h, wR_nk h]
theorem keepPast_Y {M : SX} {d : Nat} (h : M.1 1 0 = nI d) (hd : d < 40) : p6_keepPast M = some (kpY M d) := by
  rw [p6_keepPast]
  have z : xlp1 p6_keepPast_2 FU (nI 0) (wR M 1 (fun j => if 31 + 24 * d ≤ j ∧ j < 31 + 24 * d + 0 then M.1 1 (1 + (j - (31 + 24 * d))) else M.1 1 j)) = some (kpY M d) := ?_
  · have e : (fun j => if 31 + 24 * d ≤ j ∧ j < 31 + 24 * d + 0 then M.1 1 (1 + (j - (31 + 24 * d))) else M.1 1 j) = M.1 1 := by
      funext j
      rw [if_neg (by omega)]
    rw [e, wR_same] at z
    exact z
  refine lp1_go (fun v => nI v) (fun v => wR M 1 (fun j => if 31 + 24 * d ≤ j ∧ j < 31 + 24 * d + v then M.1 1 (1 + (j - (31 + 24 * d))) else M.1 1 j)) 24 (by omega) _ (fun v hv0 rc => ?_) (fun rc => ?_)
  · have e00 : (wR M 1 (fun j => if 31 + 24 * d ≤ j ∧ j < 31 + 24 * d + v then M.1 1 (1 + (j - (31 + 24 * d))) else M.1 1 j)).1 1 0 = nI d := by
      rw [wR_self, if_neg (by omega)]
      exact h
    have e01 : (wR M 1 (fun j => if 31 + 24 * d ≤ j ∧ j < 31 + 24 * d + v then M.1 1 (1 + (j - (31 + 24 * d))) else M.1 1 j)).1 1 (1 + v) = M.1 1 (1 + v) := by rw [wR_self, if_neg (by omega)]
    rw [p6_keepPast_2, if_neg (show ¬ (24 : Int32) ≤ nI v from nI_ge (b := 24) hv0 (by omega)), gd_of (by decide), show (0 : Int32).toNatClampNeg = 0 from rfl, e00, show (1 : Int32) + nI v = nI (1 + v) from nI_add 1 v, gd_of (bIn_nI (by omega) (by decide)), show (24 : Int32) * nI d = nI (24 * d) from pk_mul 24 d, show (31 : Int32) + nI (24 * d) = nI (31 + 24 * d) from nI_add 31 _, nI_add, gd_of (bIn_nI (by omega) (by decide)), lt_v, lt_v, nI_clamp (by omega), nI_clamp (by omega), e01, nI_1, wR_wI]
    refine congrArg (fun f => rc (nI (v + 1)) (wR M 1 f)) ?_
    funext j
    show (if j = 31 + 24 * d + v then M.1 1 (1 + v) else if 31 + 24 * d ≤ j ∧ j < 31 + 24 * d + v then M.1 1 (1 + (j - (31 + 24 * d))) else M.1 1 j) = _
    by_cases c : j = 31 + 24 * d + v
    · rw [if_pos c, if_pos (by omega), show j - (31 + 24 * d) = v by omega]
    · rw [if_neg c]
      by_cases c2 : 31 + 24 * d ≤ j ∧ j < 31 + 24 * d + v
      · rw [if_pos c2, if_pos (by omega)]
      · rw [if_neg c2, if_neg (by omega)]
  · have e00 : (wR M 1 (fun j => if 31 + 24 * d ≤ j ∧ j < 31 + 24 * d + 24 then M.1 1 (1 + (j - (31 + 24 * d))) else M.1 1 j)).1 1 0 = nI d := by
      rw [wR_self, if_neg (by omega)]
      exact h
    rw [p6_keepPast_2, if_pos (by decide), gd_of (by decide), lt_v, show (0 : Int32).toNatClampNeg = 0 from rfl, e00, nI_1]
    rfl
/-- behind the keeping: the lane as it was -/
theorem kpY_rep {M : SX} {n d : Nat} {σ : LV} (hn : n ≤ 6) (h : YRep 0 M n σ) : YRep 0 (kpY M d) n σ := by
  rw [YRep_i] at *
  refine ⟨fun s hs => by rw [kpY_nk (by decide)]; exact h.1 s hs, fun f h1 hf s hs => ?_⟩
  have e := h.2 f h1 hf s hs
  have hb : 1 ≤ 0 + off f + s ∧ 0 + off f + s < 31 := by
    rcases five15 h1 hf with rfl | rfl | rfl | rfl | rfl <;> simp only [off] <;> omega
  rw [kpY_lo hb.1 hb.2]
  exact e
theorem kpY_snap {M : SX} {n d : Nat} {σ : LV} (hn : n ≤ 6) (h : YRep 0 M n σ) : YSnap 0 d (kpY M d) n σ := by
  intro s hs
  have hy := h s hs
  simp only [Nat.zero_add] at hy ⊢
  rw [kpY_sn (by omega), kpY_sn (by omega), kpY_sn (by omega), kpY_sn (by omega)]
  refine ⟨hy.2.1, ?_, ?_, ?_⟩
  · rw [show 1 + (6 + s) = 7 + s by omega]; exact hy.2.2.2.1
  · rw [show 1 + (12 + s) = 13 + s by omega]; exact hy.2.2.2.2.1
  · rw [show 1 + (18 + s) = 19 + s by omega]; exact hy.2.2.2.2.2
/-! lanes elsewhere stay -/
theorem LaneAt.to2 {b o : Nat} {MX MY MX' MY' : SX} {n d : Nat} {st : Nat → LV} (h : LaneAt b o MX MY n d st) (hn : n ≤ 6) (hk : ∀ k, b ≤ k → k < b + 9 → MX'.1 k = MX.1 k) (h1 : ∀ j, o ≤ j → j < o + 991 → MY'.1 1 j = MY.1 1 j) (h2 : MY'.1 2 = MY.1 2) : LaneAt b o MX' MY' n d st := by
  obtain ⟨g1, g2, g3, g4, g5, g6, g7⟩ := h
  refine ⟨g1, g2.to hk, ?_, ?_, ?_, ?_, g7⟩
  · rw [hk (b + 7) (by omega) (by omega)]; exact g3
  · intro s hs
    have e := g4 s hs
    rw [h2, h1 (o + 1 + s) (by omega) (by omega), h1 (o + 25 + s) (by omega) (by omega), h1 (o + 7 + s) (by omega) (by omega), h1 (o + 13 + s) (by omega) (by omega), h1 (o + 19 + s) (by omega) (by omega)]
    exact e
  · rw [h1 o (by omega) (by omega)]; exact g5
  · intro i hi
    rw [hk (b + 8) (by omega) (by omega)]
    refine ⟨fun s hs => ?_, (g6 i hi).2⟩
    have e := (g6 i hi).1 s hs
    rw [h1 (o + 31 + 24 * i + s) (by omega) (by omega), h1 (o + 31 + 24 * i + (6 + s)) (by omega) (by omega), h1 (o + 31 + 24 * i + (12 + s)) (by omega) (by omega), h1 (o + 31 + 24 * i + (18 + s)) (by omega) (by omega)]
    exact e
/-- all of the relation but the lane at hand -/
theorem rel_lane {MX MY MX' MY' : SX} (hR : Rel MX MY) {n : Nat} (hn : MY.1 0 1 = nI n) (hn6 : n ≤ 6) (hx : ∀ k, (k < 17 ∨ 26 ≤ k) → MX'.1 k = MX.1 k) (hx2 : MX'.2 = MX.2) (hy : ∀ k, k ≠ 1 → MY'.1 k = MY.1 k) (hy2 : MY'.2 = MY.2) (hy1 : ∀ j, 991 ≤ j → MY'.1 1 j = MY.1 1 j) (hl : ∃ d st, (n = 0 → d = 0) ∧ LaneAt 17 0 MX' MY' n d st) : Rel MX' MY' := by
  obtain ⟨hr, ht, hl0, m, hm, h0, _, hkp⟩ := hR
  have hmn : m = n := (nI_eq (by omega) (by omega)).mp (h0.symm.trans hn)
  subst hmn
  refine ⟨hr.to (hx 1 (by omega)) (hx 2 (by omega)) (hx 3 (by omega)) (hy 3 (by omega)) (hy 4 (by omega)), ht.to (hx 4 (by omega)) (hx 5 (by omega)) (hx 6 (by omega)) (hy 5 (by omega)) (hy 6 (by omega)), hl0.to (by rw [hx 0 (by omega)]) (by rw [hx 0 (by omega)]) (by rw [hx2]) (hx 59 (by omega)) (by rw [hy 0 (by omega)]) (by rw [hy 0 (by omega)]) (by rw [hy2]) (hy 7 (by omega)), m, hm, by rw [hy 0 (by omega)]; exact h0, hl, fun k hk => ?_⟩
  rcases hkp k hk with ⟨a, b⟩ | ⟨a, d, st, hl⟩
  · exact Or.inl ⟨by rw [hx _ (by omega)]; exact a, by rw [hy1 _ (by omega)]; exact b⟩
  · exact Or.inr ⟨a, d, st, hl.to2 (by omega) (fun j h1 h2 => hx j (by omega)) (fun j h1 h2 => hy1 j (by omega)) (hy 2 (by omega))⟩
/-- the lane at hand, with its past -/
theorem rel_main {MX MY : SX} (hR : Rel MX MY) : ∃ n d st, n ≤ 6 ∧ (n = 0 → d = 0) ∧ LaneAt 17 0 MX MY n d st ∧ Here MX MY n d (st d) := by
  obtain ⟨_, _, _, n, hn, h0, ⟨d, st, hz, hl⟩, _⟩ := hR
  have hl' := hl
  obtain ⟨g1, g2, g3, g4, g5, g6, g7⟩ := hl
  exact ⟨n, d, st, by omega, hz, hl', by omega, g1, h0, g2, g4, g7 d (Nat.le_refl d), g3, g5⟩
/-- one deed more -/
theorem rel_deed {MX MY MX' MY' : SX} (hR : Rel MX MY) {n d : Nat} {st : Nat → LV} (hL : LaneAt 17 0 MX MY n d st) (h0 : MY.1 0 1 = nI n) (hn : n ≤ 6) (hn0 : 0 < n) (hd : d < 40) {σ' : LV} (hx : ∀ k, (k < 17 ∨ 26 ≤ k) → MX'.1 k = MX.1 k) (hx2 : MX'.2 = MX.2) (hX : XRep 17 MX' n σ') (hx7 : MX'.1 (17 + 7) 1 = nI (d + 1)) (hx8 : ∀ i, i < d → MX'.1 (17 + 8) i = MX.1 (17 + 8) i) (hD : Deed n (MX'.1 (17 + 8) d) (st d) σ') (hy : ∀ k, k ≠ 1 → MY'.1 k = MY.1 k) (hy2 : MY'.2 = MY.2) (hy1 : ∀ j, 31 ≤ j → (j < 31 + 24 * d ∨ 31 + 24 * d + 24 ≤ j) → MY'.1 1 j = MY.1 1 j) (hsn : YSnap 0 d MY' n (st d)) (hY : YRep 0 MY' n σ') (hy0 : MY'.1 1 0 = nI (d + 1)) (hV : Valid n (d + 1) σ') : Rel MX' MY' := by
  obtain ⟨g1, g2, g3, g4, g5, g6, g7⟩ := hL
  have e1 : ∀ i, i ≤ d → (fun i => if i ≤ d then st i else σ') i = st i := fun i hi => if_pos hi
  have e2 : (fun i => if i ≤ d then st i else σ') (d + 1) = σ' := if_neg (by omega)
  refine rel_lane hR h0 hn hx hx2 hy hy2 (fun j hj => hy1 j (by omega) (by omega)) ⟨d + 1, fun i => if i ≤ d then st i else σ', fun z => by omega, by omega, ?_, hx7, ?_, hy0, ?_, ?_⟩
  · rw [e2]; exact hX
  · rw [e2]; exact hY
  · intro i hi
    rw [e1 i (by omega)]
    by_cases c : i = d
    · subst c
      rw [e2]
      exact ⟨hsn, hD⟩
    · rw [e1 (i + 1) (by omega), hx8 i (by omega)]
      refine ⟨fun s hs => ?_, (g6 i (by omega)).2⟩
      have e := (g6 i (by omega)).1 s hs
      rw [hy1 (0 + 31 + 24 * i + s) (by omega) (by omega), hy1 (0 + 31 + 24 * i + (6 + s)) (by omega) (by omega), hy1 (0 + 31 + 24 * i + (12 + s)) (by omega) (by omega), hy1 (0 + 31 + 24 * i + (18 + s)) (by omega) (by omega)]
      exact e
  · intro i hi
    by_cases c : i = d + 1
    · subst c
      rw [e2]
      exact hV
    · rw [e1 i (by omega)]
      exact g7 i (by omega)
