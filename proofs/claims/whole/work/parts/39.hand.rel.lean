/-! what ties the developers' object to the reference: one mathematical state -/
/-- a lane: by field (0 kind, 1 shillings, 2 stock, 3 holder (0 none, h + 1), 4 loan, 5 weeks) and shop -/
abbrev LV : Type := Nat → Nat → Nat
def hv : Nat → Int32
  | 0 => -9
  | h + 1 => nI h
def XRep (b : Nat) (M : SX) (n : Nat) (σ : LV) : Prop := M.1 b 0 = nI n ∧ ∀ s, s < n → M.1 (b + 1) s = nI (σ 0 s) ∧ M.1 (b + 2) s = nI (σ 1 s) ∧ M.1 (b + 3) s = nI (σ 2 s) ∧ M.1 (b + 4) s = hv (σ 3 s) ∧ M.1 (b + 5) s = nI (σ 4 s) ∧ M.1 (b + 6) s = nI (σ 5 s)
def YRep (o : Nat) (M : SX) (n : Nat) (σ : LV) : Prop := ∀ s, s < n → M.1 2 s = nI (σ 0 s) ∧ M.1 1 (o + 1 + s) = nI (σ 1 s) ∧ M.1 1 (o + 25 + s) = nI (σ 2 s) ∧ M.1 1 (o + 7 + s) = hv (σ 3 s) ∧ M.1 1 (o + 13 + s) = nI (σ 4 s) ∧ M.1 1 (o + 19 + s) = nI (σ 5 s)
def YSnap (o i : Nat) (M : SX) (n : Nat) (σ : LV) : Prop := ∀ s, s < n → M.1 1 (o + 31 + 24 * i + s) = nI (σ 1 s) ∧ M.1 1 (o + 31 + 24 * i + (6 + s)) = hv (σ 3 s) ∧ M.1 1 (o + 31 + 24 * i + (12 + s)) = nI (σ 4 s) ∧ M.1 1 (o + 31 + 24 * i + (18 + s)) = nI (σ 5 s)
/-- all shillings of the first n -/
def tot (n : Nat) (f : Nat → Nat) : Nat := match n with
  | 0 => 0
  | n + 1 => tot n f + f n
def Valid (n d : Nat) (σ : LV) : Prop := tot n (σ 1) ≤ 54 + 99 * d ∧ ∀ s, s < n → σ 0 s ≤ 5 ∧ σ 2 s ≤ 9 ∧ σ 3 s ≤ n ∧ σ 3 s ≠ s + 1 ∧ σ 4 s ≤ 9 ∧ σ 5 s ≤ d ∧ (σ 3 s = 0 → σ 4 s = 0 ∧ σ 5 s = 0) ∧ (0 < σ 3 s → 1 ≤ σ 4 s)
/-- what is due of a ticket with a holder of that kind -/
def dueK (kind loan weeks : Nat) : Nat := match kind with
  | 1 => loan
  | 2 => loan + 2 * weeks
  | 3 => loan + weeks / 2
  | 4 => if weeks < loan then loan - weeks else 1
  | 5 => loan + 3 * weeks
  | _ => loan + weeks
def due (σ : LV) (s later : Nat) : Nat := match σ 3 s with
  | 0 => 0
  | h + 1 => dueK (σ 0 h) (σ 4 s) (σ 5 s + later)
def setF (σ : LV) (f s v : Nat) : LV := fun g t => if g = f ∧ t = s then v else σ g t
/-- a ticket goes -/
def noTk (σ : LV) (s : Nat) : LV := setF (setF (setF σ 3 s 0) 4 s 0) 5 s 0
/-- it pays what is due, and is in pawn no more -/
def redeemed (σ : LV) (s h : Nat) : LV := noTk (setF (setF σ 1 s (σ 1 s - due σ s 0)) 1 h (setF σ 1 s (σ 1 s - due σ s 0) 1 h + due σ s 0)) s
def pawned (σ : LV) (s h loan : Nat) : LV := setF (setF (setF (setF (setF σ 1 h (σ 1 h - loan)) 1 s (setF σ 1 h (σ 1 h - loan) 1 s + loan)) 3 s (h + 1)) 4 s loan) 5 s 0
def aged (σ : LV) : LV := fun g t => if g = 5 ∧ 0 < σ 3 t then σ 5 t + 1 else σ g t
def given (σ : LV) (s v : Nat) : LV := setF σ 1 s (σ 1 s + v)
/-- a deed, packed, from σ to σ' -/
def Deed (n : Nat) (code : Int32) (σ σ' : LV) : Prop :=
  (∃ s h, s < n ∧ h < n ∧ σ 3 s = h + 1 ∧ due σ s 0 ≤ σ 1 s ∧ code = nI (0 + 4 * s + 32 * h + 256 * σ 4 s + 32768 * σ 5 s) ∧ (∀ g t, t < n → σ' g t = redeemed σ s h g t)) ∨
  (∃ s h k, s < n ∧ h < n ∧ s ≠ h ∧ 1 ≤ k ∧ k ≤ 9 ∧ σ 3 s = 0 ∧ k ≤ σ 1 h ∧ code = nI (1 + 4 * s + 32 * h + 256 * k) ∧ (∀ g t, t < n → σ' g t = pawned σ s h k g t)) ∨
  (code = nI 2 ∧ (∀ g t, t < n → σ' g t = aged σ g t)) ∨
  (∃ s v, s < n ∧ v ≤ 99 ∧ code = nI (3 + 4 * s + 256 * v) ∧ (∀ g t, t < n → σ' g t = given σ s v g t))
/-- the lane at b of the object, and at o of the reference's row: n shops, d deeds, what it was at each -/
def LaneAt (b o : Nat) (MX MY : SX) (n d : Nat) (st : Nat → LV) : Prop :=
  d ≤ 40 ∧ XRep b MX n (st d) ∧ MX.1 (b + 7) 1 = nI d ∧ YRep o MY n (st d) ∧ MY.1 1 o = nI d ∧
  (∀ i, i < d → YSnap o i MY n (st i) ∧ Deed n (MX.1 (b + 8) i) (st i) (st (i + 1))) ∧ (∀ i, i ≤ d → Valid n i (st i))
def RowRel (MX MY : SX) : Prop := MX.1 1 0 = 40 ∧ ∀ r, r < 6 → MX.1 2 r = MY.1 3 r ∧ (MX.1 2 r = -1 ∨ ∃ n, n ≤ 40 ∧ MX.1 2 r = nI n ∧ ∀ i, i < n → MX.1 3 (40 * r + i) = MY.1 4 (40 * r + i))
def TxtRel (MX MY : SX) : Prop := MX.1 4 0 = 60 ∧ ∀ t, t < 4 → MX.1 5 t = MY.1 5 t ∧ (MX.1 5 t = -1 ∨ ∃ n, n ≤ 60 ∧ MX.1 5 t = nI n ∧ ∀ i, i < n → MX.1 6 (60 * t + i) = MY.1 6 (60 * t + i) ∧ (MX.1 6 (60 * t + i)).toInt8.toInt32 = MX.1 6 (60 * t + i))
def TellRel (MX MY : SX) : Prop := MX.1 0 8 = MY.1 0 7 ∧ MX.1 0 7 = MY.1 0 10 ∧ MX.2 0 9 = MY.2 0 8 ∧ MX.2 0 10 = MY.2 0 9 ∧ ∀ f, f < 6 → MX.1 59 f = MY.1 7 f
def LaneRel (MX MY : SX) : Prop := ∃ n, (n = 0 ∨ (2 ≤ n ∧ n ≤ 6)) ∧ MY.1 0 1 = nI n ∧ (∃ d st, (n = 0 → d = 0) ∧ LaneAt 17 0 MX MY n d st) ∧
  ∀ k, k < 3 → (MX.1 (27 + 9 * k) 0 = 0 ∧ MY.1 1 (991 * (1 + k)) = -1) ∨ (0 < n ∧ ∃ d st, LaneAt (27 + 9 * k) (991 * (1 + k)) MX MY n d st)
def Rel (MX MY : SX) : Prop := RowRel MX MY ∧ TxtRel MX MY ∧ TellRel MX MY ∧ LaneRel MX MY
/-- both answer, alike, and what holds between them holds behind it -/
def Ag (x y : Option (Int32 × SX)) : Prop := ∃ r MX MY, x = some (r, MX) ∧ y = some (r, MY) ∧ Rel MX MY
def AgL (x y : Option (Int64 × SX)) : Prop := ∃ r MX MY, x = some (r, MX) ∧ y = some (r, MY) ∧ Rel MX MY
