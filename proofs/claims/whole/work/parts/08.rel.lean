/-! the two states over the bundle -/
abbrev rd_tX (A : rd_St) (rl : Int32) (ra qa ql : Nat → Int32) : SX := (rl, (A 25 0), (A 26 0), (A 27 0), (A 28 0), (A 29 0), (A 30 0), (A 31 0), (A 0), (A 1), (A 2), (A 3), (A 4), (A 5), (A 6), (A 7), (A 8), (A 9), (A 10), (A 11), (A 12), (A 13), (A 14), (A 15), (A 16), (A 17), (A 18), (A 19), (A 20), qa, ql, ra, (A 21), (A 22), (A 32), (A 23))
abbrev rd_tY (A : rd_St) (rl : Int32) (ra qa wq am rz ob fr st : Nat → Int32) (bl : Int32) : SY := ((A 26 0), bl, rl, (A 27 0), (A 28 0), (A 29 0), (A 25 0), (A 3), (A 0), (A 1), (A 2), st, (A 5), (A 6), (A 11), (A 8), (A 7), rz, (A 16), (A 18), (A 19), fr, (A 9), ob, (A 13), qa, wq, ra, (A 33), am, (A 21), (A 22))
def rd_XL (w : List Nat) (Q : Nat → List Nat) (ra qa ql : Nat → Int32) : Prop := rd_LV ra 0 w ∧ ∀ q, q < 24 → ql q = nI (Q q).length ∧ rd_LV qa (8 * q) (Q q)
def rd_RX (A : rd_St) (w : List Nat) (Q : Nat → List Nat) (u : SX) : Prop := ∃ ra qa ql, u = rd_tX A (nI w.length) ra qa ql ∧ rd_XL w Q ra qa ql
def rd_RY (ex n D : Nat) (A : rd_St) (w : List Nat) (Q : Nat → List Nat) (v : SY) : Prop := ∃ ra qa wq am rz ob fr st bl, v = rd_tY A (nI w.length) ra qa wq am rz ob fr st bl ∧ rd_YL ex n D A w Q ra qa wq am rz ob fr st bl
theorem rd_RX_mk {A : rd_St} {w : List Nat} {Q : Nat → List Nat} {ra qa ql : Nat → Int32} (h : rd_XL w Q ra qa ql) : rd_RX A w Q (rd_tX A (nI w.length) ra qa ql) := ⟨ra, qa, ql, rfl, h⟩
theorem rd_RY_mk {ex n D : Nat} {A : rd_St} {w : List Nat} {Q : Nat → List Nat} {ra qa wq am rz ob fr st : Nat → Int32} {bl : Int32} (h : rd_YL ex n D A w Q ra qa wq am rz ob fr st bl) : rd_RY ex n D A w Q (rd_tY A (nI w.length) ra qa wq am rz ob fr st bl) := ⟨ra, qa, wq, am, rz, ob, fr, st, bl, rfl, h⟩
theorem rd_XL_put {w : List Nat} {Q : Nat → List Nat} {ra qa ql : Nat → Int32} {t : Nat} (h : rd_XL w Q ra qa ql) : rd_XL (w ++ [t]) Q (upd ra w.length (nI t)) qa ql :=
  ⟨by have := rd_LV_put (x := t) h.1; rw [Nat.zero_add] at this; exact this, h.2⟩
theorem rd_len1 (w : List Nat) (t : Nat) : nI (w ++ [t]).length = nI w.length + 1 := by
  rw [nI_1, List.length_append]; rfl
theorem rd_LV_pre {a : Nat → Int32} : ∀ {l m : List Nat} {o : Nat}, rd_LV a o (l ++ m) → rd_LV a o l
  | [], _, _, _ => trivial
  | x :: l, m, o, h => ⟨h.1, rd_LV_pre h.2⟩
