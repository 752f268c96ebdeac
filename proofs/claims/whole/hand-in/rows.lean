section
/-! the bundle of arrays, lists laid in arrays, weights -/
abbrev rd_St : Type := Nat → Nat → Int32
def rd_sa (A : rd_St) (k : Nat) (f : Nat → Int32) : rd_St := fun j => cond (Nat.beq j k) f (A j)
def rd_sw (A : rd_St) (k i : Nat) (v : Int32) : rd_St := rd_sa A k (upd (A k) i v)
theorem rd_sa_ap (A : rd_St) (k : Nat) (f : Nat → Int32) (j : Nat) : rd_sa A k f j = if j = k then f else A j := by
  unfold rd_sa
  cases hb : Nat.beq j k
  · have := Nat.ne_of_beq_eq_false hb
    simp [this]
  · have := Nat.eq_of_beq_eq_true hb
    simp [this]
theorem rd_sw_ap (A : rd_St) (k i : Nat) (v : Int32) (j : Nat) : rd_sw A k i v j = if j = k then upd (A k) i v else A j := rd_sa_ap _ _ _ _
theorem rd_up (f : Nat → Int32) (k : Nat) (x : Int32) (j : Nat) : upd f k x j = if j = k then x else f j := rfl
theorem rd_us {f : Nat → Int32} {k : Nat} {x : Int32} : upd f k x k = x := by rw [rd_up, if_pos rfl]
theorem rd_un {f : Nat → Int32} {k j : Nat} {x : Int32} (h : j ≠ k) : upd f k x j = f j := by rw [rd_up, if_neg h]
theorem rd_ue {f : Nat → Int32} {k : Nat} {x : Int32} (h : f k = x) : upd f k x = f := by
  funext j
  rw [rd_up]
  by_cases e : j = k
  · rw [if_pos e, e, h]
  · rw [if_neg e]
theorem rd_uu {f : Nat → Int32} {k : Nat} {x y : Int32} : upd (upd f k x) k y = upd f k y := by
  funext j
  simp only [rd_up]
  by_cases e : j = k <;> simp [e]
theorem rd_ix (a b k : Nat) (x : Int32) (hx : x = nI k) : nI a * x + nI b = nI (k * a + b) := by
  subst hx
  show Int32.ofNat a * Int32.ofNat k + Int32.ofNat b = Int32.ofNat (k * a + b)
  rw [Nat.mul_comm k a, Int32.ofNat_add, Int32.ofNat_mul]
theorem rd_ix' (a b k : Nat) (x : Int32) (hx : x = nI k) : x * nI a + nI b = nI (k * a + b) := by
  subst hx
  show Int32.ofNat k * Int32.ofNat a + Int32.ofNat b = Int32.ofNat (k * a + b)
  rw [Int32.ofNat_add, Int32.ofNat_mul]
/-- a list laid in an array from o on -/
def rd_LV (a : Nat → Int32) : Nat → List Nat → Prop
  | _, [] => True
  | o, x :: l => a o = nI x ∧ rd_LV a (o + 1) l
theorem rd_LV_fr {a b : Nat → Int32} : ∀ {l : List Nat} {o : Nat}, rd_LV a o l → (∀ i, o ≤ i → i < o + l.length → b i = a i) → rd_LV b o l
  | [], _, _, _ => trivial
  | x :: l, o, h, f => ⟨(f o (Nat.le_refl _) (by simp)).trans h.1, rd_LV_fr h.2 (fun i h1 h2 => f i (by omega) (by simp only [List.length_cons]; omega))⟩
theorem rd_LV_app {a : Nat → Int32} : ∀ {l : List Nat} {o x : Nat}, rd_LV a o l → a (o + l.length) = nI x → rd_LV a o (l ++ [x])
  | [], _, _, _, h => ⟨h, trivial⟩
  | y :: l, o, x, h, e => ⟨h.1, rd_LV_app h.2 (by rw [← e]; congr 1; simp only [List.length_cons]; omega)⟩
theorem rd_LV_get {a : Nat → Int32} : ∀ {l : List Nat} {o i x : Nat}, rd_LV a o l → l[i]? = some x → a (o + i) = nI x
  | [], _, _, _, _, h => by simp at h
  | y :: l, o, 0, x, h, e => by
    simp at e
    subst e
    exact h.1
  | y :: l, o, i + 1, x, h, e => by
    simp at e
    have := rd_LV_get h.2 e
    rw [← this]
    congr 1
    omega
theorem rd_LV_put {a : Nat → Int32} {l : List Nat} {o x : Nat} (h : rd_LV a o l) : rd_LV (upd a (o + l.length) (nI x)) o (l ++ [x]) :=
  rd_LV_app (rd_LV_fr h (fun i _ h2 => rd_un (by omega))) rd_us
theorem rd_fl_not {l : List Nat} {t : Nat} (h : t ∉ l) : l.filter (fun x => x != t) = l := by
  rw [List.filter_eq_self]
  intro a ha
  simp
  intro e
  exact h (e ▸ ha)
theorem rd_fl_mem {l : List Nat} {t x : Nat} : x ∈ l.filter (fun x => x != t) ↔ x ∈ l ∧ x ≠ t := by
  simp
theorem rd_flen (t : Nat) : ∀ l : List Nat, l.Nodup → l.length ≤ (l.filter (fun x => x != t)).length + 1
  | [], _ => by simp
  | x :: l, h => by
    have h1 := (List.nodup_cons.mp h).1
    have h2 := rd_flen t l (List.nodup_cons.mp h).2
    by_cases e : x = t
    · subst e
      rw [List.filter_cons, if_neg (by simp), rd_fl_not h1]
      simp
    · rw [List.filter_cons, if_pos (by simp [e])]
      simp only [List.length_cons]
      omega
theorem rd_pig : ∀ (n : Nat) (l : List Nat), l.Nodup → (∀ x, x ∈ l → x < n) → l.length ≤ n
  | 0, [], _, _ => Nat.le_refl _
  | 0, x :: l, _, h => absurd (h x (by simp)) (by omega)
  | n + 1, l, hd, h => by
    have h1 := rd_pig n (l.filter (fun x => x != n)) (List.Pairwise.filter _ hd) (by
      intro x hx
      rw [rd_fl_mem] at hx
      have := h x hx.1
      omega)
    have h2 := rd_flen n l hd
    omega
def rd_sum (f : Nat → Nat) : Nat → Nat
  | 0 => 0
  | n + 1 => rd_sum f n + f n
theorem rd_sum_le {f g : Nat → Nat} : ∀ {n : Nat}, (∀ t, t < n → f t ≤ g t) → rd_sum f n ≤ rd_sum g n
  | 0, _ => Nat.le_refl _
  | n + 1, h => Nat.add_le_add (rd_sum_le (fun t ht => h t (by omega))) (h n (by omega))
theorem rd_sum_lt {f g : Nat → Nat} {s : Nat} : ∀ {n : Nat}, (∀ t, t < n → f t ≤ g t) → s < n → f s < g s → rd_sum f n < rd_sum g n
  | 0, _, h, _ => by omega
  | n + 1, h, hs, hl => by
    simp only [rd_sum]
    rcases Nat.lt_or_ge s n with z | z
    · have := rd_sum_lt (fun t ht => h t (by omega)) z hl
      have := h n (by omega)
      omega
    · have e : s = n := by omega
      subst e
      have := rd_sum_le (n := s) (fun t ht => h t (by omega))
      omega
theorem rd_sum_bd {f : Nat → Nat} {K : Nat} : ∀ {n : Nat}, (∀ t, t < n → f t ≤ K) → rd_sum f n ≤ n * K
  | 0, _ => by simp [rd_sum]
  | n + 1, h => by
    have := rd_sum_bd (n := n) (fun t ht => h t (by omega))
    have := h n (by omega)
    simp only [rd_sum, Nat.succ_mul]
    omega
/-- a task's weight: what a turn without an instruction takes from -/
def rd_c (x p : Int32) : Nat := if x = 8 then 0 else if x = 7 then 1 else if x = 9 ∨ x = 6 then 2 else if x = 0 then (if p = 0 then 2 else 3) else 4
theorem rd_c8 (p : Int32) : rd_c 8 p = 0 := by simp [rd_c]
theorem rd_c7 (p : Int32) : rd_c 7 p = 1 := by simp [rd_c]
theorem rd_c9 (p : Int32) : rd_c 9 p = 2 := by simp [rd_c]
theorem rd_c6 (p : Int32) : rd_c 6 p = 2 := by simp [rd_c]
theorem rd_c00 : rd_c 0 0 = 2 := by simp [rd_c]
theorem rd_c0 {p : Int32} (h : p ≠ 0) : rd_c 0 p = 3 := by simp [rd_c, h]
theorem rd_c0_le (p : Int32) : rd_c 0 p ≤ 3 := by by_cases h : p = 0 <;> simp [rd_c, h]
theorem rd_c_le (x p : Int32) : rd_c x p ≤ 4 := by
  unfold rd_c
  repeat' split
  all_goals omega
theorem rd_c_w {x : Int32} (p : Int32) (h : x = 1 ∨ x = 2 ∨ x = 3 ∨ x = 4 ∨ x = 5) : rd_c x p = 4 := by
  rcases h with e | e | e | e | e <;> subst e <;> simp [rd_c]
theorem rd_c_ge {x : Int32} (p : Int32) (h7 : x ≠ 7) (h8 : x ≠ 8) : 2 ≤ rd_c x p := by
  unfold rd_c
  rw [if_neg h8, if_neg h7]
  repeat' split
  all_goals omega
def rd_w (cd pe dp : Nat → Int32) (t : Nat) : Nat := rd_c (cd t) (pe t) + 2 * (dp t).toNatClampNeg
def rd_ph (n : Nat) (A : rd_St) : Nat := rd_sum (rd_w (A 4) (A 12) (A 18)) n
/-! the invariant -/
def rd_rng (n K : Nat) (f : Nat → Int32) : Prop := ∀ t, t < n → ∃ j, j ≤ K ∧ f t = nI j
theorem rd_rng_u {n K : Nat} {f : Nat → Int32} {t j : Nat} (h : rd_rng n K f) (hj : j ≤ K) : rd_rng n K (upd f t (nI j)) := by
  intro s hs
  rw [rd_up]
  by_cases e : s = t
  · rw [if_pos e]; exact ⟨j, hj, rfl⟩
  · rw [if_neg e]; exact h s hs
def rd_op (ops ln : Nat → Int32) (b i : Nat) : Int32 := if i < (ln b).toNatClampNeg then ops (20 * b + i) else 25
def rd_scan (f : Nat → Int32) (P : Nat → Bool) : Nat → Nat → Option Nat
  | 0, _ => none
  | d + 1, i => if 16 ≤ f i ∧ f i ≤ 20 then (if P i then some i else rd_scan f P d (i + 1)) else none
def rd_oth (ops ln : Nat → Int32) (b p : Nat) : Option Nat := rd_scan (rd_op ops ln b) (fun i => decide (18 ≤ rd_op ops ln b i)) 21 (p + 1)
/-- an instruction whose operands are as said -/
def rd_fit (op a b : Int32) : Prop :=
  (∃ o, o < 26 ∧ op = nI o) ∧
  (op = 4 ∨ op = 5 ∨ op = 18 ∨ op = 19 ∨ op = 22 → ∃ j, j ≤ 20 ∧ a = nI j) ∧
  (op = 6 → ∃ j, j < 4 ∧ a = nI j) ∧
  (op = 9 ∨ op = 11 → (∃ j, j < 8 ∧ a = nI j) ∧ ∃ j, j < 3 ∧ b = nI j) ∧
  (op = 24 → ∃ j, j < 8 ∧ a = nI j) ∧
  (op = 10 ∨ op = 12 → ∃ j, j < 100 ∧ a = nI j) ∧
  (op = 13 → ∃ j, j < 3 ∧ a = nI j) ∧
  (op = 16 ∨ op = 17 → (∃ j, j < 3 ∧ a = nI j) ∧ ∃ j, j ≤ 20 ∧ b = nI j) ∧
  (op = 21 → ∃ j, j < 10 ∧ 0 < j ∧ a = nI j)
def rd_vG (ops as bs ln : Nat → Int32) : Prop := rd_rng 4 20 ln ∧ ∀ i, i < 80 → rd_fit (ops i) (as i) (bs i)
def rd_vN (n : Nat) (tk : Nat → Int32) : Prop := tk 0 = nI n ∧ n ≤ 8
def rd_vR (n : Nat) (cd : Nat → Int32) (w : List Nat) : Prop := w.Nodup ∧ ∀ t, t ∈ w ↔ (t < n ∧ cd t = 0)
def rd_vQ (n : Nat) (cd cq : Nat → Int32) (Q : Nat → List Nat) : Prop := ∀ q, (Q q).Nodup ∧ ∀ c, c ∈ Q q → c < n ∧ cd c = 1 ∧ cq c = nI q ∧ q < 3 * n
def rd_vF (n : Nat) (dp fk fv cd : Nat → Int32) : Prop := ∀ t, t < n → ∀ l, l < (dp t).toNatClampNeg → fk (8 * t + l) = 0 ∨ (fk (8 * t + l) = 1 ∧ ∃ c, c < n ∧ fv (8 * t + l) = nI c ∧ cd c = 2) ∨ (fk (8 * t + l) = 2 ∧ ∃ p, p ≤ 20 ∧ fv (8 * t + l) = nI p)
def rd_vU (n : Nat) (dp fk fv : Nat → Int32) : Prop := ∀ t, t < n → ∀ s, s < n → ∀ l, l < (dp t).toNatClampNeg → ∀ k, k < (dp s).toNatClampNeg → fk (8 * t + l) = 1 → fk (8 * s + k) = 1 → fv (8 * t + l) = fv (8 * s + k) → t = s ∧ l = k
def rd_vM (n : Nat) (ma : Nat → Int32) : Prop := ∀ t, t < n → (t = 0 ∧ ma t = -1) ∨ ∃ m, m < t ∧ ma t = nI m
def rd_vB (n : Nat) (dp fk ma mb cd : Nat → Int32) : Prop := ∀ u, u < n → cd u ≠ 8 → mb u = -1 ∨ ∃ m l, m < n ∧ ma u = nI m ∧ mb u = nI l ∧ l < (dp m).toNatClampNeg ∧ fk (8 * m + l) = 0
def rd_vX (n : Nat) (ma cd : Nat → Int32) : Prop := ∀ u, u < n → ∀ m, m < n → ma u = nI m → cd m = 8 → cd u = 8
def rd_vC (n : Nat) (dp cd : Nat → Int32) : Prop := ∀ t, t < n → cd t = 7 ∨ cd t = 8 → dp t = 0
def rd_lv (n : Nat) (ma mb cd : Nat → Int32) (t : Nat) (b : Int32) : Prop := ∃ u, u < n ∧ ma u = nI t ∧ mb u = b ∧ cd u ≠ 8
def rd_vE (n : Nat) (dp fk cd : Nat → Int32) : Prop := ∀ t, t < n → (cd t = 6 → ∃ d, d < 8 ∧ dp t = nI (d + 1) ∧ fk (8 * t + d) = 0) ∧ (cd t = 3 ∨ cd t = 4 → ∃ d, d < 8 ∧ dp t = nI d)
def rd_vL (n e : Nat) (dp ma mb cd : Nat → Int32) : Prop := ∀ t, t < n → t ≠ e → cd t = 6 → rd_lv n ma mb cd t (dp t - 1)
def rd_vK (n e : Nat) (ma mb cd : Nat → Int32) : Prop := ∀ t, t < n → t ≠ e → cd t = 7 → rd_lv n ma mb cd t (-1)
def rd_vD (D : Nat) (tm dn nc : Nat → Int32) : Prop := dn 0 = nI D ∧ D ≤ 500 ∧ (∃ T, T ≤ 99 * D ∧ tm 0 = nI T) ∧ ∃ c, c ≤ D ∧ nc 0 = nI c
def rd_vW (n D : Nat) (ops as ln cd pl bo wk wp : Nat → Int32) : Prop := ∀ t, t < n → wk t = -1 ∨ ((∃ x, x ≤ 99 * D ∧ wk t = nI x) ∧ (∃ y, y ≤ 21 ∧ wp t = nI y) ∧ (cd t = 1 ∧ wp t = pl t + 2 ∨ cd t = 5 ∧ wp t = pl t + 1 ∨ cd t = 4 ∧ ∃ b p i, (b < 4 ∧ p ≤ 21) ∧ bo t = nI b ∧ pl t = nI p ∧ rd_oth ops ln b p = some i ∧ wp t = as (20 * b + i)))
def rd_vP (n : Nat) (cd pe : Nat → Int32) : Prop := ∀ t, t < n → (cd t = 1 ∨ cd t = 2 ∨ cd t = 3 ∨ cd t = 4 ∨ cd t = 5) → pe t = 0
def rd_vZ (n : Nat) (cd cq : Nat → Int32) : Prop := ∀ t, t < n → cd t = 1 → ∃ q, q < 3 * n ∧ cq t = nI q
def rd_vA (n : Nat) (ops ln cd pl bo te pe : Nat → Int32) : Prop := ∀ t, t < n → (cd t = 1 ∨ cd t = 2 ∨ cd t = 3 ∨ cd t = 5 ∨ (cd t = 6 ∧ pe t = 0) → ∃ p, p < 20 ∧ pl t = nI p) ∧ (cd t = 4 → ∃ b p, p < 20 ∧ b < 4 ∧ bo t = nI b ∧ pl t = nI p ∧ te t = if (rd_oth ops ln b p).any (fun i => decide (rd_op ops ln b i = 20)) then 1 else 0)
def rd_Inv (n e D : Nat) (A : rd_St) (w : List Nat) (Q : Nat → List Nat) : Prop :=
  rd_vG (A 0) (A 1) (A 2) (A 3) ∧ rd_vN n (A 26) ∧ rd_vR n (A 4) w ∧ rd_vQ n (A 4) (A 15) Q ∧ rd_vF n (A 18) (A 19) (A 20) (A 4) ∧ rd_vU n (A 18) (A 19) (A 20) ∧ rd_vM n (A 9) ∧ rd_vB n (A 18) (A 19) (A 9) (A 10) (A 4) ∧ rd_vX n (A 9) (A 4) ∧ rd_vC n (A 18) (A 4) ∧ rd_vE n (A 18) (A 19) (A 4) ∧ rd_vL n e (A 18) (A 9) (A 10) (A 4) ∧ rd_vK n e (A 9) (A 10) (A 4) ∧ rd_vD D (A 27) (A 28) (A 25) ∧ rd_vW n D (A 0) (A 1) (A 3) (A 4) (A 5) (A 8) (A 16) (A 17) ∧ rd_vP n (A 4) (A 12) ∧ rd_vZ n (A 4) (A 15) ∧ rd_vA n (A 0) (A 3) (A 4) (A 5) (A 8) (A 14) (A 12) ∧
  rd_rng n 3 (A 8) ∧ rd_rng n 21 (A 5) ∧ rd_rng n 8 (A 18) ∧ rd_rng n 99 (A 11) ∧ rd_rng n 1 (A 13) ∧ rd_rng n 14 (A 12) ∧ rd_rng n 9 (A 4)
theorem rd_Inv.vG {n e D : Nat} {A : rd_St} {w : List Nat} {Q : Nat → List Nat} (h : rd_Inv n e D A w Q) : rd_vG (A 0) (A 1) (A 2) (A 3) := h.1
theorem rd_Inv.vN {n e D : Nat} {A : rd_St} {w : List Nat} {Q : Nat → List Nat} (h : rd_Inv n e D A w Q) : rd_vN n (A 26) := h.2.1
theorem rd_Inv.vR {n e D : Nat} {A : rd_St} {w : List Nat} {Q : Nat → List Nat} (h : rd_Inv n e D A w Q) : rd_vR n (A 4) w := h.2.2.1
theorem rd_Inv.vQ {n e D : Nat} {A : rd_St} {w : List Nat} {Q : Nat → List Nat} (h : rd_Inv n e D A w Q) : rd_vQ n (A 4) (A 15) Q := h.2.2.2.1
theorem rd_Inv.vF {n e D : Nat} {A : rd_St} {w : List Nat} {Q : Nat → List Nat} (h : rd_Inv n e D A w Q) : rd_vF n (A 18) (A 19) (A 20) (A 4) := h.2.2.2.2.1
theorem rd_Inv.vU {n e D : Nat} {A : rd_St} {w : List Nat} {Q : Nat → List Nat} (h : rd_Inv n e D A w Q) : rd_vU n (A 18) (A 19) (A 20) := h.2.2.2.2.2.1
theorem rd_Inv.vM {n e D : Nat} {A : rd_St} {w : List Nat} {Q : Nat → List Nat} (h : rd_Inv n e D A w Q) : rd_vM n (A 9) := h.2.2.2.2.2.2.1
theorem rd_Inv.vB {n e D : Nat} {A : rd_St} {w : List Nat} {Q : Nat → List Nat} (h : rd_Inv n e D A w Q) : rd_vB n (A 18) (A 19) (A 9) (A 10) (A 4) := h.2.2.2.2.2.2.2.1
theorem rd_Inv.vX {n e D : Nat} {A : rd_St} {w : List Nat} {Q : Nat → List Nat} (h : rd_Inv n e D A w Q) : rd_vX n (A 9) (A 4) := h.2.2.2.2.2.2.2.2.1
theorem rd_Inv.vC {n e D : Nat} {A : rd_St} {w : List Nat} {Q : Nat → List Nat} (h : rd_Inv n e D A w Q) : rd_vC n (A 18) (A 4) := h.2.2.2.2.2.2.2.2.2.1
theorem rd_Inv.vE {n e D : Nat} {A : rd_St} {w : List Nat} {Q : Nat → List Nat} (h : rd_Inv n e D A w Q) : rd_vE n (A 18) (A 19) (A 4) := h.2.2.2.2.2.2.2.2.2.2.1
theorem rd_Inv.vL {n e D : Nat} {A : rd_St} {w : List Nat} {Q : Nat → List Nat} (h : rd_Inv n e D A w Q) : rd_vL n e (A 18) (A 9) (A 10) (A 4) := h.2.2.2.2.2.2.2.2.2.2.2.1
theorem rd_Inv.vK {n e D : Nat} {A : rd_St} {w : List Nat} {Q : Nat → List Nat} (h : rd_Inv n e D A w Q) : rd_vK n e (A 9) (A 10) (A 4) := h.2.2.2.2.2.2.2.2.2.2.2.2.1
theorem rd_Inv.vD {n e D : Nat} {A : rd_St} {w : List Nat} {Q : Nat → List Nat} (h : rd_Inv n e D A w Q) : rd_vD D (A 27) (A 28) (A 25) := h.2.2.2.2.2.2.2.2.2.2.2.2.2.1
theorem rd_Inv.vW {n e D : Nat} {A : rd_St} {w : List Nat} {Q : Nat → List Nat} (h : rd_Inv n e D A w Q) : rd_vW n D (A 0) (A 1) (A 3) (A 4) (A 5) (A 8) (A 16) (A 17) := h.2.2.2.2.2.2.2.2.2.2.2.2.2.2.1
theorem rd_Inv.vP {n e D : Nat} {A : rd_St} {w : List Nat} {Q : Nat → List Nat} (h : rd_Inv n e D A w Q) : rd_vP n (A 4) (A 12) := h.2.2.2.2.2.2.2.2.2.2.2.2.2.2.2.1
theorem rd_Inv.vZ {n e D : Nat} {A : rd_St} {w : List Nat} {Q : Nat → List Nat} (h : rd_Inv n e D A w Q) : rd_vZ n (A 4) (A 15) := h.2.2.2.2.2.2.2.2.2.2.2.2.2.2.2.2.1
theorem rd_Inv.vA {n e D : Nat} {A : rd_St} {w : List Nat} {Q : Nat → List Nat} (h : rd_Inv n e D A w Q) : rd_vA n (A 0) (A 3) (A 4) (A 5) (A 8) (A 14) (A 12) := h.2.2.2.2.2.2.2.2.2.2.2.2.2.2.2.2.2.1
theorem rd_Inv.rbo {n e D : Nat} {A : rd_St} {w : List Nat} {Q : Nat → List Nat} (h : rd_Inv n e D A w Q) : rd_rng n 3 (A 8) := h.2.2.2.2.2.2.2.2.2.2.2.2.2.2.2.2.2.2.1
theorem rd_Inv.rpl {n e D : Nat} {A : rd_St} {w : List Nat} {Q : Nat → List Nat} (h : rd_Inv n e D A w Q) : rd_rng n 21 (A 5) := h.2.2.2.2.2.2.2.2.2.2.2.2.2.2.2.2.2.2.2.1
theorem rd_Inv.rdp {n e D : Nat} {A : rd_St} {w : List Nat} {Q : Nat → List Nat} (h : rd_Inv n e D A w Q) : rd_rng n 8 (A 18) := h.2.2.2.2.2.2.2.2.2.2.2.2.2.2.2.2.2.2.2.2.1
theorem rd_Inv.rli {n e D : Nat} {A : rd_St} {w : List Nat} {Q : Nat → List Nat} (h : rd_Inv n e D A w Q) : rd_rng n 99 (A 11) := h.2.2.2.2.2.2.2.2.2.2.2.2.2.2.2.2.2.2.2.2.2.1
theorem rd_Inv.rdm {n e D : Nat} {A : rd_St} {w : List Nat} {Q : Nat → List Nat} (h : rd_Inv n e D A w Q) : rd_rng n 1 (A 13) := h.2.2.2.2.2.2.2.2.2.2.2.2.2.2.2.2.2.2.2.2.2.2.1
theorem rd_Inv.rpe {n e D : Nat} {A : rd_St} {w : List Nat} {Q : Nat → List Nat} (h : rd_Inv n e D A w Q) : rd_rng n 14 (A 12) := h.2.2.2.2.2.2.2.2.2.2.2.2.2.2.2.2.2.2.2.2.2.2.2.1
theorem rd_Inv.rcd {n e D : Nat} {A : rd_St} {w : List Nat} {Q : Nat → List Nat} (h : rd_Inv n e D A w Q) : rd_rng n 9 (A 4) := h.2.2.2.2.2.2.2.2.2.2.2.2.2.2.2.2.2.2.2.2.2.2.2.2
end
section
/-! how each part of the invariant bears a change of one array -/
theorem rd_inj {a b : Nat} (ha : a < 2 ^ 31) (hb : b < 2 ^ 31) (h : nI a = nI b) : a = b := (nI_eq ha hb).mp h
theorem rd_nm {a : Nat} (ha : a < 2 ^ 31) : nI a ≠ -1 := by
  intro h
  have := nI_toInt ha
  rw [h] at this
  have e : (-1 : Int32).toInt = -1 := by decide
  omega
def rd_nf (n : Nat) (dp fk fv : Nat → Int32) (t : Nat) : Prop := ∀ s, s < n → ∀ l, l < (dp s).toNatClampNeg → fk (8 * s + l) = 1 → fv (8 * s + l) ≠ nI t
theorem rd_nf_of {n : Nat} {dp fk fv cd : Nat → Int32} {t : Nat} (h8 : n ≤ 8) (h : rd_vF n dp fk fv cd) (ht : t < n) (hc : cd t ≠ 2) : rd_nf n dp fk fv t := by
  intro s hs l hl a b
  rcases h s hs l hl with z | ⟨_, c, hcn, e, f⟩ | ⟨z, _⟩
  · rw [z] at a; exact absurd a (by decide)
  · have : c = t := rd_inj (by omega) (by omega) (e.symm.trans b)
    subst this
    exact hc f
  · rw [z] at a; exact absurd a (by decide)
theorem rd_vF_cd {n : Nat} {dp fk fv cd : Nat → Int32} {t : Nat} {s : Int32} (h : rd_vF n dp fk fv cd) (hn : rd_nf n dp fk fv t) : rd_vF n dp fk fv (upd cd t s) := by
  intro u hu l hl
  rcases h u hu l hl with z | ⟨a, c, hcn, e, f⟩ | z
  · exact Or.inl z
  · refine Or.inr (Or.inl ⟨a, c, hcn, e, ?_⟩)
    rw [rd_un]
    · exact f
    · intro z; subst z; exact hn u hu l hl a e
  · exact Or.inr (Or.inr z)
theorem rd_vF_cd2 {n : Nat} {dp fk fv cd : Nat → Int32} {t : Nat} (h : rd_vF n dp fk fv cd) : rd_vF n dp fk fv (upd cd t 2) := by
  intro u hu l hl
  rcases h u hu l hl with z | ⟨a, c, hcn, e, f⟩ | z
  · exact Or.inl z
  · refine Or.inr (Or.inl ⟨a, c, hcn, e, ?_⟩)
    rw [rd_up]
    by_cases z : c = t
    · rw [if_pos z]
    · rw [if_neg z]; exact f
  · exact Or.inr (Or.inr z)
theorem rd_vB_cd {n : Nat} {dp fk ma mb cd : Nat → Int32} {t : Nat} {s : Int32} (h : rd_vB n dp fk ma mb cd) (hc : cd t ≠ 8) : rd_vB n dp fk ma mb (upd cd t s) := by
  intro u hu hcu
  apply h u hu
  by_cases z : u = t
  · rw [z]; exact hc
  · rw [rd_un z] at hcu; exact hcu
theorem rd_vX_cd {n : Nat} {ma cd : Nat → Int32} {t : Nat} {s : Int32} (h : rd_vX n ma cd) (hc : cd t ≠ 8) (hs : s ≠ 8) : rd_vX n ma (upd cd t s) := by
  intro u hu m hm e f
  by_cases z : m = t
  · rw [z, rd_us] at f; exact absurd f hs
  · rw [rd_un z] at f
    have g := h u hu m hm e f
    by_cases y : u = t
    · rw [y] at g; exact absurd g hc
    · rw [rd_un y]; exact g
theorem rd_vC_cd {n : Nat} {dp cd : Nat → Int32} {t : Nat} {s : Int32} (h : rd_vC n dp cd) (hs : s = 7 ∨ s = 8 → dp t = 0) : rd_vC n dp (upd cd t s) := by
  intro u hu f
  by_cases y : u = t
  · rw [y, rd_us] at f; rw [y]; exact hs f
  · rw [rd_un y] at f; exact h u hu f
theorem rd_vE_cd {n : Nat} {dp fk cd : Nat → Int32} {t : Nat} {s : Int32} (h : rd_vE n dp fk cd) (hs : s = 6 → ∃ d, d < 8 ∧ dp t = nI (d + 1) ∧ fk (8 * t + d) = 0) (h3 : s = 3 ∨ s = 4 → ∃ d, d < 8 ∧ dp t = nI d) : rd_vE n dp fk (upd cd t s) := by
  intro u hu
  by_cases y : u = t
  · rw [y, rd_us]; exact ⟨hs, h3⟩
  · rw [rd_un y]; exact h u hu
theorem rd_lv_cd {n : Nat} {ma mb cd : Nat → Int32} {t k : Nat} {s b : Int32} (h : rd_lv n ma mb cd k b) (hs : s ≠ 8) : rd_lv n ma mb (upd cd t s) k b := by
  obtain ⟨u, hu, e, f, g⟩ := h
  refine ⟨u, hu, e, f, ?_⟩
  rw [rd_up]
  by_cases y : u = t
  · rw [if_pos y]; exact hs
  · rw [if_neg y]; exact g
theorem rd_lv_cd' {n : Nat} {ma mb cd : Nat → Int32} {t k : Nat} {s b : Int32} (h : rd_lv n ma mb (upd cd t s) k b) (hs : cd t ≠ 8) : rd_lv n ma mb cd k b := by
  obtain ⟨u, hu, e, f, g⟩ := h
  refine ⟨u, hu, e, f, ?_⟩
  by_cases y : u = t
  · rw [y]; exact hs
  · rw [rd_un y] at g; exact g
theorem rd_vL_cd {n e : Nat} {dp ma mb cd : Nat → Int32} {t : Nat} {s : Int32} (h : rd_vL n e dp ma mb cd) (hs : s ≠ 8) (h6 : s = 6 → t ≠ e → rd_lv n ma mb cd t (dp t - 1)) : rd_vL n e dp ma mb (upd cd t s) := by
  intro u hu he f
  by_cases y : u = t
  · rw [y, rd_us] at f; rw [y]; exact rd_lv_cd (h6 f (y ▸ he)) hs
  · rw [rd_un y] at f; exact rd_lv_cd (h u hu he f) hs
theorem rd_vK_cd {n e : Nat} {ma mb cd : Nat → Int32} {t : Nat} {s : Int32} (h : rd_vK n e ma mb cd) (hs : s ≠ 8) (h7 : s = 7 → t = e) : rd_vK n e ma mb (upd cd t s) := by
  intro u hu he f
  by_cases y : u = t
  · rw [y, rd_us] at f; exact absurd (y.trans (h7 f)) he
  · rw [rd_un y] at f; exact rd_lv_cd (h u hu he f) hs
theorem rd_vQ_cd {n : Nat} {cd cq : Nat → Int32} {Q : Nat → List Nat} {t : Nat} {s : Int32} (h : rd_vQ n cd cq Q) (hq : ∀ q, t ∉ Q q) : rd_vQ n (upd cd t s) cq Q := by
  intro q
  refine ⟨(h q).1, fun c hc => ?_⟩
  have z : c ≠ t := fun e => hq q (e ▸ hc)
  rw [rd_un z]
  exact (h q).2 c hc
theorem rd_vQ_no {n : Nat} {cd cq : Nat → Int32} {Q : Nat → List Nat} {t : Nat} (h : rd_vQ n cd cq Q) (hc : cd t ≠ 1) : ∀ q, t ∉ Q q := fun q hm => hc ((h q).2 t hm).2.1
theorem rd_vR_add {n : Nat} {cd : Nat → Int32} {w : List Nat} {t : Nat} (h : rd_vR n cd w) (ht : t < n) (hc : cd t ≠ 0) : rd_vR n (upd cd t 0) (w ++ [t]) := by
  have hm : t ∉ w := fun z => hc ((h.2 t).mp z).2
  refine ⟨?_, fun u => ?_⟩
  · rw [List.nodup_append]
    refine ⟨h.1, by simp, ?_⟩
    intro a ha b hb
    simp at hb
    subst hb
    intro z
    subst z
    exact hm ha
  · rw [List.mem_append, h.2 u, rd_up]
    by_cases z : u = t
    · rw [if_pos z]; subst z; simp [ht]
    · rw [if_neg z]; simp [z]
theorem rd_vR_del {n : Nat} {cd : Nat → Int32} {w : List Nat} {t : Nat} {s : Int32} (h : rd_vR n cd w) (hs : s ≠ 0) : rd_vR n (upd cd t s) (w.filter (fun x => x != t)) := by
  refine ⟨List.Pairwise.filter _ h.1, fun u => ?_⟩
  rw [rd_fl_mem, h.2 u, rd_up]
  by_cases z : u = t
  · rw [if_pos z]; simp [z, hs]
  · rw [if_neg z]; simp [z]
theorem rd_vR_oth {n : Nat} {cd : Nat → Int32} {w : List Nat} {t : Nat} {s : Int32} (h : rd_vR n cd w) (hc : cd t ≠ 0) (hs : s ≠ 0) : rd_vR n (upd cd t s) w := by
  have e := rd_vR_del (t := t) h hs
  rw [rd_fl_not (fun z => hc ((h.2 t).mp z).2)] at e
  exact e
theorem rd_vW_cd {n D : Nat} {ops as ln cd pl bo wk wp : Nat → Int32} {t : Nat} {s : Int32} (h : rd_vW n D ops as ln cd pl bo wk wp) : rd_vW n D ops as ln (upd cd t s) pl bo (upd wk t (-1)) wp := by
  intro u hu
  by_cases z : u = t
  · rw [z, rd_us]; exact Or.inl rfl
  · rw [rd_un z, rd_un z]; exact h u hu
theorem rd_vW_cd' {n D : Nat} {ops as ln cd pl bo wk wp : Nat → Int32} {t : Nat} {s : Int32} (h : rd_vW n D ops as ln cd pl bo wk wp) (hw : wk t = -1) : rd_vW n D ops as ln (upd cd t s) pl bo wk wp := by
  have e := rd_vW_cd (t := t) (s := s) h
  rw [rd_ue hw] at e
  exact e
theorem rd_vP_cd {n : Nat} {cd pe : Nat → Int32} {t : Nat} {s : Int32} (h : rd_vP n cd pe) (hs : (s = 1 ∨ s = 2 ∨ s = 3 ∨ s = 4 ∨ s = 5) → pe t = 0) : rd_vP n (upd cd t s) pe := by
  intro u hu f
  by_cases z : u = t
  · rw [z, rd_us] at f; rw [z]; exact hs f
  · rw [rd_un z] at f; exact h u hu f
theorem rd_vZ_cd {n : Nat} {cd cq : Nat → Int32} {t : Nat} {s : Int32} (h : rd_vZ n cd cq) (hs : s = 1 → ∃ q, q < 3 * n ∧ cq t = nI q) : rd_vZ n (upd cd t s) cq := by
  intro u hu f
  by_cases z : u = t
  · rw [z, rd_us] at f; rw [z]; exact hs f
  · rw [rd_un z] at f; exact h u hu f
theorem rd_vA_cd {n : Nat} {ops ln cd pl bo te pe : Nat → Int32} {t : Nat} {s : Int32} (h : rd_vA n ops ln cd pl bo te pe) (hs : s = 0 ∨ s = 7 ∨ s = 8 ∨ s = 9) : rd_vA n ops ln (upd cd t s) pl bo te pe := by
  intro u hu
  by_cases z : u = t
  · rw [z, rd_us]
    rcases hs with e | e | e | e <;> subst e <;> exact ⟨fun f => by rcases f with f | f | f | f | ⟨f, _⟩ <;> exact absurd f (by decide), fun f => absurd f (by decide)⟩
  · rw [rd_un z]; exact h u hu
theorem rd_vA_cp {n : Nat} {ops ln cd pl bo te pe : Nat → Int32} {t : Nat} {s : Int32} (h : rd_vA n ops ln cd pl bo te pe) (hs : s ≠ 4) (hp : ∃ p, p < 20 ∧ pl t = nI p) : rd_vA n ops ln (upd cd t s) pl bo te pe := by
  intro u hu
  by_cases z : u = t
  · rw [z, rd_us]
    exact ⟨fun _ => hp, fun f => absurd f hs⟩
  · rw [rd_un z]; exact h u hu
theorem rd_rng_c {n K : Nat} {f : Nat → Int32} {t j : Nat} {x : Int32} (h : rd_rng n K f) (hx : x = nI j) (hj : j ≤ K) : rd_rng n K (upd f t x) := hx ▸ rd_rng_u h hj
theorem rd_dpos {n : Nat} {A : rd_St} {e D t : Nat} {w : List Nat} {Q : Nat → List Nat} (h : rd_Inv n e D A w Q) (ht : t < n) : ∃ d, d ≤ 8 ∧ A 18 t = nI d ∧ (A 18 t).toNatClampNeg = d := by
  obtain ⟨d, hd, e⟩ := h.rdp t ht
  exact ⟨d, hd, e, by rw [e]; exact nI_clamp (by omega)⟩
theorem rd_wk0 {n : Nat} {A : rd_St} {e D t : Nat} {w : List Nat} {Q : Nat → List Nat} (h : rd_Inv n e D A w Q) (ht : t < n) (hc : A 4 t ≠ 1 ∧ A 4 t ≠ 5 ∧ A 4 t ≠ 4) : A 16 t = -1 := by
  rcases h.vW t ht with z | ⟨_, _, z | z | z⟩
  · exact z
  · exact absurd z.1 hc.1
  · exact absurd z.1 hc.2.1
  · exact absurd z.1 hc.2.2
/-- a task gets ready -/
def rd_ready (A : rd_St) (t : Nat) : rd_St := rd_sw (rd_sw A  4 t 0)  16 t (-1)
theorem rd_i_ready {n e D : Nat} {A : rd_St} {w : List Nat} {Q : Nat → List Nat} {t : Nat} (h : rd_Inv n e D A w Q) (ht : t < n) (h0 : A 4 t ≠ 0) (h8 : A 4 t ≠ 8) (hq : ∀ q, t ∉ Q q) (hf : rd_nf n (A 18) (A 19) (A 20) t) : rd_Inv n e D (rd_ready A t) (w ++ [t]) Q :=
  ⟨h.vG, h.vN, rd_vR_add h.vR ht h0, rd_vQ_cd h.vQ hq, rd_vF_cd h.vF hf, h.vU, h.vM, rd_vB_cd h.vB h8, rd_vX_cd h.vX h8 (by decide), rd_vC_cd h.vC (fun z => absurd z (by decide)), rd_vE_cd h.vE (fun z => absurd z (by decide)) (fun z => absurd z (by decide)), rd_vL_cd h.vL (by decide) (fun z => absurd z (by decide)), rd_vK_cd h.vK (by decide) (fun z => absurd z (by decide)), h.vD, rd_vW_cd h.vW, rd_vP_cd h.vP (fun z => absurd z (by decide)), rd_vZ_cd h.vZ (fun z => absurd z (by decide)), rd_vA_cd h.vA (Or.inl rfl), h.rbo, h.rpl, h.rdp, h.rli, h.rdm, h.rpe, rd_rng_u (j := 0) h.rcd (by omega)⟩
/-- a task leaves the row, or its queue, to fall -/
def rd_fq (Q : Nat → List Nat) (t : Nat) : Nat → List Nat := fun q => (Q q).filter (fun x => x != t)
theorem rd_vQ_fq {n : Nat} {cd cq : Nat → Int32} {Q : Nat → List Nat} {t : Nat} (h : rd_vQ n cd cq Q) : rd_vQ n cd cq (rd_fq Q t) := fun q => ⟨List.Pairwise.filter _ (h q).1, fun c hc => (h q).2 c (rd_fl_mem.mp hc).1⟩
theorem rd_fq_no {Q : Nat → List Nat} {t : Nat} (h : ∀ q, t ∉ Q q) : rd_fq Q t = Q := funext fun q => rd_fl_not (h q)
theorem rd_fq_nm {Q : Nat → List Nat} {t : Nat} : ∀ q, t ∉ rd_fq Q t q := fun _ hm => (rd_fl_mem.mp hm).2 rfl
def rd_fall (A : rd_St) (t : Nat) : rd_St := rd_sw (rd_sw A  4 t 9)  16 t (-1)
theorem rd_i_fall {n e D : Nat} {A : rd_St} {w : List Nat} {Q : Nat → List Nat} {t : Nat} (h : rd_Inv n e D A w Q) (h8 : A 4 t ≠ 8) (hf : rd_nf n (A 18) (A 19) (A 20) t) : rd_Inv n e D (rd_fall A t) (w.filter (fun x => x != t)) (rd_fq Q t) :=
  ⟨h.vG, h.vN, rd_vR_del h.vR (by decide), rd_vQ_cd (rd_vQ_fq h.vQ) rd_fq_nm, rd_vF_cd h.vF hf, h.vU, h.vM, rd_vB_cd h.vB h8, rd_vX_cd h.vX h8 (by decide), rd_vC_cd h.vC (fun z => absurd z (by decide)), rd_vE_cd h.vE (fun z => absurd z (by decide)) (fun z => absurd z (by decide)), rd_vL_cd h.vL (by decide) (fun z => absurd z (by decide)), rd_vK_cd h.vK (by decide) (fun z => absurd z (by decide)), h.vD, rd_vW_cd h.vW, rd_vP_cd h.vP (fun z => absurd z (by decide)), rd_vZ_cd h.vZ (fun z => absurd z (by decide)), rd_vA_cd h.vA (Or.inr (Or.inr (Or.inr rfl))), h.rbo, h.rpl, h.rdp, h.rli, h.rdm, h.rpe, rd_rng_u (j := 9) h.rcd (by omega)⟩
theorem rd_m1 (n : Nat) : nI (n + 1) + (-1) = nI n := by
  have e : (-1 : Int32) = -(1 : Int32) := rfl
  rw [e, ← Int32.sub_eq_add_neg]
  exact nI_pred n
end
section
/-! completing, ending, frames -/
theorem rd_i_weak {n e D : Nat} {A : rd_St} {w : List Nat} {Q : Nat → List Nat} (h : rd_Inv n 8 D A w Q) : rd_Inv n e D A w Q :=
  have h8 := h.vN.2
  ⟨h.vG, h.vN, h.vR, h.vQ, h.vF, h.vU, h.vM, h.vB, h.vX, h.vC, h.vE, fun t ht _ => h.vL t ht (by omega), fun t ht _ => h.vK t ht (by omega), h.vD, h.vW, h.vP, h.vZ, h.vA, h.rbo, h.rpl, h.rdp, h.rli, h.rdm, h.rpe, h.rcd⟩
theorem rd_i_close {n e D : Nat} {A : rd_St} {w : List Nat} {Q : Nat → List Nat} (h : rd_Inv n e D A w Q) (h6 : A 4 e = 6 → rd_lv n (A 9) (A 10) (A 4) e (A 18 e - 1)) (h7 : A 4 e = 7 → rd_lv n (A 9) (A 10) (A 4) e (-1)) : rd_Inv n 8 D A w Q :=
  ⟨h.vG, h.vN, h.vR, h.vQ, h.vF, h.vU, h.vM, h.vB, h.vX, h.vC, h.vE, fun t ht _ z => by
    by_cases y : t = e
    · rw [y] at z ⊢; exact h6 z
    · exact h.vL t ht y z, fun t ht _ z => by
    by_cases y : t = e
    · rw [y] at z ⊢; exact h7 z
    · exact h.vK t ht y z, h.vD, h.vW, h.vP, h.vZ, h.vA, h.rbo, h.rpl, h.rdp, h.rli, h.rdm, h.rpe, h.rcd⟩
theorem rd_i_cmp {n D : Nat} {A : rd_St} {w : List Nat} {Q : Nat → List Nat} {t : Nat} (h : rd_Inv n 8 D A w Q) (ht : t < n) (h9 : A 4 t = 9) (hd : A 18 t = 0) : rd_Inv n t D (rd_sw A  4 t 7) w Q :=
  have k := rd_i_weak (e := t) h
  have c1 : A 4 t ≠ 8 := by rw [h9]; decide
  have c2 : A 4 t ≠ 0 := by rw [h9]; decide
  have c3 : A 4 t ≠ 1 := by rw [h9]; decide
  have c4 : A 4 t ≠ 2 := by rw [h9]; decide
  have c5 : A 4 t ≠ 4 := by rw [h9]; decide
  have c6 : A 4 t ≠ 5 := by rw [h9]; decide
  ⟨h.vG, h.vN, rd_vR_oth h.vR c2 (by decide), rd_vQ_cd h.vQ (rd_vQ_no h.vQ c3), rd_vF_cd h.vF (rd_nf_of h.vN.2 h.vF ht c4), h.vU, h.vM, rd_vB_cd h.vB c1, rd_vX_cd h.vX c1 (by decide), rd_vC_cd h.vC (fun _ => hd), rd_vE_cd h.vE (fun z => absurd z (by decide)) (fun z => absurd z (by decide)), rd_vL_cd k.vL (by decide) (fun z => absurd z (by decide)), rd_vK_cd k.vK (by decide) (fun _ => rfl), h.vD, rd_vW_cd' h.vW (rd_wk0 (A := A) h ht ⟨c3, c6, c5⟩), rd_vP_cd h.vP (fun z => absurd z (by decide)), rd_vZ_cd h.vZ (fun z => absurd z (by decide)), rd_vA_cd h.vA (Or.inr (Or.inl rfl)), h.rbo, h.rpl, h.rdp, h.rli, h.rdm, h.rpe, rd_rng_u (j := 7) h.rcd (by omega)⟩
/-- a completed task for which nothing lives ends; what is left to look at is the one that it depends on -/
theorem rd_i_term {n D : Nat} {A : rd_St} {w : List Nat} {Q : Nat → List Nat} {t e : Nat} (h : rd_Inv n t D A w Q) (ht : t < n) (h7 : A 4 t = 7) (hl : ¬ rd_lv n (A 9) (A 10) (A 4) t (-1)) (he : ∀ m, m < n → A 9 t = nI m → m = e) : rd_Inv n e D (rd_sw A  4 t 8) w Q := by
  have c1 : A 4 t ≠ 8 := by rw [h7]; decide
  have c2 : A 4 t ≠ 0 := by rw [h7]; decide
  have c3 : A 4 t ≠ 1 := by rw [h7]; decide
  have c4 : A 4 t ≠ 2 := by rw [h7]; decide
  have c5 : A 4 t ≠ 4 := by rw [h7]; decide
  have c6 : A 4 t ≠ 5 := by rw [h7]; decide
  have c7 : A 4 t ≠ 6 := by rw [h7]; decide
  have h8 := h.vN.2
  have hd : A 18 t = 0 := h.vC t ht (Or.inl h7)
  have live : ∀ k b, k < n → k ≠ e → k ≠ t → rd_lv n (A 9) (A 10) (A 4) k b → rd_lv n (A 9) (A 10) (upd (A 4) t 8) k b := by
    rintro k b hk hke hkt ⟨u, hu, e1, e2, e3⟩
    refine ⟨u, hu, e1, e2, ?_⟩
    rw [rd_un]
    · exact e3
    · intro z
      subst z
      exact hke (he k hk e1)
  refine ⟨h.vG, h.vN, rd_vR_oth h.vR c2 (by decide), rd_vQ_cd h.vQ (rd_vQ_no h.vQ c3), rd_vF_cd h.vF (rd_nf_of h8 h.vF ht c4), h.vU, h.vM, rd_vB_cd h.vB c1, ?_, rd_vC_cd h.vC (fun _ => hd), rd_vE_cd h.vE (fun z => absurd z (by decide)) (fun z => absurd z (by decide)), ?_, ?_, h.vD, rd_vW_cd' h.vW (rd_wk0 (A := A) h ht ⟨c3, c6, c5⟩), rd_vP_cd h.vP (fun z => absurd z (by decide)), rd_vZ_cd h.vZ (fun z => absurd z (by decide)), rd_vA_cd h.vA (Or.inr (Or.inr (Or.inl rfl))), h.rbo, h.rpl, h.rdp, h.rli, h.rdm, h.rpe, rd_rng_u (j := 8) h.rcd (by omega)⟩
  · intro u hu m hm e1 e2
    show upd (A 4) t 8 u = 8
    have e2 : upd (A 4) t 8 m = 8 := e2
    by_cases y : u = t
    · rw [y, rd_us]
    · rw [rd_un y]
      by_cases z : m = t
      · subst z
        apply Classical.byContradiction
        intro g
        rcases h.vB u hu g with x | ⟨m', l, hm', f1, f2, f3, f4⟩
        · exact hl ⟨u, hu, e1, x, g⟩
        · have : m' = m := rd_inj (by omega) (by omega) (f1.symm.trans e1)
          subst this
          rw [hd] at f3
          have : (0 : Int32).toNatClampNeg = 0 := by decide
          omega
      · rw [rd_un z] at e2
        exact h.vX u hu m hm e1 e2
  · intro k hk hke f
    have f : upd (A 4) t 8 k = 6 := f
    by_cases y : k = t
    · rw [y, rd_us] at f; exact absurd f (by decide)
    · rw [rd_un y] at f
      exact live k _ hk hke y (h.vL k hk y f)
  · intro k hk hke f
    have f : upd (A 4) t 8 k = 7 := f
    by_cases y : k = t
    · rw [y, rd_us] at f; exact absurd f (by decide)
    · rw [rd_un y] at f
      exact live k _ hk hke y (h.vK k hk y f)
/-! frames -/
theorem rd_cl {x : Int32} {d : Nat} (h : x = nI d) (hd : d < 2 ^ 31) : x.toNatClampNeg = d := by rw [h]; exact nI_clamp hd
theorem rd_i_push {n e D : Nat} {A : rd_St} {w : List Nat} {Q : Nat → List Nat} {t d : Nat} {k v : Int32} (h : rd_Inv n e D A w Q) (ht : t < n) (hd : A 18 t = nI d) (hd8 : d < 8) (hc : A 4 t ≠ 6 ∧ A 4 t ≠ 7 ∧ A 4 t ≠ 8 ∧ A 4 t ≠ 3 ∧ A 4 t ≠ 4) (hk : k = 0 ∨ (k = 1 ∧ ∃ c, c < n ∧ v = nI c ∧ A 4 c = 2 ∧ rd_nf n (A 18) (A 19) (A 20) c) ∨ (k = 2 ∧ ∃ p, p ≤ 20 ∧ v = nI p)) : rd_Inv n e D (rd_sw (rd_sw (rd_sw A  19 (8 * t + d) k)  20 (8 * t + d) v)  18 t (nI (d + 1))) w Q := by
  have h8 := h.vN.2
  have old : ∀ u, u < n → ∀ l, l < (upd (A 18) t (nI (d + 1)) u).toNatClampNeg → (u = t ∧ l = d) ∨ (l < (A 18 u).toNatClampNeg ∧ 8 * u + l ≠ 8 * t + d) := by
    intro u hu l hl
    by_cases y : u = t
    · subst y
      rw [rd_us, nI_clamp (by omega)] at hl
      by_cases z : l = d
      · exact Or.inl ⟨rfl, z⟩
      · refine Or.inr ⟨?_, by omega⟩
        rw [rd_cl hd (by omega)]; omega
    · rw [rd_un y] at hl
      obtain ⟨x, hx, e1, e2⟩ := rd_dpos h hu
      exact Or.inr ⟨hl, by omega⟩
  refine ⟨h.vG, h.vN, h.vR, h.vQ, ?_, ?_, h.vM, ?_, h.vX, ?_, ?_, ?_, h.vK, h.vD, h.vW, h.vP, h.vZ, h.vA, h.rbo, h.rpl, rd_rng_u h.rdp (by omega), h.rli, h.rdm, h.rpe, h.rcd⟩
  · intro u hu l hl
    show upd (A 19) (8 * t + d) k (8 * u + l) = 0 ∨ (upd (A 19) (8 * t + d) k (8 * u + l) = 1 ∧ ∃ c, c < n ∧ upd (A 20) (8 * t + d) v (8 * u + l) = nI c ∧ A 4 c = 2) ∨ (upd (A 19) (8 * t + d) k (8 * u + l) = 2 ∧ ∃ p, p ≤ 20 ∧ upd (A 20) (8 * t + d) v (8 * u + l) = nI p)
    rcases old u hu l hl with ⟨y, z⟩ | ⟨y, z⟩
    · subst y; subst z
      rw [rd_us, rd_us]
      rcases hk with a | ⟨a, c, b1, b2, b3, _⟩ | a
      · exact Or.inl a
      · exact Or.inr (Or.inl ⟨a, c, b1, b2, b3⟩)
      · exact Or.inr (Or.inr a)
    · rw [rd_un z, rd_un z]; exact h.vF u hu l y
  · intro u hu s hs l hl m hm
    show upd (A 19) (8 * t + d) k (8 * u + l) = 1 → upd (A 19) (8 * t + d) k (8 * s + m) = 1 → upd (A 20) (8 * t + d) v (8 * u + l) = upd (A 20) (8 * t + d) v (8 * s + m) → u = s ∧ l = m
    intro f1 f2 f3
    rcases old u hu l hl with ⟨y, z⟩ | ⟨y, z⟩
    · rcases old s hs m hm with ⟨y', z'⟩ | ⟨y', z'⟩
      · exact ⟨y.trans y'.symm, z.trans z'.symm⟩
      · subst y; subst z
        rw [rd_us] at f1 f3
        rw [rd_un z'] at f2 f3
        rcases hk with a | ⟨a, c, b1, b2, b3, b4⟩ | a
        · rw [a] at f1; exact absurd f1 (by decide)
        · exact absurd (f3.symm.trans b2) (b4 s hs m y' f2)
        · rw [a.1] at f1; exact absurd f1 (by decide)
    · rcases old s hs m hm with ⟨y', z'⟩ | ⟨y', z'⟩
      · subst y'; subst z'
        rw [rd_us] at f2 f3
        rw [rd_un z] at f1 f3
        rcases hk with a | ⟨a, c, b1, b2, b3, b4⟩ | a
        · rw [a] at f2; exact absurd f2 (by decide)
        · exact absurd (f3.trans b2) (b4 u hu l y f1)
        · rw [a.1] at f2; exact absurd f2 (by decide)
      · rw [rd_un z] at f1 f3
        rw [rd_un z'] at f2 f3
        exact h.vU u hu s hs l y m y' f1 f2 f3
  · intro u hu hcu
    rcases h.vB u hu hcu with a | ⟨m, l, hm, b1, b2, b3, b4⟩
    · exact Or.inl a
    · obtain ⟨x, hx, e1, e2⟩ := rd_dpos h hm
      refine Or.inr ⟨m, l, hm, b1, b2, ?_, ?_⟩
      · show l < (upd (A 18) t (nI (d + 1)) m).toNatClampNeg
        by_cases y : m = t
        · subst y
          rw [rd_us, nI_clamp (by omega)]
          rw [rd_cl hd (by omega)] at b3
          omega
        · rw [rd_un y]; exact b3
      · show upd (A 19) (8 * t + d) k (8 * m + l) = 0
        rw [rd_un]
        · exact b4
        · intro z
          have : m = t ∧ l = d := by omega
          obtain ⟨y, y'⟩ := this
          subst y
          rw [rd_cl hd (by omega)] at b3
          omega
  · intro u hu f
    show upd (A 18) t (nI (d + 1)) u = 0
    rw [rd_un]
    · exact h.vC u hu f
    · intro y
      subst y
      rcases f with f | f
      · exact hc.2.1 f
      · exact hc.2.2.1 f
  · intro u hu
    refine ⟨fun f => ?_, fun f => ?_⟩
    · have y : u ≠ t := by intro y; subst y; exact hc.1 f
      obtain ⟨x, hx, e1, e2⟩ := (h.vE u hu).1 f
      refine ⟨x, hx, ?_, ?_⟩
      · show upd (A 18) t (nI (d + 1)) u = _
        rw [rd_un y]; exact e1
      · show upd (A 19) (8 * t + d) k (8 * u + x) = 0
        rw [rd_un (by omega)]; exact e2
    · have y : u ≠ t := by
        intro y; subst y
        rcases f with f | f
        · exact hc.2.2.2.1 f
        · exact hc.2.2.2.2 f
      obtain ⟨x, hx, e1⟩ := (h.vE u hu).2 f
      refine ⟨x, hx, ?_⟩
      show upd (A 18) t (nI (d + 1)) u = _
      rw [rd_un y]; exact e1
  · intro u hu he f
    have y : u ≠ t := by intro y; subst y; exact hc.1 f
    show rd_lv n (A 9) (A 10) (A 4) u (upd (A 18) t (nI (d + 1)) u - 1)
    rw [rd_un y]; exact h.vL u hu he f
theorem rd_i_pop {n e D : Nat} {A : rd_St} {w : List Nat} {Q : Nat → List Nat} {t d : Nat} (h : rd_Inv n e D A w Q) (ht : t < n) (hd : A 18 t = nI (d + 1)) (hd8 : d < 8) (h6 : A 4 t ≠ 6) (hb : A 19 (8 * t + d) ≠ 0 ∨ ¬ rd_lv n (A 9) (A 10) (A 4) t (nI d)) : rd_Inv n e D (rd_sw A  18 t (nI d)) w Q := by
  have h8 := h.vN.2
  have old : ∀ u, u < n → ∀ l, l < (upd (A 18) t (nI d) u).toNatClampNeg → l < (A 18 u).toNatClampNeg := by
    intro u hu l hl
    by_cases y : u = t
    · subst y
      rw [rd_us, nI_clamp (by omega)] at hl
      rw [rd_cl hd (by omega)]; omega
    · rw [rd_un y] at hl; exact hl
  refine ⟨h.vG, h.vN, h.vR, h.vQ, fun u hu l hl => h.vF u hu l (old u hu l hl), fun u hu s hs l hl k hk => h.vU u hu s hs l (old u hu l hl) k (old s hs k hk), h.vM, ?_, h.vX, ?_, ?_, ?_, h.vK, h.vD, h.vW, h.vP, h.vZ, h.vA, h.rbo, h.rpl, rd_rng_u h.rdp (by omega), h.rli, h.rdm, h.rpe, h.rcd⟩
  · intro u hu hcu
    rcases h.vB u hu hcu with a | ⟨m, l, hm, b1, b2, b3, b4⟩
    · exact Or.inl a
    · refine Or.inr ⟨m, l, hm, b1, b2, ?_, b4⟩
      show l < (upd (A 18) t (nI d) m).toNatClampNeg
      by_cases y : m = t
      · subst y
        rw [rd_us, nI_clamp (by omega)]
        rw [rd_cl hd (by omega)] at b3
        have : l ≠ d := by
          intro z
          subst z
          rcases hb with hb | hb
          · exact hb b4
          · exact hb ⟨u, hu, b1, b2, hcu⟩
        omega
      · rw [rd_un y]; exact b3
  · intro u hu f
    have y : u ≠ t := by
      intro y; subst y
      have := h.vC u hu f
      rw [hd] at this
      exact absurd this (nI_ne0 (by omega) (by omega))
    show upd (A 18) t (nI d) u = 0
    rw [rd_un y]; exact h.vC u hu f
  · intro u hu
    refine ⟨fun f => ?_, fun f => ?_⟩
    · have y : u ≠ t := by intro y; subst y; exact h6 f
      obtain ⟨x, hx, e1, e2⟩ := (h.vE u hu).1 f
      refine ⟨x, hx, ?_, e2⟩
      show upd (A 18) t (nI d) u = _
      rw [rd_un y]; exact e1
    · by_cases y : u = t
      · subst y
        exact ⟨d, hd8, rd_us⟩
      · obtain ⟨x, hx, e1⟩ := (h.vE u hu).2 f
        refine ⟨x, hx, ?_⟩
        show upd (A 18) t (nI d) u = _
        rw [rd_un y]; exact e1
  · intro u hu he f
    have y : u ≠ t := by intro y; subst y; exact h6 f
    show rd_lv n (A 9) (A 10) (A 4) u (upd (A 18) t (nI d) u - 1)
    rw [rd_un y]; exact h.vL u hu he f
/-- the children at a block that goes depend on the task itself -/
def rd_re (n : Nat) (ma mb : Nat → Int32) (t d : Nat) : Nat → Int32 := fun u => if u < n ∧ ma u = nI t ∧ mb u = nI d then -1 else mb u
theorem rd_i_re {n e D : Nat} {A : rd_St} {w : List Nat} {Q : Nat → List Nat} {t d : Nat} (h : rd_Inv n e D A w Q) (ht : t < n) (hd8 : d < 8) (h6 : A 4 t = 9) : rd_Inv n e D (rd_sa A  10 (rd_re n (A 9) (A 10) t d)) w Q := by
  have h8 := h.vN.2
  have live : ∀ k b, k < n → k ≠ t → rd_lv n (A 9) (A 10) (A 4) k b → rd_lv n (A 9) (rd_re n (A 9) (A 10) t d) (A 4) k b := by
    rintro k b hk hkt ⟨u, hu, e1, e2, e3⟩
    refine ⟨u, hu, e1, ?_, e3⟩
    unfold rd_re
    rw [if_neg]
    · exact e2
    · rintro ⟨_, y, _⟩
      exact hkt (rd_inj (by omega) (by omega) (e1.symm.trans y))
  refine ⟨h.vG, h.vN, h.vR, h.vQ, h.vF, h.vU, h.vM, ?_, h.vX, h.vC, h.vE, ?_, ?_, h.vD, h.vW, h.vP, h.vZ, h.vA, h.rbo, h.rpl, h.rdp, h.rli, h.rdm, h.rpe, h.rcd⟩
  · intro u hu hcu
    show rd_re n (A 9) (A 10) t d u = -1 ∨ ∃ m l, m < n ∧ A 9 u = nI m ∧ rd_re n (A 9) (A 10) t d u = nI l ∧ l < (A 18 m).toNatClampNeg ∧ A 19 (8 * m + l) = 0
    unfold rd_re
    by_cases y : u < n ∧ A 9 u = nI t ∧ A 10 u = nI d
    · rw [if_pos y]; exact Or.inl rfl
    · rw [if_neg y]; exact h.vB u hu hcu
  · intro k hk hke f
    have y : k ≠ t := by
      intro y; subst y
      have f : A 4 k = 6 := f
      rw [h6] at f; exact absurd f (by decide)
    exact live k _ hk y (h.vL k hk hke f)
  · intro k hk hke f
    have y : k ≠ t := by
      intro y; subst y
      have f : A 4 k = 7 := f
      rw [h6] at f; exact absurd f (by decide)
    exact live k _ hk y (h.vK k hk hke f)
/-! places, exceptions, numbers -/
theorem rd_i_pl {n e D : Nat} {A : rd_St} {w : List Nat} {Q : Nat → List Nat} {t p : Nat} (h : rd_Inv n e D A w Q) (ht : t < n) (hp : p ≤ 21) (hc : A 4 t = 0 ∨ A 4 t = 7 ∨ A 4 t = 8 ∨ A 4 t = 9) : rd_Inv n e D (rd_sw A  5 t (nI p)) w Q := by
  have c0 : ∀ s : Int32, s = 1 ∨ s = 2 ∨ s = 3 ∨ s = 4 ∨ s = 5 ∨ s = 6 → A 4 t ≠ s := by
    intro s hs
    rcases hc with e | e | e | e <;> rw [e] <;> rcases hs with z | z | z | z | z | z <;> rw [z] <;> decide
  have hw := rd_wk0 h ht ⟨c0 1 (by simp), c0 5 (by simp), c0 4 (by simp)⟩
  refine ⟨h.vG, h.vN, h.vR, h.vQ, h.vF, h.vU, h.vM, h.vB, h.vX, h.vC, h.vE, h.vL, h.vK, h.vD, ?_, h.vP, h.vZ, ?_, h.rbo, rd_rng_u h.rpl hp, h.rdp, h.rli, h.rdm, h.rpe, h.rcd⟩
  · intro u hu
    by_cases y : u = t
    · rw [y]; exact Or.inl hw
    · show A 16 u = -1 ∨ ((∃ x, x ≤ 99 * D ∧ A 16 u = nI x) ∧ (∃ y, y ≤ 21 ∧ A 17 u = nI y) ∧ (A 4 u = 1 ∧ A 17 u = upd (A 5) t (nI p) u + 2 ∨ A 4 u = 5 ∧ A 17 u = upd (A 5) t (nI p) u + 1 ∨ A 4 u = 4 ∧ ∃ b p' i, (b < 4 ∧ p' ≤ 21) ∧ A 8 u = nI b ∧ upd (A 5) t (nI p) u = nI p' ∧ rd_oth (A 0) (A 3) b p' = some i ∧ A 17 u = A 1 (20 * b + i)))
      rw [rd_un y]; exact h.vW u hu
  · intro u hu
    by_cases y : u = t
    · subst y
      refine ⟨fun f => ?_, fun f => absurd f (c0 4 (by simp))⟩
      rcases f with f | f | f | f | f
      · exact absurd f (c0 1 (by simp))
      · exact absurd f (c0 2 (by simp))
      · exact absurd f (c0 3 (by simp))
      · exact absurd f (c0 5 (by simp))
      · exact absurd f.1 (c0 6 (by simp))
    · have := h.vA u hu
      refine ⟨fun f => ?_, fun f => ?_⟩
      · show ∃ p', p' < 20 ∧ upd (A 5) t (nI p) u = nI p'
        rw [rd_un y]; exact this.1 f
      · show ∃ b p', p' < 20 ∧ b < 4 ∧ A 8 u = nI b ∧ upd (A 5) t (nI p) u = nI p' ∧ A 14 u = if (rd_oth (A 0) (A 3) b p').any (fun i => decide (rd_op (A 0) (A 3) b i = 20)) then 1 else 0
        rw [rd_un y]; exact this.2 f
theorem rd_i_pe {n e D : Nat} {A : rd_St} {w : List Nat} {Q : Nat → List Nat} {t c : Nat} (h : rd_Inv n e D A w Q) (ht : t < n) (hp : c ≤ 14) (hc : A 4 t = 0 ∨ A 4 t = 7 ∨ A 4 t = 8 ∨ A 4 t = 9 ∨ (A 4 t = 6 ∧ c ≠ 0)) : rd_Inv n e D (rd_sw A  12 t (nI c)) w Q := by
  refine ⟨h.vG, h.vN, h.vR, h.vQ, h.vF, h.vU, h.vM, h.vB, h.vX, h.vC, h.vE, h.vL, h.vK, h.vD, h.vW, ?_, h.vZ, ?_, h.rbo, h.rpl, h.rdp, h.rli, h.rdm, rd_rng_u h.rpe hp, h.rcd⟩
  · intro u hu f
    by_cases y : u = t
    · subst y
      have f : A 4 u = 1 ∨ A 4 u = 2 ∨ A 4 u = 3 ∨ A 4 u = 4 ∨ A 4 u = 5 := f
      rcases hc with z | z | z | z | ⟨z, _⟩ <;> rw [z] at f <;> exact absurd f (by decide)
    · show upd (A 12) t (nI c) u = 0
      rw [rd_un y]; exact h.vP u hu f
  · intro u hu
    refine ⟨fun f => ?_, (h.vA u hu).2⟩
    by_cases y : u = t
    · subst y
      have f : A 4 u = 1 ∨ A 4 u = 2 ∨ A 4 u = 3 ∨ A 4 u = 5 ∨ (A 4 u = 6 ∧ upd (A 12) u (nI c) u = 0) := f
      rw [rd_us] at f
      rcases hc with z | z | z | z | ⟨z, z'⟩ <;> rw [z] at f
      · exact absurd f (by simp)
      · exact absurd f (by simp)
      · exact absurd f (by simp)
      · exact absurd f (by simp)
      · have : nI c = 0 := by
          rcases f with f | f | f | f | f
          · exact absurd f (by decide)
          · exact absurd f (by decide)
          · exact absurd f (by decide)
          · exact absurd f (by decide)
          · exact f.2
        exact absurd this (nI_ne0 (by omega) (by omega))
    · apply (h.vA u hu).1
      have f : A 4 u = 1 ∨ A 4 u = 2 ∨ A 4 u = 3 ∨ A 4 u = 5 ∨ (A 4 u = 6 ∧ upd (A 12) t (nI c) u = 0) := f
      rw [rd_un y] at f
      exact f
end
section
/-! waiting, queues, new tasks, weights -/
theorem rd_sw_sw {A : rd_St} {k i : Nat} {x y : Int32} : rd_sw (rd_sw A k i x) k i y = rd_sw A k i y := by
  funext j
  simp only [rd_sw_ap]
  by_cases e : j = k
  · subst e; simp [rd_uu]
  · simp [e]
theorem rd_sw_eq {A : rd_St} {k i : Nat} {x : Int32} (h : A k i = x) : rd_sw A k i x = A := by
  funext j
  rw [rd_sw_ap]
  by_cases e : j = k
  · rw [if_pos e, rd_ue h, e]
  · rw [if_neg e]
theorem rd_i_wait {n D : Nat} {A : rd_St} {w : List Nat} {Q : Nat → List Nat} {t s : Nat} (h : rd_Inv n 8 D A w Q) (ht : t < n) (h0 : A 4 t = 0) (hs : s = 1 ∨ s = 2 ∨ s = 3 ∨ s = 5) (hp : ∃ p, p < 20 ∧ A 5 t = nI p) (he : A 12 t = 0) (h3 : nI s = 3 ∨ nI s = 4 → ∃ d, d < 8 ∧ A 18 t = nI d) (hz : nI s = 1 → ∃ q, q < 3 * n ∧ A 15 t = nI q) : rd_Inv n 8 D (rd_sw A  4 t (nI s)) (w.filter (fun x => x != t)) Q := by
  have c1 : A 4 t ≠ 8 := by rw [h0]; decide
  have c3 : A 4 t ≠ 1 := by rw [h0]; decide
  have c4 : A 4 t ≠ 2 := by rw [h0]; decide
  have c5 : A 4 t ≠ 4 := by rw [h0]; decide
  have c6 : A 4 t ≠ 5 := by rw [h0]; decide
  have ne : ∀ k : Nat, k = 0 ∨ k = 4 ∨ k = 6 ∨ k = 7 ∨ k = 8 → nI s ≠ nI k := by
    intro k hk e
    have := rd_inj (by omega) (by omega) e
    omega
  have n0 : nI s ≠ 0 := ne 0 (by simp)
  have n4 : nI s ≠ 4 := ne 4 (by simp)
  have n6 : nI s ≠ 6 := ne 6 (by simp)
  have n7 : nI s ≠ 7 := ne 7 (by simp)
  have n8 : nI s ≠ 8 := ne 8 (by simp)
  exact ⟨h.vG, h.vN, rd_vR_del h.vR n0, rd_vQ_cd h.vQ (rd_vQ_no h.vQ c3), rd_vF_cd h.vF (rd_nf_of h.vN.2 h.vF ht c4), h.vU, h.vM, rd_vB_cd h.vB c1, rd_vX_cd h.vX c1 n8, rd_vC_cd h.vC (fun z => z.elim (fun z => absurd z n7) (fun z => absurd z n8)), rd_vE_cd h.vE (fun z => absurd z n6) h3, rd_vL_cd h.vL n8 (fun z => absurd z n6), rd_vK_cd h.vK n8 (fun z => absurd z n7), h.vD, rd_vW_cd' h.vW (rd_wk0 (A := A) h ht ⟨c3, c6, c5⟩), rd_vP_cd h.vP (fun _ => he), rd_vZ_cd h.vZ hz, rd_vA_cp h.vA n4 hp, h.rbo, h.rpl, h.rdp, h.rli, h.rdm, h.rpe, rd_rng_u h.rcd (by omega)⟩
theorem rd_i_leav {n D : Nat} {A : rd_St} {w : List Nat} {Q : Nat → List Nat} {t d : Nat} (h : rd_Inv n 8 D A w Q) (ht : t < n) (h0 : A 4 t = 0) (hd : d < 8) (hdp : A 18 t = nI (d + 1)) (hk : A 19 (8 * t + d) = 0) (hl : rd_lv n (A 9) (A 10) (A 4) t (nI d)) (hp : A 12 t = 0 → ∃ p, p < 20 ∧ A 5 t = nI p) : rd_Inv n 8 D (rd_sw A  4 t 6) (w.filter (fun x => x != t)) Q := by
  have c1 : A 4 t ≠ 8 := by rw [h0]; decide
  have c3 : A 4 t ≠ 1 := by rw [h0]; decide
  have c4 : A 4 t ≠ 2 := by rw [h0]; decide
  have c5 : A 4 t ≠ 4 := by rw [h0]; decide
  have c6 : A 4 t ≠ 5 := by rw [h0]; decide
  refine ⟨h.vG, h.vN, rd_vR_del h.vR (by decide), rd_vQ_cd h.vQ (rd_vQ_no h.vQ c3), rd_vF_cd h.vF (rd_nf_of h.vN.2 h.vF ht c4), h.vU, h.vM, rd_vB_cd h.vB c1, rd_vX_cd h.vX c1 (by decide), rd_vC_cd h.vC (fun z => absurd z (by decide)), rd_vE_cd h.vE (fun _ => ⟨d, hd, hdp, hk⟩) (fun z => absurd z (by decide)), rd_vL_cd h.vL (by decide) (fun _ _ => by show rd_lv n (A 9) (A 10) (A 4) t (A 18 t - 1); rw [hdp, nI_pred]; exact hl), rd_vK_cd h.vK (by decide) (fun z => absurd z (by decide)), h.vD, rd_vW_cd' h.vW (rd_wk0 (A := A) h ht ⟨c3, c6, c5⟩), rd_vP_cd h.vP (fun z => absurd z (by decide)), rd_vZ_cd h.vZ (fun z => absurd z (by decide)), ?_, h.rbo, h.rpl, h.rdp, h.rli, h.rdm, h.rpe, rd_rng_u (j := 6) h.rcd (by omega)⟩
  intro u hu
  by_cases z : u = t
  · subst z
    refine ⟨fun f => ?_, fun f => ?_⟩
    · have f : upd (A 4) u 6 u = 1 ∨ upd (A 4) u 6 u = 2 ∨ upd (A 4) u 6 u = 3 ∨ upd (A 4) u 6 u = 5 ∨ (upd (A 4) u 6 u = 6 ∧ A 12 u = 0) := f
      rw [rd_us] at f
      rcases f with f | f | f | f | f
      · exact absurd f (by decide)
      · exact absurd f (by decide)
      · exact absurd f (by decide)
      · exact absurd f (by decide)
      · exact hp f.2
    · have f : upd (A 4) u 6 u = 4 := f
      rw [rd_us] at f
      exact absurd f (by decide)
  · have := h.vA u hu
    have e : upd (A 4) t 6 u = A 4 u := rd_un z
    refine ⟨fun f => this.1 ?_, fun f => this.2 ?_⟩
    · have f : upd (A 4) t 6 u = 1 ∨ upd (A 4) t 6 u = 2 ∨ upd (A 4) t 6 u = 3 ∨ upd (A 4) t 6 u = 5 ∨ (upd (A 4) t 6 u = 6 ∧ A 12 u = 0) := f
      rw [e] at f
      exact f
    · have f : upd (A 4) t 6 u = 4 := f
      rw [e] at f
      exact f
theorem rd_i_sel {n D : Nat} {A : rd_St} {w : List Nat} {Q : Nat → List Nat} {t b p : Nat} {x : Int32} (h : rd_Inv n 8 D A w Q) (ht : t < n) (h0 : A 4 t = 0) (hp : p < 20) (hpl : A 5 t = nI p) (hb : b < 4) (hbo : A 8 t = nI b) (he : A 12 t = 0) (hd : ∃ d, d < 8 ∧ A 18 t = nI d) (hx : x = if (rd_oth (A 0) (A 3) b p).any (fun i => decide (rd_op (A 0) (A 3) b i = 20)) then 1 else 0) : rd_Inv n 8 D (rd_sw (rd_sw A  4 t 4)  14 t x) (w.filter (fun x => x != t)) Q := by
  have c1 : A 4 t ≠ 8 := by rw [h0]; decide
  have c3 : A 4 t ≠ 1 := by rw [h0]; decide
  have c4 : A 4 t ≠ 2 := by rw [h0]; decide
  have c5 : A 4 t ≠ 4 := by rw [h0]; decide
  have c6 : A 4 t ≠ 5 := by rw [h0]; decide
  refine ⟨h.vG, h.vN, rd_vR_del h.vR (by decide), rd_vQ_cd h.vQ (rd_vQ_no h.vQ c3), rd_vF_cd h.vF (rd_nf_of h.vN.2 h.vF ht c4), h.vU, h.vM, rd_vB_cd h.vB c1, rd_vX_cd h.vX c1 (by decide), rd_vC_cd h.vC (fun z => absurd z (by decide)), rd_vE_cd h.vE (fun z => absurd z (by decide)) (fun _ => hd), rd_vL_cd h.vL (by decide) (fun z => absurd z (by decide)), rd_vK_cd h.vK (by decide) (fun z => absurd z (by decide)), h.vD, rd_vW_cd' h.vW (rd_wk0 (A := A) h ht ⟨c3, c6, c5⟩), rd_vP_cd h.vP (fun _ => he), rd_vZ_cd h.vZ (fun z => absurd z (by decide)), ?_, h.rbo, h.rpl, h.rdp, h.rli, h.rdm, h.rpe, rd_rng_u (j := 4) h.rcd (by omega)⟩
  intro u hu
  by_cases z : u = t
  · subst z
    refine ⟨fun _ => ⟨p, hp, hpl⟩, fun _ => ⟨b, p, hp, hb, hbo, hpl, ?_⟩⟩
    show upd (A 14) u x u = _
    rw [rd_us]; exact hx
  · have := h.vA u hu
    have e : upd (A 4) t 4 u = A 4 u := rd_un z
    have e2 : upd (A 14) t x u = A 14 u := rd_un z
    refine ⟨fun f => this.1 ?_, fun f => ?_⟩
    · have f : upd (A 4) t 4 u = 1 ∨ upd (A 4) t 4 u = 2 ∨ upd (A 4) t 4 u = 3 ∨ upd (A 4) t 4 u = 5 ∨ (upd (A 4) t 4 u = 6 ∧ A 12 u = 0) := f
      rw [e] at f
      exact f
    · have f : upd (A 4) t 4 u = 4 := f
      rw [e] at f
      obtain ⟨b', p', g1, g2, g3, g4, g5⟩ := this.2 f
      exact ⟨b', p', g1, g2, g3, g4, e2.trans g5⟩
theorem rd_i_wake {n e D : Nat} {A : rd_St} {w : List Nat} {Q : Nat → List Nat} {t x : Nat} {y : Int32} (h : rd_Inv n e D A w Q) (hx : x ≤ 99 * D) (hy : ∃ y', y' ≤ 21 ∧ y = nI y') (hc : A 4 t = 1 ∧ y = A 5 t + 2 ∨ A 4 t = 5 ∧ y = A 5 t + 1 ∨ A 4 t = 4 ∧ ∃ b p i, (b < 4 ∧ p ≤ 21) ∧ A 8 t = nI b ∧ A 5 t = nI p ∧ rd_oth (A 0) (A 3) b p = some i ∧ y = A 1 (20 * b + i)) : rd_Inv n e D (rd_sw (rd_sw A  16 t (nI x))  17 t y) w Q := by
  refine ⟨h.vG, h.vN, h.vR, h.vQ, h.vF, h.vU, h.vM, h.vB, h.vX, h.vC, h.vE, h.vL, h.vK, h.vD, ?_, h.vP, h.vZ, h.vA, h.rbo, h.rpl, h.rdp, h.rli, h.rdm, h.rpe, h.rcd⟩
  intro u hu
  show upd (A 16) t (nI x) u = -1 ∨ ((∃ x', x' ≤ 99 * D ∧ upd (A 16) t (nI x) u = nI x') ∧ (∃ y', y' ≤ 21 ∧ upd (A 17) t y u = nI y') ∧ (A 4 u = 1 ∧ upd (A 17) t y u = A 5 u + 2 ∨ A 4 u = 5 ∧ upd (A 17) t y u = A 5 u + 1 ∨ A 4 u = 4 ∧ ∃ b p i, (b < 4 ∧ p ≤ 21) ∧ A 8 u = nI b ∧ A 5 u = nI p ∧ rd_oth (A 0) (A 3) b p = some i ∧ upd (A 17) t y u = A 1 (20 * b + i)))
  by_cases z : u = t
  · subst z
    rw [rd_us, rd_us]
    exact Or.inr ⟨⟨x, hx, rfl⟩, hy, hc⟩
  · rw [rd_un z, rd_un z]; exact h.vW u hu
def rd_pq (Q : Nat → List Nat) (k t : Nat) : Nat → List Nat := fun q => if q = k then Q k ++ [t] else Q q
theorem rd_i_cq {n e D : Nat} {A : rd_St} {w : List Nat} {Q : Nat → List Nat} {t : Nat} {x : Int32} (h : rd_Inv n e D A w Q) (h1 : A 4 t ≠ 1) : rd_Inv n e D (rd_sw A  15 t x) w Q := by
  refine ⟨h.vG, h.vN, h.vR, ?_, h.vF, h.vU, h.vM, h.vB, h.vX, h.vC, h.vE, h.vL, h.vK, h.vD, h.vW, h.vP, ?_, h.vA, h.rbo, h.rpl, h.rdp, h.rli, h.rdm, h.rpe, h.rcd⟩
  · intro q
    refine ⟨(h.vQ q).1, fun c hc => ?_⟩
    obtain ⟨a1, a2, a3, a4⟩ := (h.vQ q).2 c hc
    refine ⟨a1, a2, ?_, a4⟩
    show upd (A 15) t x c = nI q
    have y : c ≠ t := fun y => h1 (by rw [← y]; exact a2)
    rw [rd_un y]
    exact a3
  · intro u hu f
    show ∃ q, q < 3 * n ∧ upd (A 15) t x u = nI q
    have y : u ≠ t := fun y => h1 (by rw [← y]; exact f)
    rw [rd_un y]
    exact h.vZ u hu f
theorem rd_i_enq {n e D : Nat} {A : rd_St} {w : List Nat} {Q : Nat → List Nat} {t k : Nat} (h : rd_Inv n e D A w Q) (ht : t < n) (h1 : A 4 t = 1) (hq : ∀ q, t ∉ Q q) (hk : k < 3 * n) (hc : A 15 t = nI k) : rd_Inv n e D A w (rd_pq Q k t) := by
  refine ⟨h.vG, h.vN, h.vR, ?_, h.vF, h.vU, h.vM, h.vB, h.vX, h.vC, h.vE, h.vL, h.vK, h.vD, h.vW, h.vP, h.vZ, h.vA, h.rbo, h.rpl, h.rdp, h.rli, h.rdm, h.rpe, h.rcd⟩
  intro q
  unfold rd_pq
  by_cases z : q = k
  · subst z
    rw [if_pos rfl]
    refine ⟨?_, fun c hc' => ?_⟩
    · rw [List.nodup_append]
      refine ⟨(h.vQ q).1, by simp, ?_⟩
      intro a ha b hb
      simp at hb
      subst hb
      intro y
      subst y
      exact hq q ha
    · rw [List.mem_append] at hc'
      rcases hc' with hc' | hc'
      · exact (h.vQ q).2 c hc'
      · simp at hc'
        subst hc'
        exact ⟨ht, h1, hc, hk⟩
  · rw [if_neg z]
    exact h.vQ q
/-- the first of a queue is served -/
theorem rd_i_serve {n e D : Nat} {A : rd_St} {w : List Nat} {Q : Nat → List Nat} {c : Nat} (h : rd_Inv n e D A w Q) (hc : c < n) (h1 : A 4 c = 1) : rd_Inv n e D (rd_sw (rd_sw A  4 c 2)  16 c (-1)) w (rd_fq Q c) := by
  have c1 : A 4 c ≠ 8 := by rw [h1]; decide
  have c3 : A 4 c ≠ 0 := by rw [h1]; decide
  exact ⟨h.vG, h.vN, rd_vR_oth h.vR c3 (by decide), rd_vQ_cd (rd_vQ_fq h.vQ) rd_fq_nm, rd_vF_cd2 h.vF, h.vU, h.vM, rd_vB_cd h.vB c1, rd_vX_cd h.vX c1 (by decide), rd_vC_cd h.vC (fun z => absurd z (by decide)), rd_vE_cd h.vE (fun z => absurd z (by decide)) (fun z => absurd z (by decide)), rd_vL_cd h.vL (by decide) (fun z => absurd z (by decide)), rd_vK_cd h.vK (by decide) (fun z => absurd z (by decide)), h.vD, rd_vW_cd h.vW, rd_vP_cd h.vP (fun _ => h.vP c hc (Or.inl h1)), rd_vZ_cd h.vZ (fun z => absurd z (by decide)), rd_vA_cp h.vA (by decide) ((h.vA c hc).1 (Or.inl h1)), h.rbo, h.rpl, h.rdp, h.rli, h.rdm, h.rpe, rd_rng_u (j := 2) h.rcd (by omega)⟩
end
section
/-! a new task; numbers -/
theorem rd_rng_n {n K : Nat} {f : Nat → Int32} {j : Nat} {x : Int32} (h : rd_rng n K f) (hx : x = nI j) (hj : j ≤ K) : rd_rng (n + 1) K (upd f n x) := by
  intro s hs
  rw [rd_up]
  by_cases e : s = n
  · rw [if_pos e]; exact ⟨j, hj, hx⟩
  · rw [if_neg e]; exact h s (by omega)
def rd_new (A : rd_St) (n : Nat) (b mk bl : Int32) : rd_St :=
  rd_sw (rd_sw (rd_sw (rd_sw (rd_sw (rd_sw (rd_sw (rd_sw (rd_sw (rd_sw (rd_sw (rd_sw (rd_sw A  26 0 (nI (n + 1)))  5 n 0)  6 n 0)  7 n (-1))  8 n b)  9 n mk)  10 n bl)  11 n 0)  12 n 0)  13 n 0)  18 n 0)  4 n 0)  16 n (-1)
theorem rd_i_new {n D : Nat} {A : rd_St} {w : List Nat} {Q : Nat → List Nat} {b : Nat} {mk bl : Int32} (h : rd_Inv n 8 D A w Q) (hn : n < 8) (hb : b ≤ 3) (hm : (n = 0 ∧ mk = -1 ∧ bl = -1) ∨ ∃ m, m < n ∧ mk = nI m ∧ A 4 m ≠ 8 ∧ (bl = -1 ∨ ∃ l, bl = nI l ∧ l < (A 18 m).toNatClampNeg ∧ A 19 (8 * m + l) = 0)) : rd_Inv (n + 1) 8 D (rd_new A n (nI b) mk bl) (w ++ [n]) Q := by
  have c0 : (0 : Int32).toNatClampNeg = 0 := by decide
  have lv : ∀ k b', k < n → rd_lv n (A 9) (A 10) (A 4) k b' → rd_lv (n + 1) (upd (A 9) n mk) (upd (A 10) n bl) (upd (A 4) n 0) k b' := by
    rintro k b' hk ⟨u, hu, e1, e2, e3⟩
    have y : u ≠ n := by omega
    refine ⟨u, by omega, ?_, ?_, ?_⟩
    · rw [rd_un y]; exact e1
    · rw [rd_un y]; exact e2
    · rw [rd_un y]; exact e3
  refine ⟨h.vG, ⟨rfl, by omega⟩, ?_, ?_, ?_, ?_, ?_, ?_, ?_, ?_, ?_, ?_, ?_, h.vD, ?_, ?_, ?_, ?_, rd_rng_n h.rbo rfl hb, rd_rng_n (j := 0) h.rpl rfl (by omega), rd_rng_n (j := 0) h.rdp rfl (by omega), rd_rng_n (j := 0) h.rli rfl (by omega), rd_rng_n (j := 0) h.rdm rfl (by omega), rd_rng_n (j := 0) h.rpe rfl (by omega), rd_rng_n (j := 0) h.rcd rfl (by omega)⟩
  · refine ⟨?_, fun t => ?_⟩
    · rw [List.nodup_append]
      refine ⟨h.vR.1, by simp, ?_⟩
      intro a ha c hc
      simp at hc
      subst hc
      intro z
      subst z
      have := ((h.vR.2 a).mp ha).1
      omega
    · show t ∈ w ++ [n] ↔ (t < n + 1 ∧ upd (A 4) n 0 t = 0)
      rw [List.mem_append, h.vR.2 t, rd_up]
      by_cases z : t = n
      · rw [if_pos z]; subst z; simp
      · rw [if_neg z]
        simp only [List.mem_cons, List.not_mem_nil, or_false, z]
        constructor
        · rintro ⟨a, b⟩; exact ⟨by omega, b⟩
        · rintro ⟨a, b⟩; exact ⟨by omega, b⟩
  · intro q
    refine ⟨(h.vQ q).1, fun c hc => ?_⟩
    obtain ⟨a1, a2, a3, a4⟩ := (h.vQ q).2 c hc
    refine ⟨by omega, ?_, a3, by omega⟩
    show upd (A 4) n 0 c = 1
    rw [rd_un (by omega)]; exact a2
  · intro t ht l hl
    have hl : l < (upd (A 18) n 0 t).toNatClampNeg := hl
    by_cases z : t = n
    · rw [z, rd_us, c0] at hl; omega
    · rw [rd_un z] at hl
      rcases h.vF t (by omega) l hl with a | ⟨a, c, a1, a2, a3⟩ | a
      · exact Or.inl a
      · refine Or.inr (Or.inl ⟨a, c, by omega, a2, ?_⟩)
        show upd (A 4) n 0 c = 2
        rw [rd_un (by omega)]; exact a3
      · exact Or.inr (Or.inr a)
  · intro t ht s hs l hl k hk
    have hl : l < (upd (A 18) n 0 t).toNatClampNeg := hl
    have hk : k < (upd (A 18) n 0 s).toNatClampNeg := hk
    by_cases z : t = n
    · rw [z, rd_us, c0] at hl; omega
    · by_cases y : s = n
      · rw [y, rd_us, c0] at hk; omega
      · rw [rd_un z] at hl
        rw [rd_un y] at hk
        exact h.vU t (by omega) s (by omega) l hl k hk
  · intro t ht
    show (t = 0 ∧ upd (A 9) n mk t = -1) ∨ ∃ m, m < t ∧ upd (A 9) n mk t = nI m
    by_cases z : t = n
    · subst z
      rw [rd_us]
      rcases hm with ⟨a, b, _⟩ | ⟨m, a, b, _⟩
      · exact Or.inl ⟨a, b⟩
      · exact Or.inr ⟨m, a, b⟩
    · rw [rd_un z]; exact h.vM t (by omega)
  · intro u hu hc
    have hc : upd (A 4) n 0 u ≠ 8 := hc
    show upd (A 10) n bl u = -1 ∨ ∃ m l, m < n + 1 ∧ upd (A 9) n mk u = nI m ∧ upd (A 10) n bl u = nI l ∧ l < (upd (A 18) n 0 m).toNatClampNeg ∧ A 19 (8 * m + l) = 0
    by_cases z : u = n
    · subst z
      rw [rd_us, rd_us]
      rcases hm with ⟨_, _, a⟩ | ⟨m, a, b, _, d | ⟨l, d1, d2, d3⟩⟩
      · exact Or.inl a
      · exact Or.inl d
      · refine Or.inr ⟨m, l, by omega, b, d1, ?_, d3⟩
        rw [rd_un (by omega)]; exact d2
    · rw [rd_un z] at hc ⊢
      rw [rd_un z]
      rcases h.vB u (by omega) hc with a | ⟨m, l, a1, a2, a3, a4, a5⟩
      · exact Or.inl a
      · refine Or.inr ⟨m, l, by omega, a2, a3, ?_, a5⟩
        rw [rd_un (by omega)]; exact a4
  · intro u hu m hm' e1' e2'
    have e1 : upd (A 9) n mk u = nI m := e1'
    have e2 : upd (A 4) n 0 m = 8 := e2'
    clear e1' e2'
    show upd (A 4) n 0 u = 8
    by_cases y : m = n
    · rw [y, rd_us] at e2; exact absurd e2 (by decide)
    · rw [rd_un y] at e2
      by_cases z : u = n
      · subst z
        rw [rd_us] at e1
        rcases hm with ⟨_, a, _⟩ | ⟨m', a, b, c, _⟩
        · exact absurd (e1.symm.trans a) (rd_nm (by omega))
        · have : m' = m := rd_inj (by omega) (by omega) (b.symm.trans e1)
          subst this
          exact absurd e2 c
      · rw [rd_un z] at e1 ⊢
        exact h.vX u (by omega) m (by omega) e1 e2
  · intro t ht f
    have f : upd (A 4) n 0 t = 7 ∨ upd (A 4) n 0 t = 8 := f
    show upd (A 18) n 0 t = 0
    by_cases z : t = n
    · rw [z, rd_us]
    · rw [rd_un z] at f ⊢; exact h.vC t (by omega) f
  · intro t ht
    show (upd (A 4) n 0 t = 6 → ∃ d, d < 8 ∧ upd (A 18) n 0 t = nI (d + 1) ∧ A 19 (8 * t + d) = 0) ∧ (upd (A 4) n 0 t = 3 ∨ upd (A 4) n 0 t = 4 → ∃ d, d < 8 ∧ upd (A 18) n 0 t = nI d)
    by_cases z : t = n
    · rw [z, rd_us]; exact ⟨fun f => absurd f (by decide), fun f => absurd f (by decide)⟩
    · rw [rd_un z, rd_un z]; exact h.vE t (by omega)
  · intro t ht he f
    have f : upd (A 4) n 0 t = 6 := f
    by_cases z : t = n
    · rw [z, rd_us] at f; exact absurd f (by decide)
    · rw [rd_un z] at f
      show rd_lv (n + 1) (upd (A 9) n mk) (upd (A 10) n bl) (upd (A 4) n 0) t (upd (A 18) n 0 t - 1)
      rw [rd_un (f := A 18) z]
      exact lv t _ (by omega) (h.vL t (by omega) he f)
  · intro t ht he f
    have f : upd (A 4) n 0 t = 7 := f
    by_cases z : t = n
    · rw [z, rd_us] at f; exact absurd f (by decide)
    · rw [rd_un z] at f
      exact lv t _ (by omega) (h.vK t (by omega) he f)
  · intro t ht
    by_cases z : t = n
    · refine Or.inl ?_
      show upd (A 16) n (-1) t = -1
      rw [z, rd_us]
    · show upd (A 16) n (-1) t = -1 ∨ ((∃ x, x ≤ 99 * D ∧ upd (A 16) n (-1) t = nI x) ∧ (∃ y, y ≤ 21 ∧ A 17 t = nI y) ∧ (upd (A 4) n 0 t = 1 ∧ A 17 t = upd (A 5) n 0 t + 2 ∨ upd (A 4) n 0 t = 5 ∧ A 17 t = upd (A 5) n 0 t + 1 ∨ upd (A 4) n 0 t = 4 ∧ ∃ b' p i, (b' < 4 ∧ p ≤ 21) ∧ upd (A 8) n (nI b) t = nI b' ∧ upd (A 5) n 0 t = nI p ∧ rd_oth (A 0) (A 3) b' p = some i ∧ A 17 t = A 1 (20 * b' + i)))
      rw [rd_un z, rd_un z, rd_un z, rd_un z]
      exact h.vW t (by omega)
  · intro t ht f
    have f : upd (A 4) n 0 t = 1 ∨ upd (A 4) n 0 t = 2 ∨ upd (A 4) n 0 t = 3 ∨ upd (A 4) n 0 t = 4 ∨ upd (A 4) n 0 t = 5 := f
    show upd (A 12) n 0 t = 0
    by_cases z : t = n
    · rw [z, rd_us]
    · rw [rd_un z] at f ⊢; exact h.vP t (by omega) f
  · intro t ht f
    have f : upd (A 4) n 0 t = 1 := f
    by_cases z : t = n
    · rw [z, rd_us] at f; exact absurd f (by decide)
    · rw [rd_un z] at f
      obtain ⟨q, a, b⟩ := h.vZ t (by omega) f
      exact ⟨q, by omega, b⟩
  · intro t ht
    show (upd (A 4) n 0 t = 1 ∨ upd (A 4) n 0 t = 2 ∨ upd (A 4) n 0 t = 3 ∨ upd (A 4) n 0 t = 5 ∨ (upd (A 4) n 0 t = 6 ∧ upd (A 12) n 0 t = 0) → ∃ p, p < 20 ∧ upd (A 5) n 0 t = nI p) ∧ (upd (A 4) n 0 t = 4 → ∃ b' p, p < 20 ∧ b' < 4 ∧ upd (A 8) n (nI b) t = nI b' ∧ upd (A 5) n 0 t = nI p ∧ A 14 t = if (rd_oth (A 0) (A 3) b' p).any (fun i => decide (rd_op (A 0) (A 3) b' i = 20)) then 1 else 0)
    by_cases z : t = n
    · subst z
      rw [rd_us]
      exact ⟨fun f => absurd f (by simp), fun f => absurd f (by decide)⟩
    · rw [rd_un z, rd_un z, rd_un z, rd_un z]
      exact h.vA t (by omega)
theorem rd_i_dn {n e D : Nat} {A : rd_St} {w : List Nat} {Q : Nat → List Nat} (h : rd_Inv n e D A w Q) (hD : D < 500) : rd_Inv n e (D + 1) (rd_sw A  28 0 (nI (D + 1))) w Q := by
  refine ⟨h.vG, h.vN, h.vR, h.vQ, h.vF, h.vU, h.vM, h.vB, h.vX, h.vC, h.vE, h.vL, h.vK, ?_, ?_, h.vP, h.vZ, h.vA, h.rbo, h.rpl, h.rdp, h.rli, h.rdm, h.rpe, h.rcd⟩
  · obtain ⟨a, b, ⟨T, c1, c2⟩, ⟨c, d1, d2⟩⟩ := h.vD
    exact ⟨rfl, by omega, ⟨T, by omega, c2⟩, ⟨c, by omega, d2⟩⟩
  · intro t ht
    rcases h.vW t ht with a | ⟨⟨x, a1, a2⟩, b⟩
    · exact Or.inl a
    · exact Or.inr ⟨⟨x, by omega, a2⟩, b⟩
theorem rd_i_tm {n e D T : Nat} {A : rd_St} {w : List Nat} {Q : Nat → List Nat} (h : rd_Inv n e D A w Q) (hT : T ≤ 99 * D) : rd_Inv n e D (rd_sw A  27 0 (nI T)) w Q := by
  refine ⟨h.vG, h.vN, h.vR, h.vQ, h.vF, h.vU, h.vM, h.vB, h.vX, h.vC, h.vE, h.vL, h.vK, ?_, h.vW, h.vP, h.vZ, h.vA, h.rbo, h.rpl, h.rdp, h.rli, h.rdm, h.rpe, h.rcd⟩
  obtain ⟨a, b, ⟨T', c1, c2⟩, d⟩ := h.vD
  exact ⟨a, b, ⟨T, hT, rfl⟩, d⟩
theorem rd_i_nc {n e D c : Nat} {A : rd_St} {w : List Nat} {Q : Nat → List Nat} (h : rd_Inv n e D A w Q) (hc : c ≤ D) : rd_Inv n e D (rd_sw A  25 0 (nI c)) w Q := by
  refine ⟨h.vG, h.vN, h.vR, h.vQ, h.vF, h.vU, h.vM, h.vB, h.vX, h.vC, h.vE, h.vL, h.vK, ?_, h.vW, h.vP, h.vZ, h.vA, h.rbo, h.rpl, h.rdp, h.rli, h.rdm, h.rpe, h.rcd⟩
  obtain ⟨a, b, c', d⟩ := h.vD
  exact ⟨a, b, c', ⟨c, hc, rfl⟩⟩
theorem rd_i_li {n e D c t : Nat} {A : rd_St} {w : List Nat} {Q : Nat → List Nat} (h : rd_Inv n e D A w Q) (hc : c ≤ 99) : rd_Inv n e D (rd_sw A  11 t (nI c)) w Q :=
  ⟨h.vG, h.vN, h.vR, h.vQ, h.vF, h.vU, h.vM, h.vB, h.vX, h.vC, h.vE, h.vL, h.vK, h.vD, h.vW, h.vP, h.vZ, h.vA, h.rbo, h.rpl, h.rdp, rd_rng_u h.rli hc, h.rdm, h.rpe, h.rcd⟩
theorem rd_i_dm {n e D c t : Nat} {A : rd_St} {w : List Nat} {Q : Nat → List Nat} (h : rd_Inv n e D A w Q) (hc : c ≤ 1) : rd_Inv n e D (rd_sw A  13 t (nI c)) w Q :=
  ⟨h.vG, h.vN, h.vR, h.vQ, h.vF, h.vU, h.vM, h.vB, h.vX, h.vC, h.vE, h.vL, h.vK, h.vD, h.vW, h.vP, h.vZ, h.vA, h.rbo, h.rpl, h.rdp, h.rli, rd_rng_u h.rdm hc, h.rpe, h.rcd⟩
theorem rd_i_xs {n e D t : Nat} {A : rd_St} {w : List Nat} {Q : Nat → List Nat} {x : Int32} (h : rd_Inv n e D A w Q) : rd_Inv n e D (rd_sw A  6 t x) w Q :=
  ⟨h.vG, h.vN, h.vR, h.vQ, h.vF, h.vU, h.vM, h.vB, h.vX, h.vC, h.vE, h.vL, h.vK, h.vD, h.vW, h.vP, h.vZ, h.vA, h.rbo, h.rpl, h.rdp, h.rli, h.rdm, h.rpe, h.rcd⟩
theorem rd_i_en {n e D t : Nat} {A : rd_St} {w : List Nat} {Q : Nat → List Nat} {x : Int32} (h : rd_Inv n e D A w Q) : rd_Inv n e D (rd_sw A  7 t x) w Q :=
  ⟨h.vG, h.vN, h.vR, h.vQ, h.vF, h.vU, h.vM, h.vB, h.vX, h.vC, h.vE, h.vL, h.vK, h.vD, h.vW, h.vP, h.vZ, h.vA, h.rbo, h.rpl, h.rdp, h.rli, h.rdm, h.rpe, h.rcd⟩
/-- a task that waited for its block goes on without it -/
theorem rd_i_left {n D : Nat} {A : rd_St} {w : List Nat} {Q : Nat → List Nat} {t d p : Nat} (h : rd_Inv n t D A w Q) (ht : t < n) (h6 : A 4 t = 6) (hd8 : d < 8) (hd : A 18 t = nI (d + 1)) (hl : ¬ rd_lv n (A 9) (A 10) (A 4) t (nI d)) (hp : p ≤ 21) : rd_Inv n 8 D (rd_ready (rd_sw (rd_sw A  18 t (nI d))  5 t (nI p)) t) (w ++ [t]) Q := by
  have c1 : A 4 t ≠ 8 := by rw [h6]; decide
  have c2 : A 4 t ≠ 0 := by rw [h6]; decide
  have c3 : A 4 t ≠ 1 := by rw [h6]; decide
  have c4 : A 4 t ≠ 2 := by rw [h6]; decide
  have r := rd_i_ready h ht c2 c1 (rd_vQ_no h.vQ c3) (rd_nf_of h.vN.2 h.vF ht c4)
  have z : (rd_ready A t) 4 t = 0 := rd_us
  have r2 := rd_i_close r (fun y => absurd (z.symm.trans y) (by decide)) (fun y => absurd (z.symm.trans y) (by decide))
  have r3 := rd_i_pop (d := d) r2 ht hd hd8 (fun y => absurd (z.symm.trans y) (by decide)) (Or.inr (fun y => hl (rd_lv_cd' y c1)))
  exact rd_i_pl (p := p) r3 ht hp (Or.inl z)
end
section
/-! what a fall keeps: unchanged arrays, ready tasks, weights -/
def rd_sta (A B : rd_St) : Prop := ∀ k, k ≠  4 → k ≠  5 → k ≠  7 → k ≠  10 → k ≠  12 → k ≠  16 → k ≠  18 → B k = A k
theorem rd_sta_rf (A : rd_St) : rd_sta A A := fun _ _ _ _ _ _ _ _ => rfl
theorem rd_sta_tr {A B C : rd_St} (h : rd_sta A B) (g : rd_sta B C) : rd_sta A C := fun k a b c d e f i => (g k a b c d e f i).trans (h k a b c d e f i)
theorem rd_sta_sa {A : rd_St} {k : Nat} {f : Nat → Int32} (h : k =  4 ∨ k =  5 ∨ k =  7 ∨ k =  10 ∨ k =  12 ∨ k =  16 ∨ k =  18) : rd_sta A (rd_sa A k f) := by
  intro j a b c d e f' i
  rw [rd_sa_ap, if_neg]
  omega
theorem rd_sta_sw {A : rd_St} {k i : Nat} {v : Int32} (h : k =  4 ∨ k =  5 ∨ k =  7 ∨ k =  10 ∨ k =  12 ∨ k =  16 ∨ k =  18) : rd_sta A (rd_sw A k i v) := rd_sta_sa h
theorem rd_sta_ready {A : rd_St} {t : Nat} : rd_sta A (rd_ready A t) := rd_sta_tr (rd_sta_sw (by simp)) (rd_sta_sw (by simp))
theorem rd_sta_fall {A : rd_St} {t : Nat} : rd_sta A (rd_fall A t) := rd_sta_tr (rd_sta_sw (by simp)) (rd_sta_sw (by simp))
/-- the same, but for the two stacks of falling tasks -/
def rd_stw (A B : rd_St) : Prop := ∀ k, k ≠  4 → k ≠  5 → k ≠  7 → k ≠  10 → k ≠  12 → k ≠  16 → k ≠  18 → k ≠  32 → k ≠  33 → B k = A k
theorem rd_stw_of {A B : rd_St} (h : rd_sta A B) : rd_stw A B := fun k a b c d e f i _ _ => h k a b c d e f i
theorem rd_stw_tr {A B C : rd_St} (h : rd_stw A B) (g : rd_stw B C) : rd_stw A C := fun k a b c d e f i j l => (g k a b c d e f i j l).trans (h k a b c d e f i j l)
theorem rd_stw_sw {A : rd_St} {k i : Nat} {v : Int32} (h : k =  32 ∨ k =  33) : rd_stw A (rd_sw A k i v) := by
  intro j a b c d e f' g l m
  rw [rd_sw_ap, if_neg]
  omega
def rd_kp (P : Nat → Prop) (A B : rd_St) (w z : List Nat) : Prop := ∀ t, P t → B 4 t = A 4 t ∧ B 5 t = A 5 t ∧ B 12 t = A 12 t ∧ B 18 t = A 18 t ∧ (w.head? = some t → z.head? = some t)
theorem rd_kp_rf (P : Nat → Prop) (A : rd_St) (w : List Nat) : rd_kp P A A w w := fun _ _ => ⟨rfl, rfl, rfl, rfl, id⟩
theorem rd_kp_tr {P R : Nat → Prop} {A B C : rd_St} {w x y : List Nat} (h : rd_kp P A B w x) (g : rd_kp R B C x y) (i : ∀ t, P t → R t) : rd_kp P A C w y := fun t ht =>
  have a := h t ht
  have b := g t (i t ht)
  ⟨b.1.trans a.1, b.2.1.trans a.2.1, b.2.2.1.trans a.2.2.1, b.2.2.2.1.trans a.2.2.2.1, fun z => b.2.2.2.2 (a.2.2.2.2 z)⟩
theorem rd_kp_w {P R : Nat → Prop} {A B : rd_St} {w x : List Nat} (h : rd_kp R A B w x) (i : ∀ t, P t → R t) : rd_kp P A B w x := fun t ht => h t (i t ht)
theorem rd_hd_app {w : List Nat} {t c : Nat} (h : w.head? = some t) : (w ++ [c]).head? = some t := by
  cases w with
  | nil => simp at h
  | cons x l => simpa using h
theorem rd_hd_fl {w : List Nat} {t c : Nat} (h : w.head? = some t) (hc : t ≠ c) : (w.filter (fun x => x != c)).head? = some t := by
  cases w with
  | nil => simp at h
  | cons x l =>
    simp at h
    subst h
    rw [List.filter_cons, if_pos (by simp [hc])]
    rfl
theorem rd_kp_ready {P : Nat → Prop} {A : rd_St} {w : List Nat} {c : Nat} (h : ¬ P c) : rd_kp P A (rd_ready A c) w (w ++ [c]) := fun t ht =>
  have y : t ≠ c := fun e => h (e ▸ ht)
  ⟨rd_un y, rfl, rfl, rfl, rd_hd_app⟩
theorem rd_kp_fall {P : Nat → Prop} {A : rd_St} {w : List Nat} {c : Nat} (h : ¬ P c) : rd_kp P A (rd_fall A c) w (w.filter (fun x => x != c)) := fun t ht =>
  have y : t ≠ c := fun e => h (e ▸ ht)
  ⟨rd_un y, rfl, rfl, rfl, fun z => rd_hd_fl z y⟩
theorem rd_kp_pe {P : Nat → Prop} {A : rd_St} {w : List Nat} {c : Nat} {v : Int32} (h : ¬ P c) : rd_kp P A (rd_sw A  12 c v) w w := fun t ht =>
  have y : t ≠ c := fun e => h (e ▸ ht)
  ⟨rfl, rfl, rd_un y, rfl, id⟩
theorem rd_kp_dp {P : Nat → Prop} {A : rd_St} {w : List Nat} {c : Nat} {v : Int32} (h : ¬ P c) : rd_kp P A (rd_sw A  18 c v) w w := fun t ht =>
  have y : t ≠ c := fun e => h (e ▸ ht)
  ⟨rfl, rfl, rfl, rd_un y, id⟩
theorem rd_kp_pl {P : Nat → Prop} {A : rd_St} {w : List Nat} {c : Nat} {v : Int32} (h : ¬ P c) : rd_kp P A (rd_sw A  5 c v) w w := fun t ht =>
  have y : t ≠ c := fun e => h (e ▸ ht)
  ⟨rfl, rd_un y, rfl, rfl, id⟩
theorem rd_kp_cd {P : Nat → Prop} {A : rd_St} {w : List Nat} {c : Nat} {v : Int32} (h : ¬ P c) : rd_kp P A (rd_sw A  4 c v) w w := fun t ht =>
  have y : t ≠ c := fun e => h (e ▸ ht)
  ⟨rd_un y, rfl, rfl, rfl, id⟩
theorem rd_kp_en {P : Nat → Prop} {A : rd_St} {w : List Nat} {c : Nat} {v : Int32} : rd_kp P A (rd_sw A  7 c v) w w := fun t ht =>
  ⟨rfl, rfl, rfl, rfl, id⟩
def rd_W (A : rd_St) (t : Nat) : Nat := rd_w (A 4) (A 12) (A 18) t
def rd_wl (n : Nat) (A B : rd_St) : Prop := ∀ t, t < n → rd_W B t ≤ rd_W A t
theorem rd_wl_rf (n : Nat) (A : rd_St) : rd_wl n A A := fun _ _ => Nat.le_refl _
theorem rd_wl_tr {n : Nat} {A B C : rd_St} (h : rd_wl n A B) (g : rd_wl n B C) : rd_wl n A C := fun t ht => Nat.le_trans (g t ht) (h t ht)
theorem rd_wl_ready {n : Nat} {A : rd_St} {c : Nat} (h : A 4 c = 1 ∨ A 4 c = 2 ∨ A 4 c = 3 ∨ A 4 c = 4 ∨ A 4 c = 5) : rd_wl n A (rd_ready A c) := by
  intro t _
  show rd_c (upd (A 4) c 0 t) (A 12 t) + 2 * (A 18 t).toNatClampNeg ≤ rd_c (A 4 t) (A 12 t) + 2 * (A 18 t).toNatClampNeg
  by_cases y : t = c
  · subst y
    rw [rd_us, rd_c_w _ h]
    have := rd_c0_le (A 12 t)
    omega
  · rw [rd_un y]; exact Nat.le_refl _
theorem rd_wl_rp {n : Nat} {A : rd_St} {c : Nat} {v : Int32} (h : A 4 c = 1 ∨ A 4 c = 2 ∨ A 4 c = 3 ∨ A 4 c = 4 ∨ A 4 c = 5) : rd_wl n A (rd_ready (rd_sw A  12 c v) c) := by
  intro t _
  show rd_c (upd (A 4) c 0 t) (upd (A 12) c v t) + 2 * (A 18 t).toNatClampNeg ≤ rd_c (A 4 t) (A 12 t) + 2 * (A 18 t).toNatClampNeg
  by_cases y : t = c
  · subst y
    rw [rd_us, rd_us, rd_c_w _ h]
    have := rd_c0_le v
    omega
  · rw [rd_un y, rd_un y]; exact Nat.le_refl _
theorem rd_wl_fall {n : Nat} {A : rd_St} {c : Nat} (h7 : A 4 c ≠ 7) (h8 : A 4 c ≠ 8) : rd_wl n A (rd_fall A c) := by
  intro t _
  show rd_c (upd (A 4) c 9 t) (A 12 t) + 2 * (A 18 t).toNatClampNeg ≤ rd_c (A 4 t) (A 12 t) + 2 * (A 18 t).toNatClampNeg
  by_cases y : t = c
  · subst y
    rw [rd_us, rd_c9]
    have := rd_c_ge (A 12 t) h7 h8
    omega
  · rw [rd_un y]; exact Nat.le_refl _
theorem rd_wl_pop {n : Nat} {A : rd_St} {c d : Nat} (hd : A 18 c = nI (d + 1)) (h8 : d < 8) : rd_wl n A (rd_sw A  18 c (nI d)) := by
  intro t _
  show rd_c (A 4 t) (A 12 t) + 2 * (upd (A 18) c (nI d) t).toNatClampNeg ≤ rd_c (A 4 t) (A 12 t) + 2 * (A 18 t).toNatClampNeg
  by_cases y : t = c
  · subst y
    rw [rd_us, hd, nI_clamp (by omega), nI_clamp (by omega)]
    omega
  · rw [rd_un y]; exact Nat.le_refl _
theorem rd_w_pop {A : rd_St} {c d : Nat} (hd : A 18 c = nI (d + 1)) (h8 : d < 8) : rd_W (rd_sw A  18 c (nI d)) c < rd_W A c := by
  show rd_c (A 4 c) (A 12 c) + 2 * (upd (A 18) c (nI d) c).toNatClampNeg < rd_c (A 4 c) (A 12 c) + 2 * (A 18 c).toNatClampNeg
  rw [rd_us, hd, nI_clamp (by omega), nI_clamp (by omega)]
  omega
theorem rd_wl_cmp {n : Nat} {A : rd_St} {c : Nat} (h9 : A 4 c = 9) : rd_wl n A (rd_sw A  4 c 7) := by
  intro t _
  show rd_c (upd (A 4) c 7 t) (A 12 t) + 2 * (A 18 t).toNatClampNeg ≤ rd_c (A 4 t) (A 12 t) + 2 * (A 18 t).toNatClampNeg
  by_cases y : t = c
  · subst y
    rw [rd_us, h9, rd_c7, rd_c9]; omega
  · rw [rd_un y]; exact Nat.le_refl _
theorem rd_w_cmp {A : rd_St} {c : Nat} (h9 : A 4 c = 9) : rd_W (rd_sw A  4 c 7) c < rd_W A c := by
  show rd_c (upd (A 4) c 7 c) (A 12 c) + 2 * (A 18 c).toNatClampNeg < rd_c (A 4 c) (A 12 c) + 2 * (A 18 c).toNatClampNeg
  rw [rd_us, h9, rd_c7, rd_c9]; omega
theorem rd_wl_term {n : Nat} {A : rd_St} {c : Nat} : rd_wl n A (rd_sw A  4 c 8) := by
  intro t _
  show rd_c (upd (A 4) c 8 t) (A 12 t) + 2 * (A 18 t).toNatClampNeg ≤ rd_c (A 4 t) (A 12 t) + 2 * (A 18 t).toNatClampNeg
  by_cases y : t = c
  · subst y
    rw [rd_us, rd_c8]; omega
  · rw [rd_un y]; exact Nat.le_refl _
theorem rd_wl_left {n : Nat} {A : rd_St} {c d : Nat} {v : Int32} (h6 : A 4 c = 6) (hd : A 18 c = nI (d + 1)) (h8 : d < 8) : rd_wl n A (rd_ready (rd_sw (rd_sw A  18 c (nI d))  5 c v) c) := by
  intro t _
  show rd_c (upd (A 4) c 0 t) (A 12 t) + 2 * (upd (A 18) c (nI d) t).toNatClampNeg ≤ rd_c (A 4 t) (A 12 t) + 2 * (A 18 t).toNatClampNeg
  by_cases y : t = c
  · subst y
    rw [rd_us, rd_us, hd, h6, nI_clamp (by omega), nI_clamp (by omega), rd_c6]
    have := rd_c0_le (A 12 t)
    omega
  · rw [rd_un y, rd_un y]; exact Nat.le_refl _
theorem rd_ph_le {n : Nat} {A B : rd_St} (h : rd_wl n A B) : rd_ph n B ≤ rd_ph n A := rd_sum_le h
theorem rd_ph_lt {n s : Nat} {A B : rd_St} (h : rd_wl n A B) (hs : s < n) (hl : rd_W B s < rd_W A s) : rd_ph n B < rd_ph n A := rd_sum_lt h hs hl
theorem rd_ph_bd {n e D : Nat} {A : rd_St} {w : List Nat} {Q : Nat → List Nat} (h : rd_Inv n e D A w Q) : rd_ph n A ≤ 160 := by
  have h8 := h.vN.2
  have := rd_sum_bd (f := rd_w (A 4) (A 12) (A 18)) (K := 20) (n := n) (fun t ht => by
    obtain ⟨d, a, b, c⟩ := rd_dpos h ht
    have := rd_c_le (A 4 t) (A 12 t)
    show rd_c (A 4 t) (A 12 t) + 2 * (A 18 t).toNatClampNeg ≤ 20
    omega)
  unfold rd_ph
  omega
theorem rd_wlen {n e D : Nat} {A : rd_St} {w : List Nat} {Q : Nat → List Nat} (h : rd_Inv n e D A w Q) : w.length ≤ n := rd_pig n w h.vR.1 (fun x hx => ((h.vR.2 x).mp hx).1)
theorem rd_wlen' {n e D t : Nat} {A : rd_St} {w : List Nat} {Q : Nat → List Nat} (h : rd_Inv n e D A w Q) (ht : t < n) (h0 : A 4 t ≠ 0) : w.length < n := by
  have := rd_pig n (t :: w) (List.nodup_cons.mpr ⟨fun z => h0 ((h.vR.2 t).mp z).2, h.vR.1⟩) (fun x hx => by
    rw [List.mem_cons] at hx
    rcases hx with e | e
    · omega
    · exact ((h.vR.2 x).mp e).1)
  simp only [List.length_cons] at this
  omega
theorem rd_qlen {n e D q : Nat} {A : rd_St} {w : List Nat} {Q : Nat → List Nat} (h : rd_Inv n e D A w Q) : (Q q).length ≤ n := rd_pig n _ (h.vQ q).1 (fun x hx => ((h.vQ q).2 x hx).1)
theorem rd_qlen' {n e D q t : Nat} {A : rd_St} {w : List Nat} {Q : Nat → List Nat} (h : rd_Inv n e D A w Q) (ht : t < n) (hq : t ∉ Q q) : (Q q).length < n := by
  have := rd_pig n (t :: Q q) (List.nodup_cons.mpr ⟨hq, (h.vQ q).1⟩) (fun x hx => by
    rw [List.mem_cons] at hx
    rcases hx with e | e
    · omega
    · exact ((h.vQ q).2 x e).1)
  simp only [List.length_cons] at this
  omega
/-! the callers in a queue are woken -/
def rd_dq (Q : Nat → List Nat) (k : Nat) (L : List Nat) : Nat → List Nat := fun q => if q = k then L else Q q
theorem rd_dq_s {Q : Nat → List Nat} {k : Nat} {L : List Nat} : rd_dq Q k L k = L := if_pos rfl
theorem rd_dq_n {Q : Nat → List Nat} {k q : Nat} {L : List Nat} (h : q ≠ k) : rd_dq Q k L q = Q q := if_neg h
theorem rd_dq_dq {Q : Nat → List Nat} {k : Nat} {L M : List Nat} : rd_dq (rd_dq Q k L) k M = rd_dq Q k M := by
  funext q
  by_cases e : q = k
  · rw [e, rd_dq_s, rd_dq_s]
  · rw [rd_dq_n e, rd_dq_n e, rd_dq_n e]
theorem rd_dq_e {Q : Nat → List Nat} {k : Nat} : rd_dq Q k (Q k) = Q := by
  funext q
  by_cases e : q = k
  · rw [e, rd_dq_s]
  · rw [rd_dq_n e]
theorem rd_i_dq {n e D k c : Nat} {A : rd_St} {w L : List Nat} {Q : Nat → List Nat} (h : rd_Inv n e D A w (rd_dq Q k (c :: L))) : rd_Inv n e D A w (rd_dq Q k L) ∧ c < n ∧ A 4 c = 1 ∧ k < 3 * n ∧ (∀ q, c ∉ rd_dq Q k L q) ∧ rd_fq (rd_dq Q k (c :: L)) c = rd_dq Q k L := by
  have hk := h.vQ k
  rw [rd_dq_s] at hk
  have hc := hk.2 c (by simp)
  have nd := List.nodup_cons.mp hk.1
  have no : ∀ q, c ∉ rd_dq Q k L q := by
    intro q hm
    by_cases e : q = k
    · rw [e, rd_dq_s] at hm; exact nd.1 hm
    · rw [rd_dq_n e] at hm
      have := (h.vQ q).2 c (by rw [rd_dq_n e]; exact hm)
      have a := this.2.2.1.symm.trans hc.2.2.1
      have h8 := h.vN.2
      exact e (rd_inj (by omega) (by omega) a)
  refine ⟨⟨h.vG, h.vN, h.vR, ?_, h.vF, h.vU, h.vM, h.vB, h.vX, h.vC, h.vE, h.vL, h.vK, h.vD, h.vW, h.vP, h.vZ, h.vA, h.rbo, h.rpl, h.rdp, h.rli, h.rdm, h.rpe, h.rcd⟩, hc.1, hc.2.1, hc.2.2.2, no, ?_⟩
  · intro q
    by_cases e : q = k
    · rw [e, rd_dq_s]
      exact ⟨nd.2, fun x hx => hk.2 x (by simp [hx])⟩
    · rw [rd_dq_n e]
      have := h.vQ q
      rw [rd_dq_n e] at this
      exact this
  · funext q
    unfold rd_fq
    by_cases e : q = k
    · rw [e, rd_dq_s, rd_dq_s, List.filter_cons, if_neg (by simp), rd_fl_not nd.1]
    · have := no q
      rw [rd_dq_n e] at this
      rw [rd_dq_n e, rd_dq_n e, rd_fl_not this]
def rd_wa (A : rd_St) : List Nat → rd_St
  | [] => A
  | c :: L => rd_wa (rd_ready (rd_sw A  12 c 11) c) L
/-- one caller: its exception, and it is ready -/
theorem rd_i_rp {n e D c x : Nat} {A : rd_St} {w : List Nat} {Q : Nat → List Nat} (h : rd_Inv n e D A w Q) (hc : c < n) (h0 : A 4 c ≠ 0) (h8 : A 4 c ≠ 8) (hq : ∀ q, c ∉ Q q) (hf : rd_nf n (A 18) (A 19) (A 20) c) (hx : x ≤ 14) : rd_Inv n e D (rd_ready (rd_sw A  12 c (nI x)) c) (w ++ [c]) Q :=
  rd_i_pe (c := x) (rd_i_ready h hc h0 h8 hq hf) hc hx (Or.inl rd_us)
theorem rd_i_wa {n e D k : Nat} {Q : Nat → List Nat} : ∀ {L : List Nat} {A : rd_St} {w : List Nat}, rd_Inv n e D A w (rd_dq Q k L) → rd_Inv n e D (rd_wa A L) (w ++ L) (rd_dq Q k []) ∧ rd_sta A (rd_wa A L) ∧ rd_wl n A (rd_wa A L) ∧ rd_kp (fun t => A 4 t ≠ 1) A (rd_wa A L) w (w ++ L) := by
  intro L
  induction L with
  | nil =>
    intro A w h
    rw [List.append_nil]
    exact ⟨h, rd_sta_rf _, rd_wl_rf _ _, rd_kp_rf _ _ _⟩
  | cons c L ih =>
    intro A w h
    obtain ⟨a1, a2, a3, _, a4, _⟩ := rd_i_dq h
    have r := rd_i_rp (x := 11) a1 a2 (by rw [a3]; decide) (by rw [a3]; decide) a4 (rd_nf_of h.vN.2 h.vF a2 (by rw [a3]; decide)) (by omega)
    obtain ⟨b1, b2, b3, b4⟩ := ih r
    rw [List.append_assoc] at b1 b4
    refine ⟨b1, rd_sta_tr (rd_sta_tr (rd_sta_sw (by simp)) rd_sta_ready) b2, rd_wl_tr (rd_wl_rp (Or.inl a3)) b3, ?_⟩
    have nc : ¬ (fun t => A 4 t ≠ 1) c := fun z => z a3
    refine rd_kp_tr (rd_kp_tr (rd_kp_pe nc) (rd_kp_ready (P := fun t => A 4 t ≠ 1) nc) (fun _ z => z)) b4 ?_
    intro t ht
    show upd (A 4) c 0 t ≠ 1
    rw [rd_up]
    by_cases y : t = c
    · rw [if_pos y]; decide
    · rw [if_neg y]; exact ht
theorem rd_wa_cd {s : Nat} : ∀ {L : List Nat} {A : rd_St}, (rd_wa A L) 4 s = A 4 s ∨ (rd_wa A L) 4 s = 0
  | [], _ => Or.inl rfl
  | c :: L, A => by
    rcases rd_wa_cd (s := s) (L := L) (A := rd_ready (rd_sw A  12 c 11) c) with h | h
    · have e : (rd_ready (rd_sw A  12 c 11) c) 4 s = upd (A 4) c 0 s := rfl
      rw [e] at h
      by_cases y : s = c
      · subst y
        rw [rd_us] at h
        exact Or.inr h
      · rw [rd_un y] at h
        exact Or.inl h
    · exact Or.inr h
end
section
/-! the reference's own arrays against the bundle -/
def rd_cv (x : Int32) : Int32 := if x = 9 then -1 else x
theorem rd_cv_n {x : Int32} (h : x ≠ 9) : rd_cv x = x := if_neg h
theorem rd_cv_9 : rd_cv 9 = -1 := rfl
theorem rd_cv_eq {x s : Int32} (h1 : s ≠ -1) (h9 : s ≠ 9) : rd_cv x = s ↔ x = s := by
  unfold rd_cv
  by_cases e : x = 9
  · rw [if_pos e]
    constructor
    · intro z; exact absurd z.symm h1
    · intro z; exact absurd (z.symm.trans e) h9
  · rw [if_neg e]
def rd_y3 (n : Nat) (Q : Nat → List Nat) (wq qa : Nat → Int32) : Prop := ∀ q, q < 3 * n → wq q = nI (Q q).length ∧ rd_LV qa (8 * q) (Q q)
def rd_y4 (ex n : Nat) (cd pe rz : Nat → Int32) : Prop := ∀ t, t < n → cd t ≠ 7 → cd t ≠ 8 → cd t ≠ 9 → rz t = if t = ex then 0 else pe t
def rd_y5 (n : Nat) (dp fk fv fr : Nat → Int32) : Prop := ∀ t, t < n → ∀ l, l < (dp t).toNatClampNeg → fk (8 * t + l) ≠ 0 → fr (8 * t + l) = fv (8 * t + l)
def rd_y6 (n D : Nat) (dp fk fr : Nat → Int32) (bl : Int32) : Prop := ∃ b, b ≤ D ∧ bl = nI b ∧ ∀ t, t < n → ∀ l, l < (dp t).toNatClampNeg → fk (8 * t + l) = 0 → ∃ x, x < b ∧ fr (8 * t + l) = nI x
def rd_y7 (n : Nat) (dp fk fr : Nat → Int32) : Prop := ∀ t, t < n → ∀ l, l < (dp t).toNatClampNeg → ∀ k, k < (dp t).toNatClampNeg → fk (8 * t + l) = 0 → fk (8 * t + k) = 0 → fr (8 * t + l) = fr (8 * t + k) → l = k
def rd_y8 (n : Nat) (ma mb cd ob fr : Nat → Int32) : Prop := ∀ u, u < n → cd u ≠ 8 → (ma u = -1 → ob u = -1) ∧ ∀ m, m < n → ma u = nI m → (cd m = 9 → ob u = -1) ∧ (cd m ≠ 9 → mb u = -1 → ob u = -1) ∧ (cd m ≠ 9 → ∀ l, l < 8 → mb u = nI l → ob u = fr (8 * m + l))
def rd_y9 (cd st : Nat → Int32) : Prop := ∀ t, st t = rd_cv (cd t)
def rd_y10 (gl a0 am : Nat → Int32) : Prop := ∀ u, u < 8 → gl u = 1 → am u = a0 u
def rd_YL (ex n D : Nat) (A : rd_St) (w : List Nat) (Q : Nat → List Nat) (ra qa wq am rz ob fr st : Nat → Int32) (bl : Int32) : Prop :=
  rd_LV ra 0 w ∧ rd_rng 24 8 wq ∧ rd_y3 n Q wq qa ∧ rd_y4 ex n (A 4) (A 12) rz ∧ rd_y5 n (A 18) (A 19) (A 20) fr ∧ rd_y6 n D (A 18) (A 19) fr bl ∧ rd_y7 n (A 18) (A 19) fr ∧ rd_y8 n (A 9) (A 10) (A 4) ob fr ∧ rd_y9 (A 4) st ∧ rd_y10 (A 34) (A 24) am
section
variable {ex n D : Nat} {A : rd_St} {w : List Nat} {Q : Nat → List Nat} {ra qa wq am rz ob fr st : Nat → Int32} {bl : Int32}
theorem rd_YL.r (h : rd_YL ex n D A w Q ra qa wq am rz ob fr st bl) : rd_LV ra 0 w := h.1
theorem rd_YL.y2 (h : rd_YL ex n D A w Q ra qa wq am rz ob fr st bl) : rd_rng 24 8 wq := h.2.1
theorem rd_YL.y3 (h : rd_YL ex n D A w Q ra qa wq am rz ob fr st bl) : rd_y3 n Q wq qa := h.2.2.1
theorem rd_YL.y4 (h : rd_YL ex n D A w Q ra qa wq am rz ob fr st bl) : rd_y4 ex n (A 4) (A 12) rz := h.2.2.2.1
theorem rd_YL.y5 (h : rd_YL ex n D A w Q ra qa wq am rz ob fr st bl) : rd_y5 n (A 18) (A 19) (A 20) fr := h.2.2.2.2.1
theorem rd_YL.y6 (h : rd_YL ex n D A w Q ra qa wq am rz ob fr st bl) : rd_y6 n D (A 18) (A 19) fr bl := h.2.2.2.2.2.1
theorem rd_YL.y7 (h : rd_YL ex n D A w Q ra qa wq am rz ob fr st bl) : rd_y7 n (A 18) (A 19) fr := h.2.2.2.2.2.2.1
theorem rd_YL.y8 (h : rd_YL ex n D A w Q ra qa wq am rz ob fr st bl) : rd_y8 n (A 9) (A 10) (A 4) ob fr := h.2.2.2.2.2.2.2.1
theorem rd_YL.y9 (h : rd_YL ex n D A w Q ra qa wq am rz ob fr st bl) : rd_y9 (A 4) st := h.2.2.2.2.2.2.2.2.1
theorem rd_YL.y10 (h : rd_YL ex n D A w Q ra qa wq am rz ob fr st bl) : rd_y10 (A 34) (A 24) am := h.2.2.2.2.2.2.2.2.2
end
theorem rd_y9_u {cd st : Nat → Int32} {t : Nat} {s x : Int32} (h : rd_y9 cd st) (hx : x = rd_cv s) : rd_y9 (upd cd t s) (upd st t x) := by
  intro u
  rw [rd_up, rd_up]
  by_cases e : u = t
  · rw [if_pos e, if_pos e]; exact hx
  · rw [if_neg e, if_neg e]; exact h u
theorem rd_y4_cd {ex n : Nat} {cd pe rz : Nat → Int32} {t : Nat} {s : Int32} (h : rd_y4 ex n cd pe rz) (hs : (s = 7 ∨ s = 8 ∨ s = 9) ∨ (cd t ≠ 7 ∧ cd t ≠ 8 ∧ cd t ≠ 9)) : rd_y4 ex n (upd cd t s) pe rz := by
  intro u hu a b c
  by_cases e : u = t
  · subst e
    rw [rd_us] at a b c
    rcases hs with hs | hs
    · rcases hs with z | z | z
      · exact absurd z a
      · exact absurd z b
      · exact absurd z c
    · exact h u hu hs.1 hs.2.1 hs.2.2
  · rw [rd_un e] at a b c; exact h u hu a b c
theorem rd_y4_pe {ex n : Nat} {cd pe rz : Nat → Int32} {t : Nat} {v : Int32} (h : rd_y4 ex n cd pe rz) (ht : t ≠ ex) : rd_y4 ex n cd (upd pe t v) (upd rz t v) := by
  intro u hu a b c
  rw [rd_up, rd_up]
  by_cases e : u = t
  · rw [if_pos e, if_pos e, if_neg (by rw [e]; exact ht)]
  · rw [if_neg e, if_neg e]; exact h u hu a b c
theorem rd_y4_rz {ex n : Nat} {cd pe rz : Nat → Int32} {t : Nat} {v : Int32} (h : rd_y4 ex n cd pe rz) (hc : cd t = 7 ∨ cd t = 8 ∨ cd t = 9) : rd_y4 ex n cd pe (upd rz t v) := by
  intro u hu a b c
  by_cases e : u = t
  · subst e
    rcases hc with z | z | z
    · exact absurd z a
    · exact absurd z b
    · exact absurd z c
  · rw [rd_un e]; exact h u hu a b c
theorem rd_y4_n {ex n : Nat} {cd pe rz : Nat → Int32} {t : Nat} (h : rd_y4 ex n cd pe rz) (ht : t < n) (he : t ≠ ex) (h7 : cd t ≠ 7) (h8 : cd t ≠ 8) (h9 : cd t ≠ 9) : rz t = pe t := by
  have := h t ht h7 h8 h9
  rw [if_neg he] at this
  exact this
theorem rd_y8_cd {n : Nat} {ma mb cd ob fr : Nat → Int32} {t : Nat} {s : Int32} (h : rd_y8 n ma mb cd ob fr) (hs : s ≠ 9) (h9 : cd t ≠ 9) (h8 : cd t ≠ 8) : rd_y8 n ma mb (upd cd t s) ob fr := by
  intro u hu hc
  have hc' : cd u ≠ 8 := by
    by_cases e : u = t
    · rw [e]; exact h8
    · rw [rd_un e] at hc; exact hc
  obtain ⟨a, b⟩ := h u hu hc'
  refine ⟨a, fun m hm f => ?_⟩
  obtain ⟨b1, b2, b3⟩ := b m hm f
  by_cases e : m = t
  · subst e
    rw [rd_us]
    exact ⟨fun z => absurd z hs, fun _ => b2 h9, fun _ => b3 h9⟩
  · rw [rd_un e]; exact ⟨b1, b2, b3⟩
/-- a falling task without frames is completed -/
theorem rd_y8_cmp {n : Nat} {dp fk ma mb cd ob fr : Nat → Int32} {t : Nat} (h : rd_y8 n ma mb cd ob fr) (hn : n ≤ 8) (hB : rd_vB n dp fk ma mb cd) (h9 : cd t = 9) (hd : dp t = 0) : rd_y8 n ma mb (upd cd t 7) ob fr := by
  intro u hu hc
  have hc' : cd u ≠ 8 := by
    by_cases e : u = t
    · rw [e, h9]; decide
    · rw [rd_un e] at hc; exact hc
  obtain ⟨a, b⟩ := h u hu hc'
  refine ⟨a, fun m hm f => ?_⟩
  obtain ⟨b1, b2, b3⟩ := b m hm f
  by_cases e : m = t
  · subst e
    rw [rd_us]
    refine ⟨fun z => absurd z (by decide), fun _ _ => b1 h9, fun _ l hl z => ?_⟩
    rcases hB u hu hc' with y | ⟨m', l', hm', f1, f2, f3, f4⟩
    · exact absurd (z.symm.trans y) (rd_nm (by omega))
    · have : m' = m := rd_inj (by omega) (by omega) (f1.symm.trans f)
      subst this
      rw [hd] at f3
      have : (0 : Int32).toNatClampNeg = 0 := by decide
      omega
  · rw [rd_un e]; exact ⟨b1, b2, b3⟩
/-- a task begins to fall: what depended on its blocks depends on it -/
theorem rd_y8_fall {n : Nat} {ma mb cd ob ob' fr : Nat → Int32} {t : Nat} (hn : n ≤ 8) (ht : t < n) (h : rd_y8 n ma mb cd ob fr) (h8 : cd t ≠ 8) (ho : ∀ u, u < n → ob' u = if ma u = nI t then -1 else ob u) : rd_y8 n ma mb (upd cd t 9) ob' fr := by
  intro u hu hc
  have hc' : cd u ≠ 8 := by
    by_cases e : u = t
    · rw [e]; exact h8
    · rw [rd_un e] at hc; exact hc
  obtain ⟨a, b⟩ := h u hu hc'
  rw [ho u hu]
  refine ⟨fun f => ?_, fun m hm f => ?_⟩
  · rw [f, if_neg (fun z => rd_nm (a := t) (by omega) z.symm)]; exact a f
  · obtain ⟨b1, b2, b3⟩ := b m hm f
    by_cases e : m = t
    · subst e
      rw [rd_us, if_pos f]
      exact ⟨fun _ => rfl, fun _ _ => rfl, fun z => absurd rfl z⟩
    · rw [rd_un e, f, if_neg (fun z => e (rd_inj (by omega) (by omega) z))]
      exact ⟨b1, b2, b3⟩
/-- children at a block of a falling task -/
theorem rd_y8_re {n : Nat} {ma mb cd ob fr : Nat → Int32} {t d : Nat} (hn : n ≤ 8) (ht : t < n) (h : rd_y8 n ma mb cd ob fr) (h9 : cd t = 9) : rd_y8 n ma (rd_re n ma mb t d) cd ob fr := by
  intro u hu hc
  obtain ⟨a, b⟩ := h u hu hc
  refine ⟨a, fun m hm f => ?_⟩
  obtain ⟨b1, b2, b3⟩ := b m hm f
  by_cases e : m = t
  · subst e
    exact ⟨b1, fun z => absurd h9 z, fun z => absurd h9 z⟩
  · unfold rd_re
    rw [if_neg (fun z => e (rd_inj (by omega) (by omega) (f.symm.trans z.2.1)))]
    exact ⟨b1, b2, b3⟩
theorem rd_lv_m1 {n : Nat} {dp fk ma mb cd ob fr : Nat → Int32} {D t : Nat} {bl : Int32} (hn : n ≤ 8) (hDD : D ≤ 500) (ht : t < n) (hB : rd_vB n dp fk ma mb cd) (hr : rd_rng n 8 dp) (h6 : rd_y6 n D dp fk fr bl) (h8 : rd_y8 n ma mb cd ob fr) (h9 : cd t ≠ 9) : rd_lv n ma ob cd t (-1) ↔ rd_lv n ma mb cd t (-1) := by
  constructor
  · rintro ⟨u, hu, e1, e2, e3⟩
    refine ⟨u, hu, e1, ?_, e3⟩
    obtain ⟨_, b⟩ := h8 u hu e3
    obtain ⟨_, b2, b3⟩ := b t ht e1
    rcases hB u hu e3 with y | ⟨m, l, hm, f1, f2, f3, f4⟩
    · exact y
    · have : m = t := rd_inj (by omega) (by omega) (f1.symm.trans e1)
      subst this
      obtain ⟨b', hb', _, g⟩ := h6
      obtain ⟨x, hx, gx⟩ := g m hm l f3 f4
      obtain ⟨j, hj, gj⟩ := hr m hm
      rw [gj, nI_clamp (by omega)] at f3
      have := b3 h9 l (by omega) f2
      rw [e2, gx] at this
      exact absurd this.symm (rd_nm (by omega))
  · rintro ⟨u, hu, e1, e2, e3⟩
    refine ⟨u, hu, e1, ?_, e3⟩
    obtain ⟨_, b⟩ := h8 u hu e3
    exact (b t ht e1).2.1 h9 e2
theorem rd_lv_bl {n : Nat} {dp fk ma mb cd ob fr : Nat → Int32} {D t l : Nat} {bl : Int32} (hn : n ≤ 8) (hDD : D ≤ 500) (ht : t < n) (hB : rd_vB n dp fk ma mb cd) (hr : rd_rng n 8 dp) (h6 : rd_y6 n D dp fk fr bl) (h7 : rd_y7 n dp fk fr) (h8 : rd_y8 n ma mb cd ob fr) (h9 : cd t ≠ 9) (hl : l < (dp t).toNatClampNeg) (hk : fk (8 * t + l) = 0) : rd_lv n ma ob cd t (fr (8 * t + l)) ↔ rd_lv n ma mb cd t (nI l) := by
  have l8 : ∀ l, l < (dp t).toNatClampNeg → l < 8 := by
    intro l hl
    obtain ⟨j, hj, gj⟩ := hr t ht
    rw [gj, nI_clamp (by omega)] at hl
    omega
  constructor
  · rintro ⟨u, hu, e1, e2, e3⟩
    refine ⟨u, hu, e1, ?_, e3⟩
    obtain ⟨_, b⟩ := h8 u hu e3
    obtain ⟨_, b2, b3⟩ := b t ht e1
    rcases hB u hu e3 with y | ⟨m, k, hm, f1, f2, f3, f4⟩
    · obtain ⟨b', hb', _, g⟩ := h6
      obtain ⟨x, hx, gx⟩ := g t ht l hl hk
      have := b2 h9 y
      rw [e2, gx] at this
      exact absurd this (rd_nm (by omega))
    · have : m = t := rd_inj (by omega) (by omega) (f1.symm.trans e1)
      subst this
      have := b3 h9 k (l8 k f3) f2
      rw [e2] at this
      rw [h7 m hm l hl k f3 hk f4 this]
      exact f2
  · rintro ⟨u, hu, e1, e2, e3⟩
    refine ⟨u, hu, e1, ?_, e3⟩
    obtain ⟨_, b⟩ := h8 u hu e3
    exact (b t ht e1).2.2 h9 l (l8 l hl) e2
theorem rd_YL_pop {ex n D : Nat} {A : rd_St} {w : List Nat} {Q : Nat → List Nat} {ra qa wq am rz ob fr st : Nat → Int32} {bl : Int32} {t d : Nat} (h : rd_YL ex n D A w Q ra qa wq am rz ob fr st bl) (hd : A 18 t = nI (d + 1)) (h8 : d < 8) : rd_YL ex n D (rd_sw A  18 t (nI d)) w Q ra qa wq am rz ob fr st bl := by
  have old : ∀ u l, l < (upd (A 18) t (nI d) u).toNatClampNeg → l < (A 18 u).toNatClampNeg := by
    intro u l hl
    by_cases y : u = t
    · subst y
      rw [rd_us, nI_clamp (by omega)] at hl
      rw [rd_cl hd (by omega)]; omega
    · rw [rd_un y] at hl; exact hl
  obtain ⟨b, b1, b2, b3⟩ := h.y6
  exact ⟨h.r, h.y2, h.y3, h.y4, fun u hu l hl => h.y5 u hu l (old u l hl), ⟨b, b1, b2, fun u hu l hl => b3 u hu l (old u l hl)⟩, fun u hu l hl k hk => h.y7 u hu l (old u l hl) k (old u k hk), h.y8, h.y9, h.y10⟩
end
section
/-! the two states over the bundle -/
abbrev rd_tX (A : rd_St) (rl : Int32) (ra qa ql : Nat → Int32) : SX := (rl, (A 25 0), (A 26 0), (A 27 0), (A 28 0), (A 29 0), (A 30 0), (A 31 0), (A 0), (A 1), (A 2), (A 3), (A 4), (A 5), (A 6), (A 7), (A 8), (A 9), (A 10), (A 11), (A 12), (A 13), (A 14), (A 15), (A 16), (A 17), (A 18), (A 19), (A 20), qa, ql, ra, (A 21), (A 22), (A 32), (A 23))
abbrev rd_tY (A : rd_St) (rl : Int32) (ra qa wq am rz ob fr st : Nat → Int32) (bl : Int32) : SY := ((A 26 0), bl, rl, (A 27 0), (A 28 0), (A 29 0), (A 25 0), (A 3), (A 0), (A 1), (A 2), st, (A 5), (A 6), (A 11), (A 8), (A 7), rz, (A 16), (A 18), (A 19), fr, (A 9), ob, (A 13), qa, wq, ra, (A 33), am, (A 21), (A 22))
def rd_XL (w : List Nat) (Q : Nat → List Nat) (ra qa ql : Nat → Int32) : Prop := rd_LV ra 0 w ∧ ∀ q, q < 24 → ql q = nI (Q q).length ∧ rd_LV qa (8 * q) (Q q)
def rd_RX (A : rd_St) (w : List Nat) (Q : Nat → List Nat) (u : SX) : Prop := ∃ ra qa ql, u = rd_tX A (nI w.length) ra qa ql ∧ rd_XL w Q ra qa ql
def rd_RY (ex n D : Nat) (A : rd_St) (w : List Nat) (Q : Nat → List Nat) (v : SY) : Prop := ∃ ra qa wq am rz ob fr st bl, v = rd_tY A (nI w.length) ra qa wq am rz ob fr st bl ∧ rd_YL ex n D A w Q ra qa wq am rz ob fr st bl
theorem rd_RX_mk {A : rd_St} {w : List Nat} {Q : Nat → List Nat} {ra qa ql : Nat → Int32} (h : rd_XL w Q ra qa ql) : rd_RX A w Q (rd_tX A (nI w.length) ra qa ql) := ⟨ra, qa, ql, rfl, h⟩
theorem rd_RY_mk {ex n D : Nat} {A : rd_St} {w : List Nat} {Q : Nat → List Nat} {ra qa wq am rz ob fr st : Nat → Int32} {bl : Int32} (h : rd_YL ex n D A w Q ra qa wq am rz ob fr st bl) : rd_RY ex n D A w Q (rd_tY A (nI w.length) ra qa wq am rz ob fr st bl) := ⟨ra, qa, wq, am, rz, ob, fr, st, bl, rfl, h⟩
theorem rd_XL_put {w : List Nat} {Q : Nat → List Nat} {ra qa ql : Nat → Int32} {t : Nat} (h : rd_XL w Q ra qa ql) : rd_XL (w ++ [t]) Q (upd ra w.length (nI t)) qa ql :=
  ⟨by have := rd_LV_put (x := t) h.1; rw [Nat.zero_add] at this; exact this, h.2⟩
theorem rd_len1 (w : List Nat) (t : Nat) : nI (w ++ [t]).length = nI w.length + 1 := by
  rw [nI_1, List.length_append]; rfl
theorem rd_LV_pre {a : Nat → Int32} : ∀ {l m : List Nat} {o : Nat}, rd_LV a o (l ++ m) → rd_LV a o l
  | [], _, _, _ => trivial
  | x :: l, m, o, h => ⟨h.1, rd_LV_pre h.2⟩
end
section
/-! alternatives; dependents -/
def rd_end (f : Nat → Int32) : Nat → Nat → Nat
  | 0, i => i
  | d + 1, i => if 16 ≤ f i ∧ f i ≤ 20 then rd_end f d (i + 1) else i
theorem rd_end_ge (f : Nat → Int32) : ∀ d i, i ≤ rd_end f d i
  | 0, _ => Nat.le_refl _
  | d + 1, i => by
    simp only [rd_end]
    by_cases h : 16 ≤ f i ∧ f i ≤ 20
    · rw [if_pos h]; have := rd_end_ge f d (i + 1); omega
    · rw [if_neg h]; exact Nat.le_refl _
theorem rd_end_in (f : Nat → Int32) : ∀ d i k, i ≤ k → k < rd_end f d i → 16 ≤ f k ∧ f k ≤ 20
  | 0, i, k, h1, h2 => by simp only [rd_end] at h2; omega
  | d + 1, i, k, h1, h2 => by
    simp only [rd_end] at h2
    by_cases h : 16 ≤ f i ∧ f i ≤ 20
    · rw [if_pos h] at h2
      by_cases e : k = i
      · rw [e]; exact h
      · exact rd_end_in f d (i + 1) k (by omega) h2
    · rw [if_neg h] at h2; omega
theorem rd_end_st (f : Nat → Int32) (L : Nat) (hL : ¬ (16 ≤ f L ∧ f L ≤ 20)) : ∀ d i, i ≤ L → L < i + d → rd_end f d i ≤ L ∧ ¬ (16 ≤ f (rd_end f d i) ∧ f (rd_end f d i) ≤ 20)
  | 0, i, h1, h2 => by omega
  | d + 1, i, h1, h2 => by
    simp only [rd_end]
    by_cases h : 16 ≤ f i ∧ f i ≤ 20
    · rw [if_pos h]
      have : i ≠ L := by intro e; rw [e] at h; exact hL h
      exact rd_end_st f L hL d (i + 1) (by omega) (by omega)
    · rw [if_neg h]; exact ⟨h1, h⟩
theorem rd_scan_no (f : Nat → Int32) (P : Nat → Bool) (d i : Nat) (h : ¬ (16 ≤ f i ∧ f i ≤ 20)) : rd_scan f P d i = none := by
  cases d with
  | zero => rfl
  | succ d => simp only [rd_scan]; rw [if_neg h]
theorem rd_scan_s (f : Nat → Int32) (P : Nat → Bool) (d i : Nat) (h : 16 ≤ f i ∧ f i ≤ 20) (hP : P i = true) : rd_scan f P (d + 1) i = some i := by
  simp only [rd_scan]; rw [if_pos h, if_pos hP]
theorem rd_scan_n (f : Nat → Int32) (P : Nat → Bool) (d i : Nat) (h : 16 ≤ f i ∧ f i ≤ 20) (hP : P i = false) : rd_scan f P (d + 1) i = rd_scan f P d (i + 1) := by
  simp only [rd_scan]; rw [if_pos h, if_neg (by simp [hP])]
/-- what a scan finds is an alternative, at or behind its start -/
theorem rd_scan_some (f : Nat → Int32) (P : Nat → Bool) : ∀ d i k, rd_scan f P d i = some k → i ≤ k ∧ k < i + d ∧ (16 ≤ f k ∧ f k ≤ 20) ∧ P k = true
  | 0, i, k, h => by simp [rd_scan] at h
  | d + 1, i, k, h => by
    by_cases h1 : 16 ≤ f i ∧ f i ≤ 20
    · cases hP : P i
      · rw [rd_scan_n f P d i h1 hP] at h
        obtain ⟨a, b, c⟩ := rd_scan_some f P d (i + 1) k h
        exact ⟨by omega, by omega, c⟩
      · rw [rd_scan_s f P d i h1 hP] at h
        simp at h
        subst h
        exact ⟨Nat.le_refl _, by omega, h1, hP⟩
    · rw [rd_scan_no f P _ i h1] at h; simp at h
theorem rd_scan_cg (f : Nat → Int32) (P R : Nat → Bool) (h : ∀ i, 16 ≤ f i ∧ f i ≤ 20 → P i = R i) : ∀ d i, rd_scan f P d i = rd_scan f R d i
  | 0, i => rfl
  | d + 1, i => by
    simp only [rd_scan]
    by_cases h1 : 16 ≤ f i ∧ f i ≤ 20
    · rw [if_pos h1, if_pos h1, h i h1, rd_scan_cg f P R h d (i + 1)]
    · rw [if_neg h1, if_neg h1]
theorem rd_op_in {ops ln : Nat → Int32} {b i : Nat} (h : 16 ≤ rd_op ops ln b i ∧ rd_op ops ln b i ≤ 20) : i < (ln b).toNatClampNeg := by
  unfold rd_op at h
  apply Classical.byContradiction
  intro z
  rw [if_neg z] at h
  exact absurd h (by decide)
theorem rd_op_i {ops ln : Nat → Int32} {b i : Nat} (h : i < (ln b).toNatClampNeg) : rd_op ops ln b i = ops (20 * b + i) := if_pos h
theorem rd_op_o {ops ln : Nat → Int32} {b i : Nat} (h : ¬ i < (ln b).toNatClampNeg) : rd_op ops ln b i = 25 := if_neg h
/-- the tasks that depend on t (at the blocks that q admits), directly or not -/
def rd_isCh (n : Nat) (ma mb : Nat → Int32) (t : Nat) (q : Int32 → Prop) (ch : Nat → Int32) : Prop := ∀ u, u < n → (ch u = 0 ∨ ch u = 1) ∧ (ch u = 1 ↔ (ma u = nI t ∧ q (mb u)) ∨ ∃ m, m < u ∧ ma u = nI m ∧ ch m = 1)
theorem rd_ch_lv {n : Nat} {ma mb ob cd ch am : Nat → Int32} {t : Nat} {q r : Int32 → Prop} (hn : n ≤ 8) (hX : rd_vX n ma cd) (h : rd_isCh n ma mb t q ch) (g : rd_isCh n ma ob t r am) (e : ∀ u, u < n → cd u ≠ 8 → ma u = nI t → (q (mb u) ↔ r (ob u))) : ∀ u, u < n → cd u ≠ 8 → ch u = am u := by
  have key : ∀ k u, u < k → u < n → cd u ≠ 8 → (ch u = 1 ↔ am u = 1) := by
    intro k
    induction k with
    | zero => intro u hu; omega
    | succ k ih =>
      intro u hu hun hc
      rw [(h u hun).2, (g u hun).2]
      have lw : ∀ m, m < u → ma u = nI m → (ch m = 1 ↔ am m = 1) := by
        intro m hm em
        exact ih m (by omega) (by omega) (fun z => hc (hX u hun m (by omega) em z))
      constructor
      · rintro (⟨a, b⟩ | ⟨m, a, b, c⟩)
        · exact Or.inl ⟨a, (e u hun hc a).mp b⟩
        · exact Or.inr ⟨m, a, b, (lw m a b).mp c⟩
      · rintro (⟨a, b⟩ | ⟨m, a, b, c⟩)
        · exact Or.inl ⟨a, (e u hun hc a).mpr b⟩
        · exact Or.inr ⟨m, a, b, (lw m a b).mpr c⟩
  intro u hu hc
  have z := key (u + 1) u (by omega) hu hc
  rcases (h u hu).1 with a | a
  · rcases (g u hu).1 with b | b
    · rw [a, b]
    · have := z.mpr b
      rw [a] at this
      exact absurd this (by decide)
  · rw [a, z.mp a]
theorem rd_ch_eq {n : Nat} {ma mb ob ch am : Nat → Int32} {t : Nat} (hn : n ≤ 8) (h : rd_isCh n ma mb t (fun _ => True) ch) (g : rd_isCh n ma ob t (fun _ => True) am) : ∀ u, u < n → ch u = am u := by
  intro u hu
  refine rd_ch_lv (cd := fun _ => 0) hn ?_ h g (fun _ _ _ _ => Iff.rfl) u hu (by decide)
  intro u _ m _ _ z
  have z : (0 : Int32) = 8 := z
  exact absurd z (by decide)
end
section
/-! the component's small methods -/
theorem rd_x_makeReady {A : rd_St} {w : List Nat} {Q : Nat → List Nat} {u : SX} {t : Nat} {post : SX → Prop} (hu : rd_RX A w Q u) (ht : t < 8) (hw : w.length < 8) (H : ∀ u', rd_RX (rd_ready A t) (w ++ [t]) Q u' → post u') : wpX_makeReady post u (nI t) := by
  obtain ⟨ra, qa, ql, rfl, hl⟩ := hu
  have ct : (nI t).toNatClampNeg = t := nI_clamp (by omega)
  have cw : (nI w.length).toNatClampNeg = w.length := nI_clamp (by omega)
  have i8 : vp_in (nI t) 8 := vp_in_nI ht (by omega)
  unfold wpX_makeReady
  refine ⟨i8, nm_r (e' := upd (A 4) t 0) (by rw [ct]) ⟨i8, nm_r (e' := upd (A 16) t (-1)) (by rw [ct]) ⟨vp_in_nI hw (by omega), nm_r (e' := upd ra w.length (nI t)) (by rw [cw]) (nm_r (rd_len1 w t).symm ?_)⟩⟩⟩
  exact H _ (rd_RX_mk (A := rd_ready A t) (rd_XL_put (t := t) hl))
theorem rd_xl_row {post : SX → Prop} {A : rd_St} {qa ql : Nat → Int32} {t : Nat} (ht : t < 8) : ∀ (rest K : List Nat) (ra : Nat → Int32) (k rl : Nat), (∀ x, x ∈ rest → x < 8) → rd_LV ra 0 K → rd_LV ra k rest → K.length ≤ k → k + rest.length = rl → rl ≤ 8 → (∀ ra', rd_LV ra' 0 (K ++ rest.filter (fun x => x != t)) → post (rd_tX A (nI (K ++ rest.filter (fun x => x != t)).length) ra' qa ql)) → wX_leaveRow_4 post (nI t) (nI rl) (A 25 0) (A 26 0) (A 27 0) (A 28 0) (A 29 0) (A 30 0) (A 31 0) (rest.length + 1) (nI K.length) (nI k) (A 0) (A 1) (A 2) (A 3) (A 4) (A 5) (A 6) (A 7) (A 8) (A 9) (A 10) (A 11) (A 12) (A 13) (A 14) (A 15) (A 16) (A 17) (A 18) (A 19) (A 20) qa ql ra (A 21) (A 22) (A 32) (A 23)
  | [], K, ra, k, rl, _, h1, _, h3, h4, h5, H => by
    simp only [List.length_nil, Nat.add_zero] at h4
    subst h4
    have := H ra (by simpa using h1)
    simp only [List.filter_nil, List.append_nil] at this
    exact br_t (nI_le (Nat.le_refl _) (by omega)) this
  | x :: rest, K, ra, k, rl, hx, h1, h2, h3, h4, h5, H => by
    simp only [List.length_cons] at h4
    have ck : (nI k).toNatClampNeg = k := nI_clamp (by omega)
    have cK : (nI K.length).toNatClampNeg = K.length := nI_clamp (by omega)
    have e : ra (nI k).toNatClampNeg = nI x := by rw [ck]; exact h2.1
    have x8 := hx x (by simp)
    refine br_f (nI_ge (by omega) (by omega)) ⟨vp_in_nI (by omega) (by omega), ?_⟩
    by_cases z : x = t
    · refine br_t (by rw [e, z]) (nm_r (nI_1 k) ?_)
      refine rd_xl_row ht rest K ra (k + 1) rl (fun y hy => hx y (by simp [hy])) h1 h2.2 (by omega) (by omega) h5 ?_
      intro ra' h
      have g := H ra'
      rw [List.filter_cons, if_neg (by simp [z])] at g
      exact g h
    · refine br_f (by rw [e]; exact fun q => z (rd_inj (by omega) (by omega) q)) ⟨vp_in_nI (by omega) (by omega), vp_in_nI (by omega) (by omega), nm_r (e' := upd ra K.length (nI x)) (by rw [e, cK]) (nm_r (nI_1 _) (nm_r (nI_1 k) ?_))⟩
      have eL : (K ++ [x]).length = K.length + 1 := by simp
      have g := rd_xl_row (post := post) (A := A) (qa := qa) (ql := ql) ht rest (K ++ [x]) (upd ra K.length (nI x)) (k + 1) rl (fun y hy => hx y (by simp [hy])) (by have := rd_LV_put (x := x) h1; rw [Nat.zero_add] at this; exact this) (rd_LV_fr h2.2 (fun i hi _ => rd_un (by omega))) (by omega) (by omega) h5 (by
        intro ra' h
        have g := H ra'
        rw [List.filter_cons, if_pos (by simp [z])] at g
        rw [List.append_assoc] at h ⊢
        exact g h)
      rw [eL] at g
      exact g
theorem rd_x_leaveRow {A : rd_St} {w : List Nat} {Q : Nat → List Nat} {u : SX} {t : Nat} {post : SX → Prop} (hu : rd_RX A w Q u) (ht : t < 8) (hw : w.length ≤ 8) (hx : ∀ x, x ∈ w → x < 8) (H : ∀ u', rd_RX A (w.filter (fun x => x != t)) Q u' → post u') : wpX_leaveRow post u (nI t) := by
  obtain ⟨ra, qa, ql, rfl, hl⟩ := hu
  unfold wpX_leaveRow
  exact ⟨_, rd_xl_row ht w [] ra 0 w.length hx trivial hl.1 (Nat.zero_le _) (by simp) hw (fun ra' h => H _ (rd_RX_mk ⟨h, hl.2⟩))⟩
theorem rd_xl_que {post : SX → Prop} {A : rd_St} {rl : Int32} {ra ql : Nat → Int32} {t q len : Nat} (ht : t < 8) (hq : q < 24) (hl : ql q = nI len) (h8 : len ≤ 8) : ∀ (rest K : List Nat) (qa : Nat → Int32) (k : Nat), (∀ x, x ∈ rest → x < 8) → rd_LV qa (8 * q) K → rd_LV qa (8 * q + k) rest → K.length ≤ k → k + rest.length = len → (∀ qa', rd_LV qa' (8 * q) (K ++ rest.filter (fun x => x != t)) → (∀ i, i < 8 * q ∨ 8 * q + 8 ≤ i → qa' i = qa i) → post (rd_tX A rl ra qa' (upd ql q (nI (K ++ rest.filter (fun x => x != t)).length)))) → wX_leaveQueue_12 post (nI t) (nI q) rl (A 25 0) (A 26 0) (A 27 0) (A 28 0) (A 29 0) (A 30 0) (A 31 0) (rest.length + 1) (nI K.length) (nI k) (A 0) (A 1) (A 2) (A 3) (A 4) (A 5) (A 6) (A 7) (A 8) (A 9) (A 10) (A 11) (A 12) (A 13) (A 14) (A 15) (A 16) (A 17) (A 18) (A 19) (A 20) qa ql ra (A 21) (A 22) (A 32) (A 23)
  | [], K, qa, k, _, h1, _, h3, h4, H => by
    simp only [List.length_nil, Nat.add_zero] at h4
    subst h4
    have cq : (nI q).toNatClampNeg = q := nI_clamp (by omega)
    have g := H qa (by simpa using h1) (fun _ _ => rfl)
    simp only [List.filter_nil, List.append_nil] at g
    exact ⟨vp_in_nI hq (by omega), br_t (by rw [cq, hl]; exact nI_le (Nat.le_refl _) (by omega)) ⟨vp_in_nI hq (by omega), nm_r (e' := upd ql q (nI K.length)) (by rw [cq]) g⟩⟩
  | x :: rest, K, qa, k, hx, h1, h2, h3, h4, H => by
    simp only [List.length_cons] at h4
    have cq : (nI q).toNatClampNeg = q := nI_clamp (by omega)
    have ik : nI q * 8 + nI k = nI (8 * q + k) := rd_ix q k 8 8 rfl
    have iK : nI q * 8 + nI K.length = nI (8 * q + K.length) := rd_ix q K.length 8 8 rfl
    have ck : (nI (8 * q + k)).toNatClampNeg = 8 * q + k := nI_clamp (by omega)
    have cK : (nI (8 * q + K.length)).toNatClampNeg = 8 * q + K.length := nI_clamp (by omega)
    have x8 := hx x (by simp)
    refine ⟨vp_in_nI hq (by omega), br_f (by rw [cq, hl]; exact nI_ge (by omega) (by omega)) ⟨by rw [ik]; exact vp_in_nI (by omega) (by omega), nm_r (e' := nI x) (by rw [ik, ck]; exact h2.1) ?_⟩⟩
    by_cases z : x = t
    · refine br_t (by rw [z]) (nm_r (nI_1 k) ?_)
      refine rd_xl_que ht hq hl h8 rest K qa (k + 1) (fun y hy => hx y (by simp [hy])) h1 h2.2 (by omega) (by omega) ?_
      intro qa' h h'
      have g := H qa'
      rw [List.filter_cons, if_neg (by simp [z])] at g
      exact g h h'
    · refine br_f (fun y => z (rd_inj (by omega) (by omega) y)) ⟨by rw [iK]; exact vp_in_nI (by omega) (by omega), nm_r (e' := upd qa (8 * q + K.length) (nI x)) (by rw [iK, cK]) (nm_r (nI_1 _) (nm_r (nI_1 k) ?_))⟩
      have eL : (K ++ [x]).length = K.length + 1 := by simp
      have g := rd_xl_que (post := post) (A := A) (rl := rl) (ra := ra) ht hq hl h8 rest (K ++ [x]) (upd qa (8 * q + K.length) (nI x)) (k + 1) (fun y hy => hx y (by simp [hy])) (rd_LV_put (x := x) h1) (rd_LV_fr h2.2 (fun i hi _ => rd_un (by omega))) (by omega) (by omega) (by
        intro qa' h h'
        have g := H qa'
        rw [List.filter_cons, if_pos (by simp [z])] at g
        rw [List.append_assoc] at h ⊢
        exact g h (fun i hi => (h' i hi).trans (rd_un (by omega))))
      rw [eL] at g
      exact g
theorem rd_x_leaveQueue {A : rd_St} {w : List Nat} {Q : Nat → List Nat} {u : SX} {t q : Nat} {post : SX → Prop} (hu : rd_RX A w Q u) (ht : t < 8) (hq : q < 24) (hc : A 15 t = nI q) (hw : ∀ p, (Q p).length ≤ 8) (hx : ∀ x, x ∈ Q q → x < 8) (H : ∀ u', rd_RX A w (rd_dq Q q ((Q q).filter (fun x => x != t))) u' → post u') : wpX_leaveQueue post u (nI t) := by
  obtain ⟨ra, qa, ql, rfl, hl⟩ := hu
  have ct : (nI t).toNatClampNeg = t := nI_clamp (by omega)
  unfold wpX_leaveQueue
  refine ⟨vp_in_nI ht (by omega), nm_r (e' := nI q) (by rw [ct]; exact hc) ⟨_, rd_xl_que ht hq (hl.2 q hq).1 (hw q) (Q q) [] qa 0 hx trivial (hl.2 q hq).2 (Nat.zero_le _) (by simp) ?_⟩⟩
  intro qa' h1 h2
  refine H _ (rd_RX_mk ⟨hl.1, fun p hp => ?_⟩)
  by_cases e : p = q
  · subst e
    rw [rd_us, rd_dq_s]
    exact ⟨rfl, h1⟩
  · rw [rd_un e, rd_dq_n e]
    refine ⟨(hl.2 p hp).1, rd_LV_fr (hl.2 p hp).2 (fun i a b => h2 i ?_)⟩
    have := hw p
    omega
theorem rd_x_wd29 {A : rd_St} {w : List Nat} {Q : Nat → List Nat} {ra qa ql : Nat → Int32} {t : Nat} {post : SX → Prop} (hl : rd_XL w Q ra qa ql) (ht : t < 8) (H : ∀ u', rd_RX (rd_fall A t) w Q u' → post u') : wX_withdraw_29 post (nI t) (nI w.length) (A 25 0) (A 26 0) (A 27 0) (A 28 0) (A 29 0) (A 30 0) (A 31 0) (A 0) (A 1) (A 2) (A 3) (A 4) (A 5) (A 6) (A 7) (A 8) (A 9) (A 10) (A 11) (A 12) (A 13) (A 14) (A 15) (A 16) (A 17) (A 18) (A 19) (A 20) qa ql ra (A 21) (A 22) (A 32) (A 23) := by
  have ct : (nI t).toNatClampNeg = t := nI_clamp (by omega)
  have i8 : vp_in (nI t) 8 := vp_in_nI ht (by omega)
  exact ⟨i8, nm_r (e' := upd (A 4) t 9) (by rw [ct]) ⟨i8, nm_r (e' := upd (A 16) t (-1)) (by rw [ct]) (H _ (rd_RX_mk (A := rd_fall A t) hl))⟩⟩
theorem rd_dq_fq {n : Nat} {cd cq : Nat → Int32} {Q : Nat → List Nat} {t q : Nat} (hn : n ≤ 8) (h : rd_vQ n cd cq Q) (hc : cq t = nI q) (hq : q < 24) : rd_dq Q q ((Q q).filter (fun x => x != t)) = rd_fq Q t := by
  funext p
  unfold rd_fq
  by_cases e : p = q
  · rw [e, rd_dq_s]
  · rw [rd_dq_n e, rd_fl_not]
    intro hm
    have := (h p).2 t hm
    exact e (rd_inj (by omega) (by omega) (this.2.2.1.symm.trans hc))
theorem rd_x_wd14 {n e D : Nat} {A : rd_St} {w z : List Nat} {Q : Nat → List Nat} {ra qa ql : Nat → Int32} {t : Nat} {post : SX → Prop} (I : rd_Inv n e D A z Q) (hl : rd_XL w Q ra qa ql) (ht : t < n) (H : ∀ u', rd_RX (rd_fall A t) w (rd_fq Q t) u' → post u') : wX_withdraw_14 post (nI t) (nI w.length) (A 25 0) (A 26 0) (A 27 0) (A 28 0) (A 29 0) (A 30 0) (A 31 0) (A 0) (A 1) (A 2) (A 3) (A 4) (A 5) (A 6) (A 7) (A 8) (A 9) (A 10) (A 11) (A 12) (A 13) (A 14) (A 15) (A 16) (A 17) (A 18) (A 19) (A 20) qa ql ra (A 21) (A 22) (A 32) (A 23) := by
  have hn := I.vN.2
  have ct : (nI t).toNatClampNeg = t := nI_clamp (by omega)
  have i8 : vp_in (nI t) 8 := vp_in_nI (by omega) (by omega)
  by_cases h1 : A 4 t = 1
  · obtain ⟨q, hq, hc⟩ := I.vZ t ht h1
    refine ⟨i8, br_t (by rw [ct]; exact h1) (rd_x_leaveQueue (rd_RX_mk hl) (by omega) (show q < 24 by omega) hc (fun p => Nat.le_trans (rd_qlen I) hn) (fun x hx => Nat.lt_of_lt_of_le ((I.vQ q).2 x hx).1 hn) ?_)⟩
    rintro u' ⟨ra', qa', ql', rfl, hl'⟩
    rw [rd_dq_fq hn I.vQ hc (by omega)] at hl'
    exact rd_x_wd29 hl' (by omega) H
  · refine ⟨i8, br_f (by rw [ct]; exact h1) (rd_x_wd29 hl (by omega) ?_)⟩
    rw [rd_fq_no (rd_vQ_no I.vQ h1)] at H
    exact H
theorem rd_x_withdraw {n e D : Nat} {A : rd_St} {w : List Nat} {Q : Nat → List Nat} {u : SX} {t : Nat} {post : SX → Prop} (I : rd_Inv n e D A w Q) (hu : rd_RX A w Q u) (ht : t < n) (H : ∀ u', rd_RX (rd_fall A t) (w.filter (fun x => x != t)) (rd_fq Q t) u' → post u') : wpX_withdraw post u (nI t) := by
  have hn := I.vN.2
  have ct : (nI t).toNatClampNeg = t := nI_clamp (by omega)
  have i8 : vp_in (nI t) 8 := vp_in_nI (by omega) (by omega)
  obtain ⟨ra, qa, ql, rfl, hl⟩ := hu
  unfold wpX_withdraw
  by_cases h0 : A 4 t = 0
  · refine ⟨i8, br_t (by rw [ct]; exact h0) (rd_x_leaveRow (rd_RX_mk hl) (by omega) (Nat.le_trans (rd_wlen I) hn) (fun x hx => Nat.lt_of_lt_of_le ((I.vR.2 x).mp hx).1 hn) ?_)⟩
    rintro u' ⟨ra', qa', ql', rfl, hl'⟩
    exact rd_x_wd14 I hl' ht H
  · refine ⟨i8, br_f (by rw [ct]; exact h0) (rd_x_wd14 I hl ht ?_)⟩
    rw [rd_fl_not (fun y => h0 ((I.vR.2 t).mp y).2)] at H
    exact H
theorem rd_xl_liv {post : Int32 → Prop} {A : rd_St} {rl : Int32} {ra qa ql : Nat → Int32} {t n : Nat} {b : Int32} (hn : n ≤ 8) (hk : A 26 0 = nI n) (H1 : rd_lv n (A 9) (A 10) (A 4) t b → post 1) (H0 : ¬ rd_lv n (A 9) (A 10) (A 4) t b → post 0) : ∀ (d k : Nat), k + d = n → (∀ u, u < k → ¬ (A 9 u = nI t ∧ A 10 u = b ∧ A 4 u ≠ 8)) → wX_hasLiving_2 post (nI t) b rl (A 25 0) (A 26 0) (A 27 0) (A 28 0) (A 29 0) (A 30 0) (A 31 0) (A 0) (A 1) (A 2) (A 3) (A 4) (A 5) (A 6) (A 7) (A 8) (A 9) (A 10) (A 11) (A 12) (A 13) (A 14) (A 15) (A 16) (A 17) (A 18) (A 19) (A 20) qa ql ra (A 21) (A 22) (A 32) (A 23) (d + 1) (nI k)
  | 0, k, h1, h2 => by
    have e : k = n := by omega
    subst e
    refine br_t (by rw [hk]; exact nI_le (Nat.le_refl _) (by omega)) (H0 ?_)
    rintro ⟨u, hu, a⟩
    exact h2 u hu a
  | d + 1, k, h1, h2 => by
    have ck : (nI k).toNatClampNeg = k := nI_clamp (by omega)
    have i8 : vp_in (nI k) 8 := vp_in_nI (by omega) (by omega)
    have next : ¬ (A 9 k = nI t ∧ A 10 k = b ∧ A 4 k ≠ 8) → wX_hasLiving_2 post (nI t) b rl (A 25 0) (A 26 0) (A 27 0) (A 28 0) (A 29 0) (A 30 0) (A 31 0) (A 0) (A 1) (A 2) (A 3) (A 4) (A 5) (A 6) (A 7) (A 8) (A 9) (A 10) (A 11) (A 12) (A 13) (A 14) (A 15) (A 16) (A 17) (A 18) (A 19) (A 20) qa ql ra (A 21) (A 22) (A 32) (A 23) (d + 1) (nI (k + 1)) := fun z =>
      rd_xl_liv hn hk H1 H0 d (k + 1) (by omega) (fun u hu => by
        by_cases e : u = k
        · rw [e]; exact z
        · exact h2 u (by omega))
    refine br_f (by rw [hk]; exact nI_ge (by omega) (by omega)) ⟨i8, ?_⟩
    by_cases e1 : A 9 k = nI t
    · refine br_t (by rw [ck]; exact e1) ⟨i8, ?_⟩
      by_cases e2 : A 10 k = b
      · refine br_t (by rw [ck]; exact e2) ⟨i8, ?_⟩
        by_cases e3 : A 4 k = 8
        · exact br_t (by rw [ck]; exact e3) (nm_r (nI_1 k) (next (fun z => z.2.2 e3)))
        · exact br_f (by rw [ck]; exact e3) (H1 ⟨k, by omega, e1, e2, e3⟩)
      · exact br_f (by rw [ck]; exact e2) (nm_r (nI_1 k) (next (fun z => e2 z.2.1)))
    · exact br_f (by rw [ck]; exact e1) (nm_r (nI_1 k) (next (fun z => e1 z.1)))
theorem rd_x_hasLiving {post : Int32 → Prop} {A : rd_St} {rl : Int32} {ra qa ql : Nat → Int32} {t n : Nat} {b : Int32} (hn : rd_vN n (A 26)) (H1 : rd_lv n (A 9) (A 10) (A 4) t b → post 1) (H0 : ¬ rd_lv n (A 9) (A 10) (A 4) t b → post 0) : wpX_hasLiving post (rd_tX A rl ra qa ql) (nI t) b := by
  unfold wpX_hasLiving
  exact ⟨_, rd_xl_liv hn.2 hn.1 H1 H0 n 0 (by omega) (fun u hu => by omega)⟩
theorem rd_x_waitAs {A : rd_St} {w : List Nat} {Q : Nat → List Nat} {u : SX} {t : Nat} {s : Int32} {post : SX → Prop} (hu : rd_RX A w Q u) (ht : t < 8) (hw : w.length ≤ 8) (hx : ∀ x, x ∈ w → x < 8) (H : ∀ u', rd_RX (rd_sw A  4 t s) (w.filter (fun x => x != t)) Q u' → post u') : wpX_waitAs post u (nI t) s := by
  have ct : (nI t).toNatClampNeg = t := nI_clamp (by omega)
  obtain ⟨ra, qa, ql, rfl, hl⟩ := hu
  unfold wpX_waitAs
  refine rd_x_leaveRow (rd_RX_mk hl) ht hw hx ?_
  rintro u' ⟨ra', qa', ql', rfl, hl'⟩
  exact ⟨vp_in_nI ht (by omega), nm_r (e' := upd (A 4) t s) (by rw [ct]) (H _ (rd_RX_mk (A := rd_sw A  4 t s) hl'))⟩
theorem rd_x_putUp {A : rd_St} {w : List Nat} {Q : Nat → List Nat} {u : SX} {t d : Nat} {k v : Int32} {post : SX → Prop} (hu : rd_RX A w Q u) (ht : t < 8) (hd : A 18 t = nI d) (hd8 : d < 8) (H : ∀ u', rd_RX (rd_sw (rd_sw (rd_sw A  19 (8 * t + d) k)  20 (8 * t + d) v)  18 t (nI (d + 1))) w Q u' → post u') : wpX_putUp post u (nI t) k v := by
  have ct : (nI t).toNatClampNeg = t := nI_clamp (by omega)
  have i8 : vp_in (nI t) 8 := vp_in_nI (by omega) (by omega)
  have cd : (nI (8 * t + d)).toNatClampNeg = 8 * t + d := nI_clamp (by omega)
  have i64 : vp_in (nI (8 * t + d)) 64 := vp_in_nI (by omega) (by omega)
  obtain ⟨ra, qa, ql, rfl, hl⟩ := hu
  unfold wpX_putUp
  refine ⟨i8, nm_r (e' := nI (8 * t + d)) (by rw [ct, hd]; exact rd_ix t d 8 8 rfl) ⟨i64, nm_r (e' := upd (A 19) (8 * t + d) k) (by rw [cd]) ⟨i64, nm_r (e' := upd (A 20) (8 * t + d) v) (by rw [cd]) ⟨i8, i8, nm_r (e' := upd (A 18) t (nI (d + 1))) (by rw [ct, hd, nI_1]) ?_⟩⟩⟩⟩
  exact H _ (rd_RX_mk (A := rd_sw (rd_sw (rd_sw A  19 (8 * t + d) k)  20 (8 * t + d) v)  18 t (nI (d + 1))) hl)
end
section
/-! the reference's small methods -/
theorem rd_y_wake {ex n D : Nat} {A : rd_St} {w : List Nat} {Q : Nat → List Nat} {v : SY} {t : Nat} {post : SY → Prop} (hv : rd_RY ex n D A w Q v) (hn : n ≤ 8) (ht : t < n) (hw : w.length < 8) (h7 : A 4 t ≠ 7) (h8 : A 4 t ≠ 8) (h9 : A 4 t ≠ 9) (H : ∀ v', rd_RY ex n D (rd_ready A t) (w ++ [t]) Q v' → post v') : wpY_wake post v (nI t) := by
  obtain ⟨ra, qa, wq, am, rz, ob, fr, st, bl, rfl, hl⟩ := hv
  have ct : (nI t).toNatClampNeg = t := nI_clamp (by omega)
  have cw : (nI w.length).toNatClampNeg = w.length := nI_clamp (by omega)
  have i8 : vp_in (nI t) 8 := vp_in_nI (by omega) (by omega)
  unfold wpY_wake
  refine ⟨i8, nm_r (e' := upd st t 0) (by rw [ct]) ⟨i8, nm_r (e' := upd (A 16) t (-1)) (by rw [ct]) ⟨vp_in_nI hw (by omega), nm_r (e' := upd ra w.length (nI t)) (by rw [cw]) (nm_r (rd_len1 w t).symm ?_)⟩⟩⟩
  have hr : rd_LV (upd ra w.length (nI t)) 0 (w ++ [t]) := by
    have := rd_LV_put (x := t) hl.r
    rw [Nat.zero_add] at this
    exact this
  exact H _ (rd_RY_mk (A := rd_ready A t) ⟨hr, hl.y2, hl.y3, rd_y4_cd hl.y4 (Or.inr ⟨h7, h8, h9⟩), hl.y5, hl.y6, hl.y7, rd_y8_cd hl.y8 (by decide) h9 h8, rd_y9_u hl.y9 rfl, hl.y10⟩)
theorem rd_yl_row {post : SY → Prop} {A : rd_St} {qa wq am rz ob fr st : Nat → Int32} {bl : Int32} {t : Nat} (ht : t < 8) : ∀ (rest K : List Nat) (ra : Nat → Int32) (k rl : Nat), (∀ x, x ∈ rest → x < 8) → rd_LV ra 0 K → rd_LV ra k rest → K.length ≤ k → k + rest.length = rl → rl ≤ 8 → (∀ ra', rd_LV ra' 0 (K ++ rest.filter (fun x => x != t)) → post (rd_tY A (nI (K ++ rest.filter (fun x => x != t)).length) ra' qa wq am rz ob fr st bl)) → wY_leaveRow_4 post (nI t) (A 26 0) bl (nI rl) (A 27 0) (A 28 0) (A 29 0) (A 25 0) (rest.length + 1) (nI K.length) (nI k) (A 3) (A 0) (A 1) (A 2) st (A 5) (A 6) (A 11) (A 8) (A 7) rz (A 16) (A 18) (A 19) fr (A 9) ob (A 13) qa wq ra (A 33) am (A 21) (A 22)
  | [], K, ra, k, rl, _, h1, _, h3, h4, h5, H => by
    simp only [List.length_nil, Nat.add_zero] at h4
    subst h4
    have := H ra (by simpa using h1)
    simp only [List.filter_nil, List.append_nil] at this
    exact br_t (nI_le (Nat.le_refl _) (by omega)) this
  | x :: rest, K, ra, k, rl, hx, h1, h2, h3, h4, h5, H => by
    simp only [List.length_cons] at h4
    have ck : (nI k).toNatClampNeg = k := nI_clamp (by omega)
    have cK : (nI K.length).toNatClampNeg = K.length := nI_clamp (by omega)
    have x8 := hx x (by simp)
    refine br_f (nI_ge (by omega) (by omega)) ⟨vp_in_nI (by omega) (by omega), nm_r (e' := nI x) (by rw [ck]; exact h2.1) ?_⟩
    by_cases z : x = t
    · refine br_t (by rw [z]) (nm_r (nI_1 k) ?_)
      refine rd_yl_row ht rest K ra (k + 1) rl (fun y hy => hx y (by simp [hy])) h1 h2.2 (by omega) (by omega) h5 ?_
      intro ra' h
      have g := H ra'
      rw [List.filter_cons, if_neg (by simp [z])] at g
      exact g h
    · refine br_f (fun q => z (rd_inj (by omega) (by omega) q)) ⟨vp_in_nI (by omega) (by omega), nm_r (e' := upd ra K.length (nI x)) (by rw [cK]) (nm_r (nI_1 _) (nm_r (nI_1 k) ?_))⟩
      have eL : (K ++ [x]).length = K.length + 1 := by simp
      have g := rd_yl_row (post := post) (A := A) (qa := qa) (wq := wq) (am := am) (rz := rz) (ob := ob) (fr := fr) (st := st) (bl := bl) ht rest (K ++ [x]) (upd ra K.length (nI x)) (k + 1) rl (fun y hy => hx y (by simp [hy])) (by have := rd_LV_put (x := x) h1; rw [Nat.zero_add] at this; exact this) (rd_LV_fr h2.2 (fun i hi _ => rd_un (by omega))) (by omega) (by omega) h5 (by
        intro ra' h
        have g := H ra'
        rw [List.filter_cons, if_pos (by simp [z])] at g
        rw [List.append_assoc] at h ⊢
        exact g h)
      rw [eL] at g
      exact g
theorem rd_y_leaveRow {A : rd_St} {w : List Nat} {ra qa wq am rz ob fr st : Nat → Int32} {bl : Int32} {t : Nat} {post : SY → Prop} (hl : rd_LV ra 0 w) (ht : t < 8) (hw : w.length ≤ 8) (hx : ∀ x, x ∈ w → x < 8) (H : ∀ ra', rd_LV ra' 0 (w.filter (fun x => x != t)) → post (rd_tY A (nI (w.filter (fun x => x != t)).length) ra' qa wq am rz ob fr st bl)) : wpY_leaveRow post (rd_tY A (nI w.length) ra qa wq am rz ob fr st bl) (nI t) := by
  unfold wpY_leaveRow
  exact ⟨_, rd_yl_row ht w [] ra 0 w.length hx trivial hl (Nat.zero_le _) (by simp) hw (fun ra' h => H ra' h)⟩
theorem rd_y_rest {A : rd_St} {w : List Nat} {ra qa wq am rz ob fr st : Nat → Int32} {bl x : Int32} {t : Nat} {post : SY → Prop} (hl : rd_LV ra 0 w) (ht : t < 8) (hw : w.length ≤ 8) (hx : ∀ x, x ∈ w → x < 8) (H : ∀ ra', rd_LV ra' 0 (w.filter (fun x => x != t)) → post (rd_tY (rd_sw A  16 t (-1)) (nI (w.filter (fun x => x != t)).length) ra' qa wq am rz ob fr (upd st t x) bl)) : wpY_rest post (rd_tY A (nI w.length) ra qa wq am rz ob fr st bl) (nI t) x := by
  have ct : (nI t).toNatClampNeg = t := nI_clamp (by omega)
  have i8 : vp_in (nI t) 8 := vp_in_nI (by omega) (by omega)
  unfold wpY_rest
  refine rd_y_leaveRow hl ht hw hx (fun ra' h => ?_)
  exact ⟨i8, nm_r (e' := upd st t x) (by rw [ct]) ⟨i8, nm_r (e' := upd (A 16) t (-1)) (by rw [ct]) (H ra' h)⟩⟩
theorem rd_yl_que {post : SY → Prop} {J : Int32 → (Nat → Int32) → (Nat → Int32) → (Nat → Int32) → (Nat → Int32) → (Nat → Int32) → (Nat → Int32) → (Nat → Int32) → (Nat → Int32) → (Nat → Int32) → (Nat → Int32) → (Nat → Int32) → (Nat → Int32) → (Nat → Int32) → (Nat → Int32) → (Nat → Int32) → (Nat → Int32) → (Nat → Int32) → (Nat → Int32) → (Nat → Int32) → (Nat → Int32) → (Nat → Int32) → (Nat → Int32) → (Nat → Int32) → (Nat → Int32) → (Nat → Int32) → Prop} {A : rd_St} {rl : Int32} {ra wq am rz ob fr st : Nat → Int32} {bl : Int32} {t q len : Nat} (ht : t < 8) (hq : q < 24) (hl : wq q = nI len) (h8 : len ≤ 8) : ∀ (d : Nat) (qa : Nat → Int32) (j k : Nat), j ≤ k → k + d = len → (∀ qa' j', j' ≤ len → (∀ i, i < 8 * q ∨ 8 * q + 8 ≤ i → qa' i = qa i) → (∀ K rest, K.length = j → rest.length = d → rd_LV qa (8 * q) K → rd_LV qa (8 * q + k) rest → (∀ x, x ∈ rest → x < 8) → rd_LV qa' (8 * q) (K ++ rest.filter (fun x => x != t)) ∧ j' = (K ++ rest.filter (fun x => x != t)).length) → J (nI (q + 1)) (A 3) (A 0) (A 1) (A 2) st (A 5) (A 6) (A 11) (A 8) (A 7) rz (A 16) (A 18) (A 19) fr (A 9) ob (A 13) qa' (upd wq q (nI j')) ra (A 33) am (A 21) (A 22)) → wY_leaveQueues_13 post J (nI t) (nI q) (A 26 0) bl rl (A 27 0) (A 28 0) (A 29 0) (A 25 0) (d + 1) (nI j) (nI k) (A 3) (A 0) (A 1) (A 2) st (A 5) (A 6) (A 11) (A 8) (A 7) rz (A 16) (A 18) (A 19) fr (A 9) ob (A 13) qa wq ra (A 33) am (A 21) (A 22)
  | 0, qa, j, k, h1, h2, H => by
    have e : k = len := by omega
    subst e
    have cq : (nI q).toNatClampNeg = q := nI_clamp (by omega)
    have iq : vp_in (nI q) 24 := vp_in_nI hq (by omega)
    refine ⟨iq, br_t (by rw [cq, hl]; exact nI_le (Nat.le_refl _) (by omega)) ⟨iq, nm_r (e' := upd wq q (nI j)) (by rw [cq]) (nm_r (nI_1 q) (H qa j h1 (fun _ _ => rfl) ?_))⟩⟩
    intro K rest a b c _ _
    have : rest = [] := List.length_eq_zero_iff.mp b
    subst this
    simp only [List.filter_nil, List.append_nil]
    exact ⟨c, a.symm⟩
  | d + 1, qa, j, k, h1, h2, H => by
    have cq : (nI q).toNatClampNeg = q := nI_clamp (by omega)
    have iq : vp_in (nI q) 24 := vp_in_nI hq (by omega)
    have ik : 8 * nI q + nI k = nI (8 * q + k) := rd_ix' q k 8 8 rfl
    have ij : 8 * nI q + nI j = nI (8 * q + j) := rd_ix' q j 8 8 rfl
    have ck : (nI (8 * q + k)).toNatClampNeg = 8 * q + k := nI_clamp (by omega)
    have cj : (nI (8 * q + j)).toNatClampNeg = 8 * q + j := nI_clamp (by omega)
    refine ⟨iq, br_f (by rw [cq, hl]; exact nI_ge (by omega) (by omega)) ⟨by rw [ik]; exact vp_in_nI (by omega) (by omega), nm_r (e' := qa (8 * q + k)) (by rw [ik, ck]) ⟨by rw [ij]; exact vp_in_nI (by omega) (by omega), nm_r (e' := upd qa (8 * q + j) (qa (8 * q + k))) (by rw [ij, cj]) ?_⟩⟩⟩
    by_cases z : qa (8 * q + k) = nI t
    · refine br_t z (nm_r (nI_1 k) (rd_yl_que ht hq hl h8 d _ j (k + 1) (by omega) (by omega) ?_))
      intro qa' j' a b c
      refine H qa' j' a (fun i hi => (b i hi).trans (rd_un (by omega))) ?_
      intro K rest e1 e2 e3 e4 e5
      cases rest with
      | nil => simp at e2
      | cons x rest =>
        have ex : x = t := rd_inj (by have := e5 x (by simp); omega) (by omega) (e4.1.symm.trans z)
        rw [List.filter_cons, if_neg (by simp [ex])]
        exact c K rest e1 (by simpa using e2) (rd_LV_fr e3 (fun i _ hi => rd_un (by omega))) (rd_LV_fr e4.2 (fun i hi _ => rd_un (by omega))) (fun y hy => e5 y (by simp [hy]))
    · refine br_f z (nm_r (nI_1 j) (nm_r (nI_1 k) (rd_yl_que ht hq hl h8 d _ (j + 1) (k + 1) (by omega) (by omega) ?_)))
      intro qa' j' a b c
      refine H qa' j' a (fun i hi => (b i hi).trans (rd_un (by omega))) ?_
      intro K rest e1 e2 e3 e4 e5
      cases rest with
      | nil => simp at e2
      | cons x rest =>
        have ex : x ≠ t := fun y => z (by rw [← y]; exact e4.1)
        rw [List.filter_cons, if_pos (by simp [ex])]
        have := c (K ++ [x]) rest (by simp [e1]) (by simpa using e2) (by
          have h := rd_LV_put (x := x) e3
          rw [e1] at h
          rw [show qa (8 * q + k) = nI x from e4.1]
          exact h) (rd_LV_fr e4.2 (fun i hi _ => rd_un (by omega))) (fun y hy => e5 y (by simp [hy]))
        rw [List.append_assoc] at this
        exact this
theorem rd_yl_queo {post : SY → Prop} {n : Nat} {Q : Nat → List Nat} {A : rd_St} {rl : Int32} {ra am rz ob fr st : Nat → Int32} {bl : Int32} {t : Nat} (hn : n ≤ 8) (ht : t < 8) (hQ : ∀ q, (Q q).length ≤ 8) (hx : ∀ q x, x ∈ Q q → x < 8) (H : ∀ qa' wq', rd_rng 24 8 wq' → rd_y3 n (rd_fq Q t) wq' qa' → post (rd_tY A rl ra qa' wq' am rz ob fr st bl)) : ∀ (d q : Nat) (qa wq : Nat → Int32), q + d = 24 → rd_rng 24 8 wq → rd_y3 n (fun p => if p < q then rd_fq Q t p else Q p) wq qa → wY_leaveQueues_2 post (nI t) (A 26 0) bl rl (A 27 0) (A 28 0) (A 29 0) (A 25 0) (d + 1) (nI q) (A 3) (A 0) (A 1) (A 2) st (A 5) (A 6) (A 11) (A 8) (A 7) rz (A 16) (A 18) (A 19) fr (A 9) ob (A 13) qa wq ra (A 33) am (A 21) (A 22)
  | 0, q, qa, wq, h1, h2, h3 => by
    have e : q = 24 := by omega
    subst e
    refine br_t (nI_le (a := 24) (b := 24) (by omega) (by omega)) (H qa wq h2 ?_)
    intro p hp
    have := h3 p hp
    dsimp only at this
    rw [if_pos (by omega)] at this
    exact this
  | d + 1, q, qa, wq, h1, h2, h3 => by
    obtain ⟨len, hlen, el⟩ := h2 q (by omega)
    refine br_f (nI_ge (b := 24) (by omega) (by omega)) ⟨_, rd_yl_que ht (by omega) el hlen len qa 0 0 (by omega) (by omega) ?_⟩
    intro qa' j' a b c
    refine rd_yl_queo hn ht hQ hx H d (q + 1) qa' _ (by omega) (rd_rng_u h2 (by omega)) ?_
    intro p hp
    have hp' := h3 p hp
    dsimp only at hp' ⊢
    by_cases e : p = q
    · subst e
      rw [if_neg (Nat.lt_irrefl p)] at hp'
      have hl : (Q p).length = len := rd_inj (by have := hQ p; omega) (by omega) (hp'.1.symm.trans el)
      have := c [] (Q p) rfl hl trivial hp'.2 (hx p)
      rw [if_pos (by omega), rd_us]
      simp only [List.nil_append] at this
      exact ⟨by rw [this.2]; rfl, this.1⟩
    · have eq : (if p < q + 1 then rd_fq Q t p else Q p) = (if p < q then rd_fq Q t p else Q p) := by
        by_cases z : p < q
        · rw [if_pos z, if_pos (by omega)]
        · rw [if_neg z, if_neg (by omega)]
      have hle : (if p < q then rd_fq Q t p else Q p).length ≤ 8 := by
        by_cases z : p < q
        · rw [if_pos z]
          exact Nat.le_trans (List.length_filter_le _ _) (hQ p)
        · rw [if_neg z]; exact hQ p
      rw [eq, rd_un e]
      refine ⟨hp'.1, rd_LV_fr hp'.2 (fun i x y => b i ?_)⟩
      omega
theorem rd_y_leaveQueues {post : SY → Prop} {n : Nat} {Q : Nat → List Nat} {A : rd_St} {rl : Int32} {ra qa wq am rz ob fr st : Nat → Int32} {bl : Int32} {t : Nat} (hn : n ≤ 8) (ht : t < 8) (hQ : ∀ q, (Q q).length ≤ 8) (hx : ∀ q x, x ∈ Q q → x < 8) (h2 : rd_rng 24 8 wq) (h3 : rd_y3 n Q wq qa) (H : ∀ qa' wq', rd_rng 24 8 wq' → rd_y3 n (rd_fq Q t) wq' qa' → post (rd_tY A rl ra qa' wq' am rz ob fr st bl)) : wpY_leaveQueues post (rd_tY A rl ra qa wq am rz ob fr st bl) (nI t) := by
  unfold wpY_leaveQueues
  refine ⟨_, rd_yl_queo hn ht hQ hx H 24 0 qa wq (by omega) h2 ?_⟩
  intro p hp
  dsimp only
  rw [if_neg (by omega)]
  exact h3 p hp
theorem rd_y_top {A : rd_St} {rl : Int32} {ra qa wq am rz ob fr st : Nat → Int32} {bl : Int32} {t d : Nat} {post : Int32 → Prop} (ht : t < 8) (hd : A 18 t = nI (d + 1)) (h8 : d < 8) (P : post (fr (8 * t + d))) : wpY_top post (rd_tY A rl ra qa wq am rz ob fr st bl) (nI t) := by
  have ct : (nI t).toNatClampNeg = t := nI_clamp (by omega)
  have it : 8 * nI t + A 18 (nI t).toNatClampNeg - 1 = nI (8 * t + d) := by
    rw [ct, hd, rd_ix' t (d + 1) 8 8 rfl]
    exact nI_pred (8 * t + d)
  unfold wpY_top
  refine ⟨vp_in_nI ht (by omega), ?_⟩
  rw [it, nI_clamp (by omega)]
  exact ⟨vp_in_nI (by omega) (by omega), P⟩
end
section
/-! the reference: who waits, a fall begins -/
theorem rd_yl_liv {post : Int32 → Prop} {A : rd_St} {rl : Int32} {ra qa wq am rz ob fr st : Nat → Int32} {bl : Int32} {t n : Nat} {b : Int32} (hn : n ≤ 8) (hk : A 26 0 = nI n) (h9 : rd_y9 (A 4) st) (H1 : rd_lv n (A 9) ob (A 4) t b → post 1) (H0 : ¬ rd_lv n (A 9) ob (A 4) t b → post 0) : ∀ (d k : Nat), k + d = n → (∀ u, u < k → ¬ (A 9 u = nI t ∧ ob u = b ∧ A 4 u ≠ 8)) → wY_isWaitedFor_2 post (nI t) b (A 26 0) bl rl (A 27 0) (A 28 0) (A 29 0) (A 25 0) (A 3) (A 0) (A 1) (A 2) st (A 5) (A 6) (A 11) (A 8) (A 7) rz (A 16) (A 18) (A 19) fr (A 9) ob (A 13) qa wq ra (A 33) am (A 21) (A 22) (d + 1) (nI k)
  | 0, k, h1, h2 => by
    have e : k = n := by omega
    subst e
    refine br_t (by rw [hk]; exact nI_le (Nat.le_refl _) (by omega)) (H0 ?_)
    rintro ⟨u, hu, a⟩
    exact h2 u hu a
  | d + 1, k, h1, h2 => by
    have ck : (nI k).toNatClampNeg = k := nI_clamp (by omega)
    have i8 : vp_in (nI k) 8 := vp_in_nI (by omega) (by omega)
    have next : ¬ (A 9 k = nI t ∧ ob k = b ∧ A 4 k ≠ 8) → wY_isWaitedFor_2 post (nI t) b (A 26 0) bl rl (A 27 0) (A 28 0) (A 29 0) (A 25 0) (A 3) (A 0) (A 1) (A 2) st (A 5) (A 6) (A 11) (A 8) (A 7) rz (A 16) (A 18) (A 19) fr (A 9) ob (A 13) qa wq ra (A 33) am (A 21) (A 22) (d + 1) (nI (k + 1)) := fun z =>
      rd_yl_liv hn hk h9 H1 H0 d (k + 1) (by omega) (fun u hu => by
        by_cases e : u = k
        · rw [e]; exact z
        · exact h2 u (by omega))
    have es : st k = 8 ↔ A 4 k = 8 := by rw [h9 k]; exact rd_cv_eq (by decide) (by decide)
    refine br_f (by rw [hk]; exact nI_ge (by omega) (by omega)) ⟨i8, ?_⟩
    by_cases e1 : A 9 k = nI t
    · refine br_t (by rw [ck]; exact e1) ⟨i8, ?_⟩
      by_cases e2 : ob k = b
      · refine br_t (by rw [ck]; exact e2) ⟨i8, ?_⟩
        by_cases e3 : A 4 k = 8
        · exact br_t (by rw [ck]; exact es.mpr e3) (nm_r (nI_1 k) (next (fun z => z.2.2 e3)))
        · exact br_f (by rw [ck]; exact fun z => e3 (es.mp z)) (H1 ⟨k, by omega, e1, e2, e3⟩)
      · exact br_f (by rw [ck]; exact e2) (nm_r (nI_1 k) (next (fun z => e2 z.2.1)))
    · exact br_f (by rw [ck]; exact e1) (nm_r (nI_1 k) (next (fun z => e1 z.1)))
theorem rd_y_isWaitedFor {post : Int32 → Prop} {A : rd_St} {rl : Int32} {ra qa wq am rz ob fr st : Nat → Int32} {bl : Int32} {t n : Nat} {b : Int32} (hn : rd_vN n (A 26)) (h9 : rd_y9 (A 4) st) (H1 : rd_lv n (A 9) ob (A 4) t b → post 1) (H0 : ¬ rd_lv n (A 9) ob (A 4) t b → post 0) : wpY_isWaitedFor post (rd_tY A rl ra qa wq am rz ob fr st bl) (nI t) b := by
  unfold wpY_isWaitedFor
  exact ⟨_, rd_yl_liv hn.2 hn.1 h9 H1 H0 n 0 (by omega) (fun u hu => by omega)⟩
theorem rd_yl_beg {post : SY → Prop} {A : rd_St} {rl : Int32} {ra qa wq am rz ob0 fr st : Nat → Int32} {bl : Int32} {t n : Nat} (hn : n ≤ 8) (hk : A 26 0 = nI n) (H : ∀ ob', (∀ u, u < n → ob' u = if A 9 u = nI t then -1 else ob0 u) → post (rd_tY A rl ra qa wq am rz ob' fr st bl)) : ∀ (d k : Nat) (ob : Nat → Int32), k + d = n → (∀ u, u < n → ob u = if u < k ∧ A 9 u = nI t then -1 else ob0 u) → wY_begin_13 post (nI t) (A 26 0) bl rl (A 27 0) (A 28 0) (A 29 0) (A 25 0) (d + 1) (nI k) (A 3) (A 0) (A 1) (A 2) st (A 5) (A 6) (A 11) (A 8) (A 7) rz (A 16) (A 18) (A 19) fr (A 9) ob (A 13) qa wq ra (A 33) am (A 21) (A 22)
  | 0, k, ob, h1, h2 => by
    have e : k = n := by omega
    subst e
    refine br_t (by rw [hk]; exact nI_le (Nat.le_refl _) (by omega)) (H ob ?_)
    intro u hu
    rw [h2 u hu]
    simp [hu]
  | d + 1, k, ob, h1, h2 => by
    have ck : (nI k).toNatClampNeg = k := nI_clamp (by omega)
    have i8 : vp_in (nI k) 8 := vp_in_nI (by omega) (by omega)
    refine br_f (by rw [hk]; exact nI_ge (by omega) (by omega)) ⟨i8, ?_⟩
    by_cases e1 : A 9 k = nI t
    · refine br_t (by rw [ck]; exact e1) ⟨i8, nm_r (e' := upd ob k (-1)) (by rw [ck]) (nm_r (nI_1 k) (rd_yl_beg hn hk H d (k + 1) _ (by omega) ?_))⟩
      intro u hu
      by_cases e : u = k
      · subst e
        rw [rd_us, if_pos ⟨by omega, e1⟩]
      · rw [rd_un e, h2 u hu]
        by_cases z : A 9 u = nI t
        · by_cases y : u < k
          · rw [if_pos ⟨y, z⟩, if_pos ⟨by omega, z⟩]
          · rw [if_neg (fun q => y q.1), if_neg (fun q => by omega)]
        · rw [if_neg (fun q => z q.2), if_neg (fun q => z q.2)]
    · refine br_f (by rw [ck]; exact e1) (nm_r (nI_1 k) (rd_yl_beg hn hk H d (k + 1) _ (by omega) ?_))
      intro u hu
      rw [h2 u hu]
      by_cases z : A 9 u = nI t
      · have : u ≠ k := fun q => e1 (q ▸ z)
        by_cases y : u < k
        · rw [if_pos ⟨y, z⟩, if_pos ⟨by omega, z⟩]
        · rw [if_neg (fun q => y q.1), if_neg (fun q => by omega)]
      · rw [if_neg (fun q => z q.2), if_neg (fun q => z q.2)]
theorem rd_y_begin {ex n e D : Nat} {A : rd_St} {w : List Nat} {Q : Nat → List Nat} {v : SY} {t : Nat} {post : SY → Prop} (I : rd_Inv n e D A w Q) (hv : rd_RY ex n D A w Q v) (ht : t < n) (h8 : A 4 t ≠ 8) (H : ∀ v', rd_RY ex n D (rd_fall A t) (w.filter (fun x => x != t)) (rd_fq Q t) v' → post v') : wpY_begin post v (nI t) := by
  have hn := I.vN.2
  obtain ⟨ra, qa, wq, am, rz, ob, fr, st, bl, rfl, hl⟩ := hv
  unfold wpY_begin
  refine rd_y_leaveQueues hn (by omega) (fun q => Nat.le_trans (rd_qlen I) hn) (fun q x hx => Nat.lt_of_lt_of_le ((I.vQ q).2 x hx).1 hn) hl.y2 hl.y3 (fun qa' wq' g2 g3 => ?_)
  refine rd_y_rest hl.r (by omega) (Nat.le_trans (rd_wlen I) hn) (fun x hx => Nat.lt_of_lt_of_le ((I.vR.2 x).mp hx).1 hn) (fun ra' gr => ?_)
  refine ⟨_, rd_yl_beg (A := rd_sw A  16 t (-1)) (ob0 := ob) hn I.vN.1 (fun ob' ho => ?_) n 0 ob (by omega) (fun u hu => by rw [if_neg (fun q => by omega)])⟩
  exact H _ (rd_RY_mk (A := rd_fall A t) ⟨gr, g2, g3, rd_y4_cd hl.y4 (Or.inl (Or.inr (Or.inr rfl))), hl.y5, hl.y6, hl.y7, rd_y8_fall hn ht hl.y8 h8 ho, rd_y9_u hl.y9 rfl, hl.y10⟩)
end
section
/-! settle: both sides in lockstep -/
def rd_ST (n : Nat) (A B : rd_St) (w x : List Nat) : Prop := rd_sta A B ∧ rd_wl n A B ∧ rd_kp (fun s => A 4 s = 0 ∨ A 4 s = 9) A B w x ∧ (∀ s, B 4 s = 9 → A 4 s = 9) ∧ (∀ s, A 4 s = 7 ∨ A 4 s = 8 → B 4 s = 7 ∨ B 4 s = 8)
theorem rd_ST_rf (n : Nat) (A : rd_St) (w : List Nat) : rd_ST n A A w w := ⟨rd_sta_rf _, rd_wl_rf _ _, rd_kp_rf _ _ _, fun _ h => h, fun _ h => h⟩
theorem rd_ST_tr {n : Nat} {A B C : rd_St} {w x y : List Nat} (h : rd_ST n A B w x) (g : rd_ST n B C x y) : rd_ST n A C w y :=
  ⟨rd_sta_tr h.1 g.1, rd_wl_tr h.2.1 g.2.1, rd_kp_tr h.2.2.1 g.2.2.1 (fun t ht => by rw [(h.2.2.1 t ht).1]; exact ht), fun s z => h.2.2.2.1 s (g.2.2.2.1 s z), fun s z => g.2.2.2.2 s (h.2.2.2.2 s z)⟩
theorem rd_ST_term {n : Nat} {A : rd_St} {w : List Nat} {t : Nat} (h7 : A 4 t = 7) : rd_ST n A (rd_sw A  4 t 8) w w := by
  refine ⟨rd_sta_sw (by simp), rd_wl_term, rd_kp_cd (by rw [h7]; decide), ?_, ?_⟩
  · intro s z
    have z : upd (A 4) t 8 s = 9 := z
    by_cases e : s = t
    · rw [e, rd_us] at z; exact absurd z (by decide)
    · rw [rd_un e] at z; exact z
  · intro s z
    show upd (A 4) t 8 s = 7 ∨ upd (A 4) t 8 s = 8
    by_cases e : s = t
    · rw [e, rd_us]; exact Or.inr rfl
    · rw [rd_un e]; exact z
theorem rd_ST_left {n : Nat} {A : rd_St} {w : List Nat} {c d : Nat} {v : Int32} (h6 : A 4 c = 6) (hd : A 18 c = nI (d + 1)) (h8 : d < 8) : rd_ST n A (rd_ready (rd_sw (rd_sw A  18 c (nI d))  5 c v) c) w (w ++ [c]) := by
  have no : ¬ (fun s => A 4 s = 0 ∨ A 4 s = 9) c := by
    show ¬ (A 4 c = 0 ∨ A 4 c = 9)
    rw [h6]; decide
  refine ⟨rd_sta_tr (rd_sta_tr (rd_sta_sw (by simp)) (rd_sta_sw (by simp))) rd_sta_ready, rd_wl_left h6 hd h8, ?_, ?_, ?_⟩
  · exact rd_kp_tr (rd_kp_tr (rd_kp_dp no) (rd_kp_pl no) (fun _ z => z)) (rd_kp_ready no) (fun _ z => z)
  · intro s z
    have z : upd (A 4) c 0 s = 9 := z
    by_cases e : s = c
    · rw [e, rd_us] at z; exact absurd z (by decide)
    · rw [rd_un e] at z; exact z
  · intro s z
    show upd (A 4) c 0 s = 7 ∨ upd (A 4) c 0 s = 8
    rw [rd_un]
    · exact z
    · intro e
      rw [e, h6] at z
      exact absurd z (by decide)
theorem rd_xs_stop {post : SX → Prop} {A : rd_St} {rl : Int32} {ra qa ql : Nat → Int32} {n m f : Nat} {i : Int32} (hN : rd_vN n (A 26)) (hm : m < n) (h7 : A 4 m ≠ 7) (h6 : A 4 m = 6 → rd_lv n (A 9) (A 10) (A 4) m (A 18 m - 1)) (P : post (rd_tX A rl ra qa ql)) : wX_settle_4 post rl (A 25 0) (A 26 0) (A 27 0) (A 28 0) (A 29 0) (A 30 0) (A 31 0) (f + 1) (nI m) i (A 0) (A 1) (A 2) (A 3) (A 4) (A 5) (A 6) (A 7) (A 8) (A 9) (A 10) (A 11) (A 12) (A 13) (A 14) (A 15) (A 16) (A 17) (A 18) (A 19) (A 20) qa ql ra (A 21) (A 22) (A 32) (A 23) := by
  have hn := hN.2
  have ct : (nI m).toNatClampNeg = m := nI_clamp (by omega)
  have i8 : vp_in (nI m) 8 := vp_in_nI (by omega) (by omega)
  refine br_c (fun _ => P) (fun _ => br_f (rd_nm (by omega)) ⟨i8, br_c (fun z => ⟨i8, rd_x_hasLiving hN (fun _ => br_f (by decide) ⟨i8, br_f (by rw [ct]; exact h7) P⟩) (fun y => ?_)⟩) (fun z => ⟨i8, br_f (by rw [ct]; exact h7) P⟩)⟩)
  rw [ct] at z y
  exact absurd (h6 z) y
theorem rd_settle {ex n D : Nat} {Q : Nat → List Nat} : ∀ (k t : Nat), t < k → ∀ (A : rd_St) (w : List Nat), rd_Inv n t D A w Q → t < n → (ex < n → A 4 ex = 0) → (A 4 t = 6 → rd_lv n (A 9) (A 10) (A 4) t (A 18 t - 1)) → ∃ A' w', rd_Inv n 8 D A' w' Q ∧ rd_ST n A A' w w' ∧
    (∀ (post : SX → Prop) (ra qa ql : Nat → Int32) (i f : Nat), i + t < 8 → t + 1 < f → rd_XL w Q ra qa ql → (∀ u', rd_RX A' w' Q u' → post u') → wX_settle_4 post (nI w.length) (A 25 0) (A 26 0) (A 27 0) (A 28 0) (A 29 0) (A 30 0) (A 31 0) f (nI t) (nI i) (A 0) (A 1) (A 2) (A 3) (A 4) (A 5) (A 6) (A 7) (A 8) (A 9) (A 10) (A 11) (A 12) (A 13) (A 14) (A 15) (A 16) (A 17) (A 18) (A 19) (A 20) qa ql ra (A 21) (A 22) (A 32) (A 23)) ∧
    (∀ (post : SY → Prop) (ra qa wq am rz ob fr st : Nat → Int32) (bl : Int32) (f : Nat), t + 1 < f → rd_YL ex n D A w Q ra qa wq am rz ob fr st bl → (∀ v', rd_RY ex n D A' w' Q v' → post v') → wY_settle_2 post (A 26 0) bl (nI w.length) (A 27 0) (A 28 0) (A 29 0) (A 25 0) f (nI t) (A 3) (A 0) (A 1) (A 2) st (A 5) (A 6) (A 11) (A 8) (A 7) rz (A 16) (A 18) (A 19) fr (A 9) ob (A 13) qa wq ra (A 33) am (A 21) (A 22)) := by
  intro k
  induction k with
  | zero => intro t h; omega
  | succ k ih =>
    intro t htk A w I ht hex h6
    have hn := I.vN.2
    have hDD := I.vD.2.1
    have ct : (nI t).toNatClampNeg = t := nI_clamp (by omega)
    have i8 : vp_in (nI t) 8 := vp_in_nI (by omega) (by omega)
    by_cases h7 : A 4 t = 7
    · have n6 : A 4 t ≠ 6 := by rw [h7]; decide
      have n9 : A 4 t ≠ 9 := by rw [h7]; decide
      have n8 : A 4 t ≠ 8 := by rw [h7]; decide
      by_cases hl : rd_lv n (A 9) (A 10) (A 4) t (-1)
      · refine ⟨A, w, rd_i_close I (fun z => absurd z n6) (fun _ => hl), rd_ST_rf _ _ _, ?_, ?_⟩
        · intro post ra qa ql i f hi hf hx H
          obtain ⟨f', rfl⟩ : ∃ f', f = f' + 1 := ⟨f - 1, by omega⟩
          exact br_f (nI_ge (b := 8) (by omega) (by omega)) (br_f (rd_nm (by omega)) ⟨i8, br_f (by rw [ct]; exact n6) ⟨i8, br_t (by rw [ct]; exact h7) (rd_x_hasLiving I.vN (fun _ => br_f (by decide) (H _ (rd_RX_mk hx))) (fun z => absurd hl z))⟩⟩)
        · intro post ra qa wq am rz ob fr st bl f hf hy H
          obtain ⟨f', rfl⟩ : ∃ f', f = f' + 1 := ⟨f - 1, by omega⟩
          have e7 : st t = 7 := by rw [hy.y9 t, h7]; rfl
          refine br_f (nI_pos (by omega)) ⟨i8, br_t (by rw [ct]; exact e7) (rd_y_isWaitedFor I.vN hy.y9 (fun _ => br_f (by decide) (H _ (rd_RY_mk hy))) (fun z => ?_))⟩
          exact absurd ((rd_lv_m1 hn hDD ht I.vB I.rdp hy.y6 hy.y8 n9).mpr hl) z
      · -- the task ends
        have st1 := rd_ST_term (n := n) (w := w) h7
        -- what both sides ask first
        have X1 : ∀ (post : SX → Prop) (ra qa ql : Nat → Int32) (i f : Nat) (x : Int32), i < 8 → A 9 t = x → wX_settle_4 post (nI w.length) ((rd_sw A  4 t 8) 25 0) ((rd_sw A  4 t 8) 26 0) ((rd_sw A  4 t 8) 27 0) ((rd_sw A  4 t 8) 28 0) ((rd_sw A  4 t 8) 29 0) ((rd_sw A  4 t 8) 30 0) ((rd_sw A  4 t 8) 31 0) f x (nI (i + 1)) ((rd_sw A  4 t 8) 0) ((rd_sw A  4 t 8) 1) ((rd_sw A  4 t 8) 2) ((rd_sw A  4 t 8) 3) ((rd_sw A  4 t 8) 4) ((rd_sw A  4 t 8) 5) ((rd_sw A  4 t 8) 6) ((rd_sw A  4 t 8) 7) ((rd_sw A  4 t 8) 8) ((rd_sw A  4 t 8) 9) ((rd_sw A  4 t 8) 10) ((rd_sw A  4 t 8) 11) ((rd_sw A  4 t 8) 12) ((rd_sw A  4 t 8) 13) ((rd_sw A  4 t 8) 14) ((rd_sw A  4 t 8) 15) ((rd_sw A  4 t 8) 16) ((rd_sw A  4 t 8) 17) ((rd_sw A  4 t 8) 18) ((rd_sw A  4 t 8) 19) ((rd_sw A  4 t 8) 20) qa ql ra ((rd_sw A  4 t 8) 21) ((rd_sw A  4 t 8) 22) ((rd_sw A  4 t 8) 32) ((rd_sw A  4 t 8) 23) → wX_settle_4 post (nI w.length) (A 25 0) (A 26 0) (A 27 0) (A 28 0) (A 29 0) (A 30 0) (A 31 0) (f + 1) (nI t) (nI i) (A 0) (A 1) (A 2) (A 3) (A 4) (A 5) (A 6) (A 7) (A 8) (A 9) (A 10) (A 11) (A 12) (A 13) (A 14) (A 15) (A 16) (A 17) (A 18) (A 19) (A 20) qa ql ra (A 21) (A 22) (A 32) (A 23) := by
          intro post ra qa ql i f x hi hx P
          exact br_f (nI_ge (b := 8) (by omega) (by omega)) (br_f (rd_nm (by omega)) ⟨i8, br_f (by rw [ct]; exact n6) ⟨i8, br_t (by rw [ct]; exact h7) (rd_x_hasLiving I.vN (fun z => absurd z hl) (fun _ => br_t rfl ⟨i8, nm_r (e' := upd (A 4) t 8) (by rw [ct]) ⟨i8, nm_r (e' := x) (by rw [ct]; exact hx) (nm_r (nI_1 i) P)⟩⟩))⟩⟩)
        rcases I.vM t ht with ⟨z0, zm⟩ | ⟨m, hm, em⟩
        · -- no master
          have I1 := rd_i_term (e := 8) I ht h7 hl (fun m hm e => absurd (e.symm.trans zm) (rd_nm (by omega)))
          refine ⟨_, w, I1, st1, ?_, ?_⟩
          · intro post ra qa ql i f hi hf hx H
            obtain ⟨f', rfl⟩ : ∃ f', f = f' + 1 + 1 := ⟨f - 2, by omega⟩
            have P := H _ (rd_RX_mk hx)
            exact X1 post ra qa ql i (f' + 1) (-1) (by omega) zm (br_c (fun _ => P) (fun _ => br_t rfl P))
          · intro post ra qa wq am rz ob fr st bl f hf hy H
            obtain ⟨f', rfl⟩ : ∃ f', f = f' + 1 + 1 := ⟨f - 2, by omega⟩
            have e7 : st t = 7 := by rw [hy.y9 t, h7]; rfl
            have eo : ob t = -1 := (hy.y8 t ht n8).1 zm
            have P := H _ (rd_RY_mk (A := rd_sw A  4 t 8) (st := upd st t 8) ⟨hy.r, hy.y2, hy.y3, rd_y4_cd hy.y4 (Or.inl (Or.inr (Or.inl rfl))), hy.y5, hy.y6, hy.y7, rd_y8_cd hy.y8 (by decide) n9 n8, rd_y9_u hy.y9 rfl, hy.y10⟩)
            refine br_f (nI_pos (by omega)) ⟨i8, br_t (by rw [ct]; exact e7) (rd_y_isWaitedFor I.vN hy.y9 (fun z => absurd ((rd_lv_m1 hn hDD ht I.vB I.rdp hy.y6 hy.y8 n9).mp z) hl) (fun _ => br_t rfl ⟨i8, nm_r (e' := upd st t 8) (by rw [ct]) ⟨i8, nm_r (e' := -1) (by rw [ct]; exact zm) ⟨i8, nm_r (e' := -1) (by rw [ct]; exact eo) (br_f (by decide) (br_t (by decide) P))⟩⟩⟩))⟩
        · -- its master m
          have hmn : m < n := by omega
          have cm : (nI m).toNatClampNeg = m := nI_clamp (by omega)
          have i8m : vp_in (nI m) 8 := vp_in_nI (by omega) (by omega)
          have mt : m ≠ t := by omega
          have I1 := rd_i_term (e := m) I ht h7 hl (fun m' hm' e => (rd_inj (by omega) (by omega) (em.symm.trans e)).symm)
          have c1 : ∀ s, s ≠ t → (rd_sw A  4 t 8) 4 s = A 4 s := fun s hs => rd_un hs
          have Y1 : ∀ (post : SY → Prop) (ra qa wq am rz ob fr st : Nat → Int32) (bl : Int32) (f : Nat), rd_YL ex n D A w Q ra qa wq am rz ob fr st bl → rd_YL ex n D (rd_sw A  4 t 8) w Q ra qa wq am rz ob fr (upd st t 8) bl ∧ ((((0 : Int32) ≤ ob t → (vp_in (nI m) 8 ∧ (((upd st t 8) m = 6 → (wpY_top (fun r => ((r = ob t → (wpY_isWaitedFor (fun r => ((r = 0 → (vp_in (nI m) 8 ∧ (vp_in (nI m) 8 ∧ ∀ hg, hg = upd (A 18) m (A 18 m - 1) → (vp_in (nI m) 8 ∧ ((rz m = 0 → (vp_in (nI m) 8 ∧ (vp_in (nI m) 8 ∧ ∀ pl, pl = upd (A 5) m (A 5 m + 1) → (wY_settle_120 post (nI m) ((rd_sa (rd_sa (rd_sw A  4 t 8)  18 hg)  5 pl) 26 0) bl (nI w.length) ((rd_sa (rd_sa (rd_sw A  4 t 8)  18 hg)  5 pl) 27 0) ((rd_sa (rd_sa (rd_sw A  4 t 8)  18 hg)  5 pl) 28 0) ((rd_sa (rd_sa (rd_sw A  4 t 8)  18 hg)  5 pl) 29 0) ((rd_sa (rd_sa (rd_sw A  4 t 8)  18 hg)  5 pl) 25 0) ((rd_sa (rd_sa (rd_sw A  4 t 8)  18 hg)  5 pl) 3) ((rd_sa (rd_sa (rd_sw A  4 t 8)  18 hg)  5 pl) 0) ((rd_sa (rd_sa (rd_sw A  4 t 8)  18 hg)  5 pl) 1) ((rd_sa (rd_sa (rd_sw A  4 t 8)  18 hg)  5 pl) 2) (upd st t 8) ((rd_sa (rd_sa (rd_sw A  4 t 8)  18 hg)  5 pl) 5) ((rd_sa (rd_sa (rd_sw A  4 t 8)  18 hg)  5 pl) 6) ((rd_sa (rd_sa (rd_sw A  4 t 8)  18 hg)  5 pl) 11) ((rd_sa (rd_sa (rd_sw A  4 t 8)  18 hg)  5 pl) 8) ((rd_sa (rd_sa (rd_sw A  4 t 8)  18 hg)  5 pl) 7) rz ((rd_sa (rd_sa (rd_sw A  4 t 8)  18 hg)  5 pl) 16) ((rd_sa (rd_sa (rd_sw A  4 t 8)  18 hg)  5 pl) 18) ((rd_sa (rd_sa (rd_sw A  4 t 8)  18 hg)  5 pl) 19) fr ((rd_sa (rd_sa (rd_sw A  4 t 8)  18 hg)  5 pl) 9) ob ((rd_sa (rd_sa (rd_sw A  4 t 8)  18 hg)  5 pl) 13) qa wq ra ((rd_sa (rd_sa (rd_sw A  4 t 8)  18 hg)  5 pl) 33) am ((rd_sa (rd_sa (rd_sw A  4 t 8)  18 hg)  5 pl) 21) ((rd_sa (rd_sa (rd_sw A  4 t 8)  18 hg)  5 pl) 22))))) ∧ (¬ rz m = 0 → (wY_settle_120 post (nI m) ((rd_sa (rd_sw A  4 t 8)  18 hg) 26 0) bl (nI w.length) ((rd_sa (rd_sw A  4 t 8)  18 hg) 27 0) ((rd_sa (rd_sw A  4 t 8)  18 hg) 28 0) ((rd_sa (rd_sw A  4 t 8)  18 hg) 29 0) ((rd_sa (rd_sw A  4 t 8)  18 hg) 25 0) ((rd_sa (rd_sw A  4 t 8)  18 hg) 3) ((rd_sa (rd_sw A  4 t 8)  18 hg) 0) ((rd_sa (rd_sw A  4 t 8)  18 hg) 1) ((rd_sa (rd_sw A  4 t 8)  18 hg) 2) (upd st t 8) ((rd_sa (rd_sw A  4 t 8)  18 hg) 5) ((rd_sa (rd_sw A  4 t 8)  18 hg) 6) ((rd_sa (rd_sw A  4 t 8)  18 hg) 11) ((rd_sa (rd_sw A  4 t 8)  18 hg) 8) ((rd_sa (rd_sw A  4 t 8)  18 hg) 7) rz ((rd_sa (rd_sw A  4 t 8)  18 hg) 16) ((rd_sa (rd_sw A  4 t 8)  18 hg) 18) ((rd_sa (rd_sw A  4 t 8)  18 hg) 19) fr ((rd_sa (rd_sw A  4 t 8)  18 hg) 9) ob ((rd_sa (rd_sw A  4 t 8)  18 hg) 13) qa wq ra ((rd_sa (rd_sw A  4 t 8)  18 hg) 33) am ((rd_sa (rd_sw A  4 t 8)  18 hg) 21) ((rd_sa (rd_sw A  4 t 8)  18 hg) 22)))))))) ∧ (¬ r = 0 → post (rd_tY (rd_sw A  4 t 8) (nI w.length) ra qa wq am rz ob fr (upd st t 8) bl)))) (rd_tY (rd_sw A  4 t 8) (nI w.length) ra qa wq am rz ob fr (upd st t 8) bl) (nI m) (ob t))) ∧ (¬ r = ob t → post (rd_tY (rd_sw A  4 t 8) (nI w.length) ra qa wq am rz ob fr (upd st t 8) bl)))) (rd_tY (rd_sw A  4 t 8) (nI w.length) ra qa wq am rz ob fr (upd st t 8) bl) (nI m))) ∧ (¬ (upd st t 8) m = 6 → post (rd_tY (rd_sw A  4 t 8) (nI w.length) ra qa wq am rz ob fr (upd st t 8) bl))))) ∧ (¬ (0 : Int32) ≤ ob t → wY_settle_2 post ((rd_sw A  4 t 8) 26 0) bl (nI w.length) ((rd_sw A  4 t 8) 27 0) ((rd_sw A  4 t 8) 28 0) ((rd_sw A  4 t 8) 29 0) ((rd_sw A  4 t 8) 25 0) f (nI m) ((rd_sw A  4 t 8) 3) ((rd_sw A  4 t 8) 0) ((rd_sw A  4 t 8) 1) ((rd_sw A  4 t 8) 2) (upd st t 8) ((rd_sw A  4 t 8) 5) ((rd_sw A  4 t 8) 6) ((rd_sw A  4 t 8) 11) ((rd_sw A  4 t 8) 8) ((rd_sw A  4 t 8) 7) rz ((rd_sw A  4 t 8) 16) ((rd_sw A  4 t 8) 18) ((rd_sw A  4 t 8) 19) fr ((rd_sw A  4 t 8) 9) ob ((rd_sw A  4 t 8) 13) qa wq ra ((rd_sw A  4 t 8) 33) am ((rd_sw A  4 t 8) 21) ((rd_sw A  4 t 8) 22))) → wY_settle_2 post (A 26 0) bl (nI w.length) (A 27 0) (A 28 0) (A 29 0) (A 25 0) (f + 1) (nI t) (A 3) (A 0) (A 1) (A 2) st (A 5) (A 6) (A 11) (A 8) (A 7) rz (A 16) (A 18) (A 19) fr (A 9) ob (A 13) qa wq ra (A 33) am (A 21) (A 22)) := by
            intro post ra qa wq am rz ob fr st bl f hy
            have e7 : st t = 7 := by rw [hy.y9 t, h7]; rfl
            refine ⟨⟨hy.r, hy.y2, hy.y3, rd_y4_cd hy.y4 (Or.inl (Or.inr (Or.inl rfl))), hy.y5, hy.y6, hy.y7, rd_y8_cd hy.y8 (by decide) n9 n8, rd_y9_u hy.y9 rfl, hy.y10⟩, fun P => ?_⟩
            refine br_f (nI_pos (by omega)) ⟨i8, br_t (by rw [ct]; exact e7) (rd_y_isWaitedFor I.vN hy.y9 (fun z => absurd ((rd_lv_m1 hn hDD ht I.vB I.rdp hy.y6 hy.y8 n9).mp z) hl) (fun _ => br_t rfl ⟨i8, nm_r (e' := upd st t 8) (by rw [ct]) ⟨i8, nm_r (e' := nI m) (by rw [ct]; exact em) ⟨i8, nm_r (e' := ob t) (by rw [ct]) ?_⟩⟩⟩))⟩
            rw [cm]
            exact P
          by_cases m7 : A 4 m = 7
          · -- the master is completed too: on with it
            have m9 : A 4 m ≠ 9 := by rw [m7]; decide
            have em1 : A 10 t = -1 := by
              rcases I.vB t ht n8 with y | ⟨m', l, hm', f1, f2, f3, f4⟩
              · exact y
              · have : m' = m := rd_inj (by omega) (by omega) (f1.symm.trans em)
                subst this
                rw [I.vC m' hm' (Or.inl m7)] at f3
                have : (0 : Int32).toNatClampNeg = 0 := by decide
                omega
            obtain ⟨A', w', J, S, X, Y⟩ := ih m (by omega) (rd_sw A  4 t 8) w I1 hmn (fun z => (c1 ex (fun e => by rw [e] at hex; rw [hex ht] at h7; exact absurd h7 (by decide))).trans (hex z)) (fun z => by
              rw [c1 m mt, m7] at z
              exact absurd z (by decide))
            refine ⟨A', w', J, rd_ST_tr st1 S, ?_, ?_⟩
            · intro post ra qa ql i f hi hf hx H
              obtain ⟨f', rfl⟩ : ∃ f', f = f' + 1 := ⟨f - 1, by omega⟩
              exact X1 post ra qa ql i f' (nI m) (by omega) em (X post ra qa ql (i + 1) f' (by omega) (by omega) hx H)
            · intro post ra qa wq am rz ob fr st bl f hf hy H
              obtain ⟨f', rfl⟩ : ∃ f', f = f' + 1 := ⟨f - 1, by omega⟩
              have eo : ob t = -1 := ((hy.y8 t ht n8).2 m hmn em).2.1 m9 em1
              obtain ⟨hy1, P⟩ := Y1 post ra qa wq am rz ob fr st bl f' hy
              exact P (br_f (by rw [eo]; decide) (Y post ra qa wq am rz ob fr _ bl f' (by omega) hy1 H))
          · by_cases m6 : A 4 m = 6 ∧ ¬ rd_lv n (A 9) (A 10) ((rd_sw A  4 t 8) 4) m (A 18 m - 1)
            · -- the master waited for this one at its block
              obtain ⟨m6, nl⟩ := m6
              have m9 : A 4 m ≠ 9 := by rw [m6]; decide
              obtain ⟨d, hd, ed, ek⟩ := (I.vE m hmn).1 m6
              have ed1 : A 18 m - 1 = nI d := by rw [ed, nI_pred]
              rw [ed1] at nl
              have hdm : d < (A 18 m).toNatClampNeg := by rw [ed, nI_clamp (by omega)]; omega
              have emb : A 10 t = nI d := by
                obtain ⟨u, hu, g1, g2, g3⟩ := I.vL m hmn mt m6
                rw [ed1] at g2
                by_cases e : u = t
                · rw [← e]; exact g2
                · exact absurd ⟨u, hu, g1, g2, by rw [c1 u e]; exact g3⟩ nl
              obtain ⟨p, hp, ep⟩ := I.rpl m hmn
              have pl20 : A 12 m = 0 → p < 20 := by
                intro z
                obtain ⟨p', a, b⟩ := (I.vA m hmn).1 (Or.inr (Or.inr (Or.inr (Or.inr ⟨m6, z⟩))))
                have := rd_inj (by omega) (by omega) (ep.symm.trans b)
                omega
              have key : ∃ p', p' ≤ 21 ∧ (A 12 m = 0 → p' = p + 1) ∧ (A 12 m ≠ 0 → p' = p) := by
                by_cases z : A 12 m = 0
                · exact ⟨p + 1, by have := pl20 z; omega, fun _ => rfl, fun y => absurd z y⟩
                · exact ⟨p, hp, fun y => absurd y z, fun _ => rfl⟩
              obtain ⟨p', hp', e1, e2⟩ := key
              have I2 := rd_i_left (d := d) (p := p') I1 hmn ((c1 m mt).trans m6) hd ed nl hp'
              refine ⟨_, _, I2, rd_ST_tr st1 (rd_ST_left ((c1 m mt).trans m6) ed hd), ?_, ?_⟩
              · intro post ra qa ql i f hi hf hx H
                obtain ⟨f', rfl⟩ : ∃ f', f = f' + 1 + 1 := ⟨f - 2, by omega⟩
                have wl : w.length < 8 := Nat.lt_of_lt_of_le (rd_wlen' I hmn (by rw [m6]; decide)) hn
                refine X1 post ra qa ql i (f' + 1) (nI m) (by omega) em ?_
                have cm6 : (rd_sw A  4 t 8) 4 (nI m).toNatClampNeg = 6 := by rw [cm]; exact (c1 m mt).trans m6
                refine br_f (nI_ge (b := 8) (by omega) (by omega)) (br_f (rd_nm (by omega)) ⟨i8m, br_t cm6 ⟨i8m, rd_x_hasLiving (A := rd_sw A  4 t 8) I.vN (fun z => ?_) (fun _ => br_t rfl ⟨i8m, i8m, nm_r (e' := upd (A 18) m (nI d)) (by rw [cm]; exact congrArg _ ed1) ⟨i8m, i8m, ?_⟩⟩)⟩⟩)
                · rw [cm] at z
                  have z : rd_lv n (A 9) (A 10) ((rd_sw A  4 t 8) 4) m (A 18 m - 1) := z
                  rw [ed1] at z
                  exact absurd z nl
                · have fin : ∀ z0 : Int32, A 5 m + z0 = nI p' → wX_settle_73 post (nI m) z0 (A 5 (nI m).toNatClampNeg) (nI m) (nI w.length) ((rd_sa (rd_sw A  4 t 8)  18 (upd (A 18) m (nI d))) 25 0) ((rd_sa (rd_sw A  4 t 8)  18 (upd (A 18) m (nI d))) 26 0) ((rd_sa (rd_sw A  4 t 8)  18 (upd (A 18) m (nI d))) 27 0) ((rd_sa (rd_sw A  4 t 8)  18 (upd (A 18) m (nI d))) 28 0) ((rd_sa (rd_sw A  4 t 8)  18 (upd (A 18) m (nI d))) 29 0) ((rd_sa (rd_sw A  4 t 8)  18 (upd (A 18) m (nI d))) 30 0) ((rd_sa (rd_sw A  4 t 8)  18 (upd (A 18) m (nI d))) 31 0) ((rd_sa (rd_sw A  4 t 8)  18 (upd (A 18) m (nI d))) 0) ((rd_sa (rd_sw A  4 t 8)  18 (upd (A 18) m (nI d))) 1) ((rd_sa (rd_sw A  4 t 8)  18 (upd (A 18) m (nI d))) 2) ((rd_sa (rd_sw A  4 t 8)  18 (upd (A 18) m (nI d))) 3) ((rd_sa (rd_sw A  4 t 8)  18 (upd (A 18) m (nI d))) 4) ((rd_sa (rd_sw A  4 t 8)  18 (upd (A 18) m (nI d))) 5) ((rd_sa (rd_sw A  4 t 8)  18 (upd (A 18) m (nI d))) 6) ((rd_sa (rd_sw A  4 t 8)  18 (upd (A 18) m (nI d))) 7) ((rd_sa (rd_sw A  4 t 8)  18 (upd (A 18) m (nI d))) 8) ((rd_sa (rd_sw A  4 t 8)  18 (upd (A 18) m (nI d))) 9) ((rd_sa (rd_sw A  4 t 8)  18 (upd (A 18) m (nI d))) 10) ((rd_sa (rd_sw A  4 t 8)  18 (upd (A 18) m (nI d))) 11) ((rd_sa (rd_sw A  4 t 8)  18 (upd (A 18) m (nI d))) 12) ((rd_sa (rd_sw A  4 t 8)  18 (upd (A 18) m (nI d))) 13) ((rd_sa (rd_sw A  4 t 8)  18 (upd (A 18) m (nI d))) 14) ((rd_sa (rd_sw A  4 t 8)  18 (upd (A 18) m (nI d))) 15) ((rd_sa (rd_sw A  4 t 8)  18 (upd (A 18) m (nI d))) 16) ((rd_sa (rd_sw A  4 t 8)  18 (upd (A 18) m (nI d))) 17) ((rd_sa (rd_sw A  4 t 8)  18 (upd (A 18) m (nI d))) 18) ((rd_sa (rd_sw A  4 t 8)  18 (upd (A 18) m (nI d))) 19) ((rd_sa (rd_sw A  4 t 8)  18 (upd (A 18) m (nI d))) 20) qa ql ra ((rd_sa (rd_sw A  4 t 8)  18 (upd (A 18) m (nI d))) 21) ((rd_sa (rd_sw A  4 t 8)  18 (upd (A 18) m (nI d))) 22) ((rd_sa (rd_sw A  4 t 8)  18 (upd (A 18) m (nI d))) 32) ((rd_sa (rd_sw A  4 t 8)  18 (upd (A 18) m (nI d))) 23) := by
                    intro z0 ez
                    refine ⟨i8m, nm_r (e' := upd (A 5) m (nI p')) (by rw [cm, ez]; rfl) ?_⟩
                    refine rd_x_makeReady (rd_RX_mk (A := rd_sw (rd_sw (rd_sw A  4 t 8)  18 m (nI d))  5 m (nI p')) hx) (by omega) wl ?_
                    rintro u' ⟨ra', qa', ql', rfl, hx'⟩
                    exact H _ (rd_RX_mk hx')
                  refine br_c (fun z => fin 1 ?_) (fun z => fin 0 ?_)
                  · rw [cm] at z
                    rw [ep, e1 z, nI_1]
                  · rw [cm] at z
                    rw [ep, e2 z]
                    show nI p + nI 0 = nI p
                    rw [nI_add, Nat.add_zero]
              · intro post ra qa wq am rz ob fr st bl f hf hy H
                obtain ⟨f', rfl⟩ : ∃ f', f = f' + 1 + 1 := ⟨f - 2, by omega⟩
                have wl : w.length < 8 := Nat.lt_of_lt_of_le (rd_wlen' I hmn (by rw [m6]; decide)) hn
                obtain ⟨hy1, P⟩ := Y1 post ra qa wq am rz ob fr st bl (f' + 1) hy
                have eo : ob t = fr (8 * m + d) := ((hy.y8 t ht n8).2 m hmn em).2.2 m9 d hd emb
                have eo0 : (0 : Int32) ≤ ob t := by
                  obtain ⟨b', hb', _, g⟩ := hy.y6
                  obtain ⟨x, hx, gx⟩ := g m hmn d hdm ek
                  rw [eo, gx]
                  exact nI_pos' (by omega)
                have r4 : rz m = A 12 m := rd_y4_n hy.y4 hmn (fun e => by rw [← e] at hex; rw [hex hmn] at m6; exact absurd m6 (by decide)) m7 (by rw [m6]; decide) m9
                have c2 : (rd_sw A  4 t 8) 4 m = 6 := (c1 m mt).trans m6
                have wake : ∀ B : rd_St, B = rd_sw (rd_sw (rd_sw A  4 t 8)  18 m (nI d))  5 m (nI p') → rd_YL ex n D B w Q ra qa wq am rz ob fr (upd st t 8) bl → B 4 m = 6 → wY_settle_120 post (nI m) (B 26 0) bl (nI w.length) (B 27 0) (B 28 0) (B 29 0) (B 25 0) (B 3) (B 0) (B 1) (B 2) (upd st t 8) (B 5) (B 6) (B 11) (B 8) (B 7) rz (B 16) (B 18) (B 19) fr (B 9) ob (B 13) qa wq ra (B 33) am (B 21) (B 22) := by
                  intro B eB hB b6
                  refine rd_y_wake (rd_RY_mk hB) hn hmn wl (by rw [b6]; decide) (by rw [b6]; decide) (by rw [b6]; decide) ?_
                  rintro v' ⟨ra', qa', wq', am, rz', ob', fr', st', bl', rfl, hy'⟩
                  exact H _ (by rw [← eB]; exact rd_RY_mk hy')
                have hy2 := rd_YL_pop (t := m) (d := d) hy1 ed hd
                refine P (br_t eo0 ⟨i8m, br_t (by rw [rd_un mt, hy.y9 m, m6]; rfl) (rd_y_top (A := rd_sw A  4 t 8) (by omega) ed hd (br_t eo.symm (rd_y_isWaitedFor (A := rd_sw A  4 t 8) I.vN hy1.y9 (fun z => ?_) (fun _ => br_t rfl ⟨i8m, i8m, nm_r (e' := upd (A 18) m (nI d)) (by rw [ed1]) ⟨i8m, br_c (fun z => ⟨i8m, i8m, nm_r (e' := upd (A 5) m (nI p')) (by rw [ep, e1 (r4.symm.trans z), nI_1]) (wake (rd_sw (rd_sw (rd_sw A  4 t 8)  18 m (nI d))  5 m (nI p')) rfl hy2 c2)⟩) (fun z => wake (rd_sw (rd_sw A  4 t 8)  18 m (nI d)) (rd_sw_eq (A := rd_sw (rd_sw A  4 t 8)  18 m (nI d)) (k :=  5) (i := m) (x := nI p') (show A 5 m = nI p' by rw [e2 (fun y => z (r4.trans y))]; exact ep)).symm hy2 c2)⟩⟩))))⟩)
                rw [eo] at z
                exact absurd ((rd_lv_bl hn hDD hmn I1.vB I1.rdp hy1.y6 hy1.y7 hy1.y8 (by rw [c2]; decide) hdm ek).mp z) nl
            · -- nothing more to do at the master
              have h6' : (rd_sw A  4 t 8) 4 m = 6 → rd_lv n ((rd_sw A  4 t 8) 9) ((rd_sw A  4 t 8) 10) ((rd_sw A  4 t 8) 4) m ((rd_sw A  4 t 8) 18 m - 1) := by
                intro z
                rw [c1 m mt] at z
                exact Classical.byContradiction (fun y => m6 ⟨z, y⟩)
              have h7' : (rd_sw A  4 t 8) 4 m ≠ 7 := by rw [c1 m mt]; exact m7
              have I2 := rd_i_close I1 h6' (fun z => absurd z h7')
              refine ⟨_, w, I2, st1, ?_, ?_⟩
              · intro post ra qa ql i f hi hf hx H
                obtain ⟨f', rfl⟩ : ∃ f', f = f' + 1 + 1 := ⟨f - 2, by omega⟩
                exact X1 post ra qa ql i (f' + 1) (nI m) (by omega) em (rd_xs_stop (A := rd_sw A  4 t 8) I.vN hmn h7' h6' (H _ (rd_RX_mk hx)))
              · intro post ra qa wq am rz ob fr st bl f hf hy H
                obtain ⟨f', rfl⟩ : ∃ f', f = f' + 1 + 1 := ⟨f - 2, by omega⟩
                obtain ⟨hy1, P⟩ := Y1 post ra qa wq am rz ob fr st bl (f' + 1) hy
                have fin := H _ (rd_RY_mk hy1)
                have e7 : upd st t 8 m ≠ 7 := by
                  rw [hy1.y9 m]
                  exact fun z => h7' ((rd_cv_eq (by decide) (by decide)).mp z)
                refine P (br_c (fun _ => ⟨i8m, br_c (fun z => ?_) (fun _ => fin)⟩) (fun _ => br_f (nI_pos (by omega)) ⟨i8m, br_f (by rw [cm]; exact e7) fin⟩))
                rw [hy1.y9 m] at z
                have z6 := (rd_cv_eq (by decide) (by decide)).mp z
                obtain ⟨d, hd, ed, ek⟩ := (I1.vE m hmn).1 z6
                have hdm : d < ((rd_sw A  4 t 8) 18 m).toNatClampNeg := by rw [ed, nI_clamp (by omega)]; omega
                have lv := h6' z6
                rw [ed, nI_pred] at lv
                refine rd_y_top (A := rd_sw A  4 t 8) (by omega) ed hd (br_c (fun e => rd_y_isWaitedFor (A := rd_sw A  4 t 8) I.vN hy1.y9 (fun _ => br_f (by decide) fin) (fun y => ?_)) (fun _ => fin))
                rw [← e] at y
                exact absurd ((rd_lv_bl hn hDD hmn I1.vB I1.rdp hy1.y6 hy1.y7 hy1.y8 (by rw [z6]; decide) hdm ek).mpr lv) y
    · -- not completed
      refine ⟨A, w, rd_i_close I h6 (fun z => absurd z h7), rd_ST_rf _ _ _, ?_, ?_⟩
      · intro post ra qa ql i f hi hf hx H
        obtain ⟨f', rfl⟩ : ∃ f', f = f' + 1 := ⟨f - 1, by omega⟩
        exact rd_xs_stop I.vN ht h7 h6 (H _ (rd_RX_mk hx))
      · intro post ra qa wq am rz ob fr st bl f hf hy H
        obtain ⟨f', rfl⟩ : ∃ f', f = f' + 1 := ⟨f - 1, by omega⟩
        have e7 : st t ≠ 7 := by
          rw [hy.y9 t]
          exact fun z => h7 ((rd_cv_eq (by decide) (by decide)).mp z)
        exact br_f (nI_pos (by omega)) ⟨i8, br_f (by rw [ct]; exact e7) (H _ (rd_RY_mk hy))⟩
end
section
/-! completing a task -/
theorem rd_x_mkReady {A : rd_St} {w : List Nat} {ra qa ql : Nat → Int32} {t : Nat} {post : SX → Prop} (hr : rd_LV ra 0 w) (ht : t < 8) (hw : w.length < 8) (H : ∀ ra', rd_LV ra' 0 (w ++ [t]) → post (rd_tX (rd_ready A t) (nI (w ++ [t]).length) ra' qa ql)) : wpX_makeReady post (rd_tX A (nI w.length) ra qa ql) (nI t) := by
  have ct : (nI t).toNatClampNeg = t := nI_clamp (by omega)
  have cw : (nI w.length).toNatClampNeg = w.length := nI_clamp (by omega)
  have i8 : vp_in (nI t) 8 := vp_in_nI ht (by omega)
  have h2 : rd_LV (upd ra w.length (nI t)) 0 (w ++ [t]) := by
    have := rd_LV_put (x := t) hr
    rw [Nat.zero_add] at this
    exact this
  unfold wpX_makeReady
  exact ⟨i8, nm_r (e' := upd (A 4) t 0) (by rw [ct]) ⟨i8, nm_r (e' := upd (A 16) t (-1)) (by rw [ct]) ⟨vp_in_nI hw (by omega), nm_r (e' := upd ra w.length (nI t)) (by rw [cw]) (nm_r (rd_len1 w t).symm (H _ h2))⟩⟩⟩
theorem rd_xc_in {post : SX → Prop} {J : Int32 → Int32 → Int32 → Int32 → Int32 → Int32 → Int32 → Int32 → Int32 → (Nat → Int32) → (Nat → Int32) → (Nat → Int32) → (Nat → Int32) → (Nat → Int32) → (Nat → Int32) → (Nat → Int32) → (Nat → Int32) → (Nat → Int32) → (Nat → Int32) → (Nat → Int32) → (Nat → Int32) → (Nat → Int32) → (Nat → Int32) → (Nat → Int32) → (Nat → Int32) → (Nat → Int32) → (Nat → Int32) → (Nat → Int32) → (Nat → Int32) → (Nat → Int32) → (Nat → Int32) → (Nat → Int32) → (Nat → Int32) → (Nat → Int32) → (Nat → Int32) → (Nat → Int32) → (Nat → Int32) → Prop} {n e D t q : Nat} {Q : Nat → List Nat} (hq : q < 24) {qa ql : Nat → Int32} : ∀ (rest : List Nat) (A : rd_St) (w : List Nat) (ra : Nat → Int32) (k : Nat), rd_Inv n e D A w (rd_dq Q q rest) → rd_LV ra 0 w → rd_LV qa (8 * q + k) rest → ql q = nI (k + rest.length) → k + rest.length ≤ 8 → (∀ ra', rd_LV ra' 0 (w ++ rest) → J (nI (q + 1)) (nI (w ++ rest).length) ((rd_wa A rest) 25 0) ((rd_wa A rest) 26 0) ((rd_wa A rest) 27 0) ((rd_wa A rest) 28 0) ((rd_wa A rest) 29 0) ((rd_wa A rest) 30 0) ((rd_wa A rest) 31 0) ((rd_wa A rest) 0) ((rd_wa A rest) 1) ((rd_wa A rest) 2) ((rd_wa A rest) 3) ((rd_wa A rest) 4) ((rd_wa A rest) 5) ((rd_wa A rest) 6) ((rd_wa A rest) 7) ((rd_wa A rest) 8) ((rd_wa A rest) 9) ((rd_wa A rest) 10) ((rd_wa A rest) 11) ((rd_wa A rest) 12) ((rd_wa A rest) 13) ((rd_wa A rest) 14) ((rd_wa A rest) 15) ((rd_wa A rest) 16) ((rd_wa A rest) 17) ((rd_wa A rest) 18) ((rd_wa A rest) 19) ((rd_wa A rest) 20) qa (upd ql q 0) ra' ((rd_wa A rest) 21) ((rd_wa A rest) 22) ((rd_wa A rest) 32) ((rd_wa A rest) 23)) → wX_complete_31 post J (nI t) (nI q) (rest.length + 1) (nI k) (nI w.length) (A 25 0) (A 26 0) (A 27 0) (A 28 0) (A 29 0) (A 30 0) (A 31 0) (A 0) (A 1) (A 2) (A 3) (A 4) (A 5) (A 6) (A 7) (A 8) (A 9) (A 10) (A 11) (A 12) (A 13) (A 14) (A 15) (A 16) (A 17) (A 18) (A 19) (A 20) qa ql ra (A 21) (A 22) (A 32) (A 23)
  | [], A, w, ra, k, I, h1, h2, h3, h4, H => by
    have cq : (nI q).toNatClampNeg = q := nI_clamp (by omega)
    have iq : vp_in (nI q) 24 := vp_in_nI hq (by omega)
    have g := H ra (by rw [List.append_nil]; exact h1)
    rw [List.append_nil] at g
    simp only [List.length_nil, Nat.add_zero] at h3
    exact ⟨iq, br_t (by rw [cq, h3]; exact nI_le (Nat.le_refl _) (by simp only [List.length_nil] at h4; omega)) ⟨iq, nm_r (e' := upd ql q 0) (by rw [cq]) (nm_r (nI_1 q) g)⟩⟩
  | c :: rest, A, w, ra, k, I, h1, h2, h3, h4, H => by
    have hn := I.vN.2
    simp only [List.length_cons] at h3 h4
    have cq : (nI q).toNatClampNeg = q := nI_clamp (by omega)
    have iq : vp_in (nI q) 24 := vp_in_nI hq (by omega)
    have ik : nI q * 8 + nI k = nI (8 * q + k) := rd_ix q k 8 8 rfl
    have ck : (nI (8 * q + k)).toNatClampNeg = 8 * q + k := nI_clamp (by omega)
    obtain ⟨a1, a2, a3, _, a4, _⟩ := rd_i_dq I
    have cc : (nI c).toNatClampNeg = c := nI_clamp (by omega)
    have r := rd_i_rp (x := 11) a1 a2 (by rw [a3]; decide) (by rw [a3]; decide) a4 (rd_nf_of hn I.vF a2 (by rw [a3]; decide)) (by omega)
    have wl : w.length < 8 := Nat.lt_of_lt_of_le (rd_wlen' I a2 (by rw [a3]; decide)) hn
    refine ⟨iq, br_f (by rw [cq, h3]; exact nI_ge (by omega) (by omega)) ⟨by rw [ik]; exact vp_in_nI (by omega) (by omega), nm_r (e' := nI c) (by rw [ik, ck]; exact h2.1) ⟨vp_in_nI (by omega) (by omega), nm_r (e' := upd (A 12) c 11) (by rw [cc]) ?_⟩⟩⟩
    refine rd_x_mkReady (A := rd_sw A  12 c 11) h1 (by omega) wl (fun ra' h => nm_r (nI_1 k) ?_)
    refine rd_xc_in hq rest (rd_ready (rd_sw A  12 c 11) c) (w ++ [c]) ra' (k + 1) r h h2.2 (by rw [h3]; congr 1; omega) (by omega) (fun ra'' g => ?_)
    have := H ra''
    rw [List.append_assoc] at g ⊢
    exact this g
theorem rd_yc_in {post : SY → Prop} {J : Int32 → Int32 → Int32 → Int32 → Int32 → Int32 → Int32 → Int32 → (Nat → Int32) → (Nat → Int32) → (Nat → Int32) → (Nat → Int32) → (Nat → Int32) → (Nat → Int32) → (Nat → Int32) → (Nat → Int32) → (Nat → Int32) → (Nat → Int32) → (Nat → Int32) → (Nat → Int32) → (Nat → Int32) → (Nat → Int32) → (Nat → Int32) → (Nat → Int32) → (Nat → Int32) → (Nat → Int32) → (Nat → Int32) → (Nat → Int32) → (Nat → Int32) → (Nat → Int32) → (Nat → Int32) → (Nat → Int32) → (Nat → Int32) → Prop} {ex n e D t k : Nat} {Q : Nat → List Nat} (ht : t < n) (hk : k < 3) : ∀ (rest : List Nat) (A : rd_St) (w : List Nat) (ra qa wq am rz ob fr st : Nat → Int32) (bl : Int32), rd_Inv n e D A w (rd_dq Q (3 * t + k) rest) → (ex < n → A 4 ex = 0) → rd_YL ex n D A w (rd_dq Q (3 * t + k) rest) ra qa wq am rz ob fr st bl → (∀ ra qa wq am rz ob fr st bl, rd_YL ex n D (rd_wa A rest) (w ++ rest) (rd_dq Q (3 * t + k) []) ra qa wq am rz ob fr st bl → J (nI (k + 1)) ((rd_wa A rest) 26 0) bl (nI (w ++ rest).length) ((rd_wa A rest) 27 0) ((rd_wa A rest) 28 0) ((rd_wa A rest) 29 0) ((rd_wa A rest) 25 0) ((rd_wa A rest) 3) ((rd_wa A rest) 0) ((rd_wa A rest) 1) ((rd_wa A rest) 2) st ((rd_wa A rest) 5) ((rd_wa A rest) 6) ((rd_wa A rest) 11) ((rd_wa A rest) 8) ((rd_wa A rest) 7) rz ((rd_wa A rest) 16) ((rd_wa A rest) 18) ((rd_wa A rest) 19) fr ((rd_wa A rest) 9) ob ((rd_wa A rest) 13) qa wq ra ((rd_wa A rest) 33) am ((rd_wa A rest) 21) ((rd_wa A rest) 22)) → wY_complete_28 post J (nI t) (nI k) (rest.length + 1) (A 26 0) bl (nI w.length) (A 27 0) (A 28 0) (A 29 0) (A 25 0) (A 3) (A 0) (A 1) (A 2) st (A 5) (A 6) (A 11) (A 8) (A 7) rz (A 16) (A 18) (A 19) fr (A 9) ob (A 13) qa wq ra (A 33) am (A 21) (A 22)
  | [], A, w, ra, qa, wq, am, rz, ob, fr, st, bl, I, hex, hy, H => by
    have hn := I.vN.2
    have iq : 3 * nI t + nI k = nI (3 * t + k) := rd_ix' t k 3 3 rfl
    have cq : (nI (3 * t + k)).toNatClampNeg = 3 * t + k := nI_clamp (by omega)
    have h3 := (hy.y3 (3 * t + k) (by omega)).1
    rw [rd_dq_s] at h3
    have g := H ra qa wq am rz ob fr st bl (by rw [List.append_nil]; exact hy)
    rw [List.append_nil] at g
    refine ⟨by rw [iq]; exact vp_in_nI (by omega) (by omega), br_t (by rw [iq, cq, h3]; exact nI_le (a := 0) (b := 0) (Nat.le_refl _) (by omega)) (nm_r (nI_1 k) g)⟩
  | c :: rest, A, w, ra, qa, wq, am, rz, ob, fr, st, bl, I, hex, hy, H => by
    have hn := I.vN.2
    have iq : 3 * nI t + nI k = nI (3 * t + k) := rd_ix' t k 3 3 rfl
    have cq : (nI (3 * t + k)).toNatClampNeg = 3 * t + k := nI_clamp (by omega)
    obtain ⟨h3, h3'⟩ := hy.y3 (3 * t + k) (by omega)
    rw [rd_dq_s] at h3 h3'
    obtain ⟨a1, a2, a3, _, a4, a5⟩ := rd_i_dq I
    have cc : (nI c).toNatClampNeg = c := nI_clamp (by omega)
    have cex : c ≠ ex := fun e => by
      rw [← e] at hex
      rw [hex a2] at a3
      exact absurd a3 (by decide)
    have r := rd_i_rp (x := 11) a1 a2 (by rw [a3]; decide) (by rw [a3]; decide) a4 (rd_nf_of hn I.vF a2 (by rw [a3]; decide)) (by omega)
    have wl : w.length < 8 := Nat.lt_of_lt_of_le (rd_wlen' I a2 (by rw [a3]; decide)) hn
    have hlen := rd_qlen (q := 3 * t + k) I
    rw [rd_dq_s] at hlen
    simp only [List.length_cons] at hlen h3
    have i8 : 8 * nI (3 * t + k) = nI (8 * (3 * t + k)) := by
      have := rd_ix' (3 * t + k) 0 8 8 rfl
      rw [Nat.add_zero] at this
      rw [← this, nI_0]
      exact (Int32.add_zero _).symm
    refine ⟨by rw [iq]; exact vp_in_nI (by omega) (by omega), br_f (by rw [iq, cq, h3]; exact nI_ge (a := 0) (by omega) (by omega)) ⟨by rw [iq, i8]; exact vp_in_nI (by omega) (by omega), nm_r (e' := nI c) (by rw [iq, i8, nI_clamp (by omega)]; exact h3'.1) ?_⟩⟩
    refine rd_y_leaveQueues (n := n) (Q := rd_dq Q (3 * t + k) (c :: rest)) hn (by omega) (fun q => Nat.le_trans (rd_qlen I) hn) (fun q x hx => Nat.lt_of_lt_of_le ((I.vQ q).2 x hx).1 hn) hy.y2 hy.y3 (fun qa' wq' g2 g3 => ?_)
    rw [a5] at g3
    refine ⟨vp_in_nI (by omega) (by omega), nm_r (e' := upd rz c 11) (by rw [cc]) ?_⟩
    refine rd_y_wake (A := rd_sw A  12 c 11) (Q := rd_dq Q (3 * t + k) rest) (rd_RY_mk (ex := ex) (D := D) ⟨hy.r, g2, g3, rd_y4_pe hy.y4 cex, hy.y5, hy.y6, hy.y7, hy.y8, hy.y9, hy.y10⟩) hn a2 wl (show A 4 c ≠ 7 by rw [a3]; decide) (show A 4 c ≠ 8 by rw [a3]; decide) (show A 4 c ≠ 9 by rw [a3]; decide) ?_
    rintro v' ⟨ra1, qa1, wq1, am1, rz1, ob1, fr1, st1, bl1, rfl, hy1⟩
    refine rd_yc_in ht hk rest (rd_ready (rd_sw A  12 c 11) c) (w ++ [c]) ra1 qa1 wq1 am1 rz1 ob1 fr1 st1 bl1 r (fun z => (rd_un (fun e => cex e.symm)).trans (hex z)) hy1 ?_
    intro ra2 qa2 wq2 am2 rz2 ob2 fr2 st2 bl2 g
    have := H ra2 qa2 wq2 am2 rz2 ob2 fr2 st2 bl2
    rw [List.append_assoc] at g ⊢
    exact this g
/-- what wakening the callers of a queue keeps -/
theorem rd_ST_wa {n e D k : Nat} {A : rd_St} {w L : List Nat} {Q : Nat → List Nat} (h : rd_Inv n e D A w (rd_dq Q k L)) : rd_ST n A (rd_wa A L) w (w ++ L) ∧ rd_Inv n e D (rd_wa A L) (w ++ L) (rd_dq Q k []) := by
  obtain ⟨a, b, c, d⟩ := rd_i_wa h
  refine ⟨⟨b, c, rd_kp_w d (fun t ht => by rcases ht with z | z <;> rw [z] <;> decide), ?_, ?_⟩, a⟩
  · intro s z
    by_cases y : A 4 s = 1
    · have := rd_wa_cd (s := s) (L := L) (A := A)
      rcases this with q | q
      · rw [q, y] at z; exact absurd z (by decide)
      · rw [q] at z; exact absurd z (by decide)
    · rw [(d s y).1] at z; exact z
  · intro s z
    have y : A 4 s ≠ 1 := by rcases z with z | z <;> rw [z] <;> decide
    rw [(d s y).1]; exact z
/-- the callers in the three queues of a task, in lockstep -/
theorem rd_cq3 {ex n e D t : Nat} (ht : t < n) : ∀ (d k : Nat), k + d = 3 → ∀ (A : rd_St) (w : List Nat) (Q : Nat → List Nat), rd_Inv n e D A w Q → (ex < n → A 4 ex = 0) → ∃ A' w' Q', rd_Inv n e D A' w' Q' ∧ rd_ST n A A' w w' ∧
    (∀ (post : SX → Prop) (ra qa ql : Nat → Int32), rd_XL w Q ra qa ql → (∀ u', rd_RX A' w' Q' u' → post u') → wX_complete_19 post (nI t) (d + 1) (nI (3 * t + k)) (nI w.length) (A 25 0) (A 26 0) (A 27 0) (A 28 0) (A 29 0) (A 30 0) (A 31 0) (A 0) (A 1) (A 2) (A 3) (A 4) (A 5) (A 6) (A 7) (A 8) (A 9) (A 10) (A 11) (A 12) (A 13) (A 14) (A 15) (A 16) (A 17) (A 18) (A 19) (A 20) qa ql ra (A 21) (A 22) (A 32) (A 23)) ∧
    (∀ (post : SY → Prop) (ra qa wq am rz ob fr st : Nat → Int32) (bl : Int32), rd_YL ex n D A w Q ra qa wq am rz ob fr st bl → (∀ ra qa wq am rz ob fr st bl, rd_YL ex n D A' w' Q' ra qa wq am rz ob fr st bl → wY_complete_23 post (nI t) 1 (nI 3) (A' 26 0) bl (nI w'.length) (A' 27 0) (A' 28 0) (A' 29 0) (A' 25 0) (A' 3) (A' 0) (A' 1) (A' 2) st (A' 5) (A' 6) (A' 11) (A' 8) (A' 7) rz (A' 16) (A' 18) (A' 19) fr (A' 9) ob (A' 13) qa wq ra (A' 33) am (A' 21) (A' 22)) → wY_complete_23 post (nI t) (d + 1) (nI k) (A 26 0) bl (nI w.length) (A 27 0) (A 28 0) (A 29 0) (A 25 0) (A 3) (A 0) (A 1) (A 2) st (A 5) (A 6) (A 11) (A 8) (A 7) rz (A 16) (A 18) (A 19) fr (A 9) ob (A 13) qa wq ra (A 33) am (A 21) (A 22))
  | 0, k, hk, A, w, Q, I, hex => by
    have hn := I.vN.2
    have e : k = 3 := by omega
    subst e
    have i3 : (nI t + 1) * 3 = nI (3 * t + 3) := by
      rw [nI_1]
      have := rd_ix (t + 1) 0 3 3 rfl
      rw [nI_0, Int32.add_zero] at this
      rw [this]
      congr 1
    refine ⟨A, w, Q, I, rd_ST_rf _ _ _, ?_, ?_⟩
    · intro post ra qa ql hx H
      exact br_t (by rw [i3]; exact nI_le (Nat.le_refl _) (by omega)) (H _ (rd_RX_mk hx))
    · intro post ra qa wq am rz ob fr st bl hy H
      exact H ra qa wq am rz ob fr st bl hy
  | d + 1, k, hk, A, w, Q, I, hex => by
    have hn := I.vN.2
    have I0 := I
    rw [← rd_dq_e (Q := Q) (k := 3 * t + k)] at I0
    obtain ⟨S1, I1⟩ := rd_ST_wa I0
    obtain ⟨A', w', Q', I', S', X, Y⟩ := rd_cq3 (ex := ex) ht d (k + 1) (by omega) _ _ _ I1 (fun z => (S1.2.2.1 ex (Or.inl (hex z))).1.trans (hex z))
    refine ⟨A', w', Q', I', rd_ST_tr S1 S', ?_, ?_⟩
    · intro post ra qa ql hx H
      have i3 : (nI t + 1) * 3 = nI (3 * t + 3) := by
        rw [nI_1]
        have := rd_ix (t + 1) 0 3 3 rfl
        rw [nI_0, Int32.add_zero] at this
        rw [this]
        congr 1
      have hlen := rd_qlen (q := 3 * t + k) I
      obtain ⟨q1, q2⟩ := hx.2 (3 * t + k) (by omega)
      refine br_f (by rw [i3]; exact nI_ge (by omega) (by omega)) ⟨_, rd_xc_in (by omega) (Q (3 * t + k)) A w ra 0 I0 hx.1 q2 (by rw [q1, Nat.zero_add]) (by omega) (fun ra' g => ?_)⟩
      refine X post ra' qa _ ⟨g, fun p hp => ?_⟩ H
      by_cases e : p = 3 * t + k
      · subst e
        rw [rd_us, rd_dq_s]
        exact ⟨rfl, trivial⟩
      · rw [rd_un e, rd_dq_n e]
        exact hx.2 p hp
    · intro post ra qa wq am rz ob fr st bl hy H
      have hy0 := hy
      rw [← rd_dq_e (Q := Q) (k := 3 * t + k)] at hy0
      refine br_f (nI_ge (b := 3) (by omega) (by omega)) ⟨_, rd_yc_in ht (by omega) (Q (3 * t + k)) A w ra qa wq am rz ob fr st bl I0 hex hy0 ?_⟩
      intro ra qa wq am rz ob fr st bl g
      exact Y post ra qa wq am rz ob fr st bl g H
def rd_FS (n t : Nat) (A B : rd_St) (w x : List Nat) : Prop := rd_sta A B ∧ rd_wl n A B ∧ rd_kp (fun s => (A 4 s = 0 ∨ A 4 s = 9) ∧ s ≠ t) A B w x ∧ (∀ s, B 4 s = 9 → A 4 s = 9 ∧ s ≠ t) ∧ (∀ s, A 4 s = 7 ∨ A 4 s = 8 → B 4 s = 7 ∨ B 4 s = 8) ∧ (B 4 t = 7 ∨ B 4 t = 8) ∧ rd_W B t < rd_W A t
def rd_cmp (A : rd_St) (t : Nat) (how : Int32) : rd_St := rd_sw (rd_sw A  7 t how)  4 t 7
theorem rd_cs {ex n D t : Nat} {A : rd_St} {w : List Nat} {Q : Nat → List Nat} (I : rd_Inv n 8 D A w Q) (ht : t < n) (h9 : A 4 t = 9) (hd : A 18 t = 0) (how : Int32) (hex : ex < n → A 4 ex = 0) : ∃ A1 w1 A' w' Q', rd_Inv n 8 D A' w' Q' ∧ rd_FS n t A A' w w' ∧
    (∀ (post : SX → Prop) (u : SX), rd_RX A w Q u → (∀ u', rd_RX A1 w1 Q' u' → post u') → wpX_complete post u (nI t) how) ∧
    (∀ (post : SX → Prop) (u : SX), rd_RX A1 w1 Q' u → (∀ u', rd_RX A' w' Q' u' → post u') → wpX_settle post u (nI t)) ∧
    (∀ (post : SY → Prop) (ra qa wq am rz ob fr st : Nat → Int32) (bl : Int32), rd_YL ex n D (rd_cmp A t how) w Q ra qa wq am rz ob fr st bl → (∀ v', rd_RY ex n D A' w' Q' v' → post v') → wY_complete_23 post (nI t) 4 (nI 0) ((rd_cmp A t how) 26 0) bl (nI w.length) ((rd_cmp A t how) 27 0) ((rd_cmp A t how) 28 0) ((rd_cmp A t how) 29 0) ((rd_cmp A t how) 25 0) ((rd_cmp A t how) 3) ((rd_cmp A t how) 0) ((rd_cmp A t how) 1) ((rd_cmp A t how) 2) st ((rd_cmp A t how) 5) ((rd_cmp A t how) 6) ((rd_cmp A t how) 11) ((rd_cmp A t how) 8) ((rd_cmp A t how) 7) rz ((rd_cmp A t how) 16) ((rd_cmp A t how) 18) ((rd_cmp A t how) 19) fr ((rd_cmp A t how) 9) ob ((rd_cmp A t how) 13) qa wq ra ((rd_cmp A t how) 33) am ((rd_cmp A t how) 21) ((rd_cmp A t how) 22)) := by
  have hn := I.vN.2
  have ct : (nI t).toNatClampNeg = t := nI_clamp (by omega)
  have i8 : vp_in (nI t) 8 := vp_in_nI (by omega) (by omega)
  have I1 : rd_Inv n t D (rd_cmp A t how) w Q := rd_i_cmp (rd_i_en I) ht h9 hd
  have c7 : (rd_cmp A t how) 4 t = 7 := rd_us
  have hex1 : ex < n → (rd_cmp A t how) 4 ex = 0 := fun z => (rd_un (fun e => by rw [e] at hex; rw [hex ht] at h9; exact absurd h9 (by decide))).trans (hex z)
  obtain ⟨A1, w1, Q', J1, S1, X1, Y1⟩ := rd_cq3 (ex := ex) ht 3 0 rfl _ _ _ I1 hex1
  have c71 := S1.2.2.2.2 t (Or.inl c7)
  obtain ⟨A', w', J2, S2, X2, Y2⟩ := rd_settle (ex := ex) (t + 1) t (by omega) A1 w1 J1 ht (fun z => (S1.2.2.1 ex (Or.inl (hex1 z))).1.trans (hex1 z)) (fun z => by
    rcases c71 with y | y <;> rw [y] at z <;> exact absurd z (by decide))
  have S := rd_ST_tr S1 S2
  have S0 : ∀ s, s ≠ t → (rd_cmp A t how) 4 s = A 4 s := fun s hs => rd_un hs
  refine ⟨A1, w1, A', w', Q', J2, ⟨rd_sta_tr (rd_sta_tr (rd_sta_sw (by simp)) (rd_sta_sw (by simp))) S.1, rd_wl_tr (rd_wl_cmp h9) S.2.1, ?_, ?_, ?_, S.2.2.2.2 t (Or.inl c7), ?_⟩, ?_, ?_, ?_⟩
  · have no : ¬ (fun s => (A 4 s = 0 ∨ A 4 s = 9) ∧ s ≠ t) t := fun z => z.2 rfl
    refine rd_kp_tr (rd_kp_tr rd_kp_en (rd_kp_cd no) (fun _ z => z)) S.2.2.1 (fun s z => ?_)
    rw [S0 s z.2]; exact z.1
  · intro s z
    have := S.2.2.2.1 s z
    by_cases e : s = t
    · rw [e, c7] at this; exact absurd this (by decide)
    · rw [S0 s e] at this; exact ⟨this, e⟩
  · intro s z
    refine S.2.2.2.2 s ?_
    by_cases e : s = t
    · rw [e]; exact Or.inl c7
    · rw [S0 s e]; exact z
  · exact Nat.lt_of_le_of_lt (S.2.1 t ht) (rd_w_cmp (A := A) h9)
  · rintro post u ⟨ra, qa, ql, rfl, hx⟩ H
    unfold wpX_complete
    have e3 : nI t * 3 = nI (3 * t + 0) := by
      have := rd_ix t 0 3 3 rfl
      rw [nI_0, Int32.add_zero] at this
      exact this
    exact ⟨i8, nm_r (e' := upd (A 7) t how) (by rw [ct]) ⟨i8, nm_r (e' := upd (A 4) t 7) (by rw [ct]) (nm_r e3 ⟨_, X1 post ra qa ql hx H⟩)⟩⟩
  · rintro post u ⟨ra, qa, ql, rfl, hx⟩ H
    unfold wpX_settle
    exact ⟨_, X2 post ra qa ql 0 (t + 2) (by omega) (by omega) hx H⟩
  · intro post ra qa wq am rz ob fr st bl hy H
    refine Y1 post ra qa wq am rz ob fr st bl hy ?_
    intro ra qa wq am rz ob fr st bl hy
    refine br_t (nI_le (a := 3) (b := 3) (by omega) (by omega)) ?_
    unfold wpY_settle
    refine ⟨_, Y2 _ ra qa wq am rz ob fr st bl (t + 2) (by omega) hy ?_⟩
    rintro v' ⟨ra', qa', wq', am, rz', ob', fr', st', bl', rfl, hy'⟩
    exact H _ (rd_RY_mk hy')
/-- the reference completes a falling task -/
theorem rd_y_cmp9 {ex n D t : Nat} {A A' : rd_St} {w w' : List Nat} {Q Q' : Nat → List Nat} {how : Int32} (I : rd_Inv n 8 D A w Q) (ht : t < n) (h9 : A 4 t = 9) (hd : A 18 t = 0) (Y : ∀ (post : SY → Prop) (ra qa wq am rz ob fr st : Nat → Int32) (bl : Int32), rd_YL ex n D (rd_cmp A t how) w Q ra qa wq am rz ob fr st bl → (∀ v', rd_RY ex n D A' w' Q' v' → post v') → wY_complete_23 post (nI t) 4 (nI 0) ((rd_cmp A t how) 26 0) bl (nI w.length) ((rd_cmp A t how) 27 0) ((rd_cmp A t how) 28 0) ((rd_cmp A t how) 29 0) ((rd_cmp A t how) 25 0) ((rd_cmp A t how) 3) ((rd_cmp A t how) 0) ((rd_cmp A t how) 1) ((rd_cmp A t how) 2) st ((rd_cmp A t how) 5) ((rd_cmp A t how) 6) ((rd_cmp A t how) 11) ((rd_cmp A t how) 8) ((rd_cmp A t how) 7) rz ((rd_cmp A t how) 16) ((rd_cmp A t how) 18) ((rd_cmp A t how) 19) fr ((rd_cmp A t how) 9) ob ((rd_cmp A t how) 13) qa wq ra ((rd_cmp A t how) 33) am ((rd_cmp A t how) 21) ((rd_cmp A t how) 22)) (post : SY → Prop) (v : SY) (hv : rd_RY ex n D A w Q v) (H : ∀ v', rd_RY ex n D A' w' Q' v' → post v') : wpY_complete post v (nI t) how := by
  have hn := I.vN.2
  have ct : (nI t).toNatClampNeg = t := nI_clamp (by omega)
  have i8 : vp_in (nI t) 8 := vp_in_nI (by omega) (by omega)
  obtain ⟨ra, qa, wq, am, rz, ob, fr, st, bl, rfl, hy⟩ := hv
  unfold wpY_complete
  refine rd_y_rest hy.r (by omega) (Nat.le_trans (rd_wlen I) hn) (fun x hx => Nat.lt_of_lt_of_le ((I.vR.2 x).mp hx).1 hn) (fun ra' gr => ?_)
  have c0 : A 4 t ≠ 0 := by rw [h9]; decide
  have hw : A 16 t = -1 := rd_wk0 I ht ⟨by rw [h9]; decide, by rw [h9]; decide, by rw [h9]; decide⟩
  rw [rd_fl_not (fun y => c0 ((I.vR.2 t).mp y).2)] at gr ⊢
  rw [rd_sw_eq (A := A) (k :=  16) hw]
  refine ⟨i8, nm_r (e' := upd (A 7) t how) (by rw [ct]) ⟨i8, nm_r (e' := upd rz t 0) (by rw [ct]) ⟨_, Y post ra' qa wq am (upd rz t 0) ob fr (upd st t 7) bl ?_ H⟩⟩⟩
  exact ⟨gr, hy.y2, hy.y3, rd_y4_rz (rd_y4_cd hy.y4 (Or.inl (Or.inl rfl))) (Or.inl rd_us), hy.y5, hy.y6, hy.y7, rd_y8_cmp hy.y8 hn I.vB h9 hd, rd_y9_u hy.y9 rfl, hy.y10⟩
/-- the reference completes a ready task without frames: the component lets it fall first -/
theorem rd_y_cmp0 {ex n D t : Nat} {A A' : rd_St} {w w' : List Nat} {Q Q' : Nat → List Nat} {how : Int32} (I : rd_Inv n 8 D A w Q) (ht : t < n) (h0 : A 4 t = 0) (Y : ∀ (post : SY → Prop) (ra qa wq am rz ob fr st : Nat → Int32) (bl : Int32), rd_YL 8 n D (rd_cmp (rd_fall A t) t how) (w.filter (fun x => x != t)) (rd_fq Q t) ra qa wq am rz ob fr st bl → (∀ v', rd_RY 8 n D A' w' Q' v' → post v') → wY_complete_23 post (nI t) 4 (nI 0) ((rd_cmp (rd_fall A t) t how) 26 0) bl (nI (w.filter (fun x => x != t)).length) ((rd_cmp (rd_fall A t) t how) 27 0) ((rd_cmp (rd_fall A t) t how) 28 0) ((rd_cmp (rd_fall A t) t how) 29 0) ((rd_cmp (rd_fall A t) t how) 25 0) ((rd_cmp (rd_fall A t) t how) 3) ((rd_cmp (rd_fall A t) t how) 0) ((rd_cmp (rd_fall A t) t how) 1) ((rd_cmp (rd_fall A t) t how) 2) st ((rd_cmp (rd_fall A t) t how) 5) ((rd_cmp (rd_fall A t) t how) 6) ((rd_cmp (rd_fall A t) t how) 11) ((rd_cmp (rd_fall A t) t how) 8) ((rd_cmp (rd_fall A t) t how) 7) rz ((rd_cmp (rd_fall A t) t how) 16) ((rd_cmp (rd_fall A t) t how) 18) ((rd_cmp (rd_fall A t) t how) 19) fr ((rd_cmp (rd_fall A t) t how) 9) ob ((rd_cmp (rd_fall A t) t how) 13) qa wq ra ((rd_cmp (rd_fall A t) t how) 33) am ((rd_cmp (rd_fall A t) t how) 21) ((rd_cmp (rd_fall A t) t how) 22)) (hex : ex = t ∨ ex = 8) (post : SY → Prop) (v : SY) (hv : rd_RY ex n D A w Q v) (H : ∀ v', rd_RY 8 n D A' w' Q' v' → post v') : wpY_complete post v (nI t) how := by
  have hn := I.vN.2
  have ct : (nI t).toNatClampNeg = t := nI_clamp (by omega)
  have i8 : vp_in (nI t) 8 := vp_in_nI (by omega) (by omega)
  have c9 : A 4 t ≠ 9 := by rw [h0]; decide
  have c8 : A 4 t ≠ 8 := by rw [h0]; decide
  obtain ⟨ra, qa, wq, am, rz, ob, fr, st, bl, rfl, hy⟩ := hv
  unfold wpY_complete
  refine rd_y_rest hy.r (by omega) (Nat.le_trans (rd_wlen I) hn) (fun x hx => Nat.lt_of_lt_of_le ((I.vR.2 x).mp hx).1 hn) (fun ra' gr => ?_)
  refine ⟨i8, nm_r (e' := upd (A 7) t how) (by rw [ct]; rfl) ⟨i8, nm_r (e' := upd rz t 0) (by rw [ct]) ⟨_, Y post ra' qa wq am (upd rz t 0) ob fr (upd st t 7) bl ?_ H⟩⟩⟩
  have ecd : (rd_cmp (rd_fall A t) t how) 4 = upd (A 4) t 7 := rd_uu
  have efq : rd_fq Q t = Q := rd_fq_no (rd_vQ_no I.vQ (by rw [h0]; decide))
  refine ⟨gr, hy.y2, ?_, ?_, hy.y5, hy.y6, hy.y7, ?_, ?_, hy.y10⟩
  · rw [efq]; exact hy.y3
  · rw [ecd]
    intro u hu a b c
    show upd rz t 0 u = if u = 8 then 0 else A 12 u
    rw [if_neg (by omega)]
    by_cases e : u = t
    · rw [e, rd_us] at a; exact absurd rfl a
    · rw [rd_un e] at a b c ⊢
      refine rd_y4_n hy.y4 hu ?_ a b c
      rcases hex with z | z
      · rw [z]; exact e
      · omega
  · rw [ecd]; exact rd_y8_cd hy.y8 (by decide) c9 c8
  · rw [ecd]; exact rd_y9_u hy.y9 rfl
end
section
/-! a fall -/
theorem rd_nf_pop {n : Nat} {dp fk fv : Nat → Int32} {t d c : Nat} (ht : t < n) (hd : dp t = nI (d + 1)) (h8 : d < 8) (hU : rd_vU n dp fk fv) (h1 : fk (8 * t + d) = 1) (hv : fv (8 * t + d) = nI c) : rd_nf n (upd dp t (nI d)) fk fv c := by
  intro s hs l hl a b
  have hl' : l < (dp s).toNatClampNeg := by
    by_cases y : s = t
    · subst y
      rw [rd_us, nI_clamp (by omega)] at hl
      rw [hd, nI_clamp (by omega)]; omega
    · rw [rd_un y] at hl; exact hl
  have z := hU s hs t ht l hl' d (by rw [hd, nI_clamp (by omega)]; omega) a h1 (b.trans hv.symm)
  rw [z.1, rd_us, nI_clamp (by omega)] at hl
  omega
theorem rd_xl_tk {post : Int32 → SX → Prop} {A : rd_St} {rl : Int32} {ra qa ql : Nat → Int32} {t d n : Nat} (hn : n ≤ 8) (hk : A 26 0 = nI n) (ht : t < 8) (hd : A 18 t = nI d) (h8 : d < 8) (h0 : A 19 (8 * t + d) = 0) {mb0 : Nat → Int32} (H : post (-1) (rd_tX (rd_sa A  10 (rd_re n (A 9) mb0 t d)) rl ra qa ql)) : ∀ (e k : Nat) (mb : Nat → Int32), k + e = n → (∀ u, mb u = if u < k ∧ A 9 u = nI t ∧ mb0 u = nI d then -1 else mb0 u) → wX_takeFrame_41 post (nI t) (nI (8 * t + d)) rl ((rd_sa A  10 mb) 25 0) ((rd_sa A  10 mb) 26 0) ((rd_sa A  10 mb) 27 0) ((rd_sa A  10 mb) 28 0) ((rd_sa A  10 mb) 29 0) ((rd_sa A  10 mb) 30 0) ((rd_sa A  10 mb) 31 0) (e + 1) (nI k) ((rd_sa A  10 mb) 0) ((rd_sa A  10 mb) 1) ((rd_sa A  10 mb) 2) ((rd_sa A  10 mb) 3) ((rd_sa A  10 mb) 4) ((rd_sa A  10 mb) 5) ((rd_sa A  10 mb) 6) ((rd_sa A  10 mb) 7) ((rd_sa A  10 mb) 8) ((rd_sa A  10 mb) 9) ((rd_sa A  10 mb) 10) ((rd_sa A  10 mb) 11) ((rd_sa A  10 mb) 12) ((rd_sa A  10 mb) 13) ((rd_sa A  10 mb) 14) ((rd_sa A  10 mb) 15) ((rd_sa A  10 mb) 16) ((rd_sa A  10 mb) 17) ((rd_sa A  10 mb) 18) ((rd_sa A  10 mb) 19) ((rd_sa A  10 mb) 20) qa ql ra ((rd_sa A  10 mb) 21) ((rd_sa A  10 mb) 22) ((rd_sa A  10 mb) 32) ((rd_sa A  10 mb) 23)
  | 0, k, mb, h1, h2 => by
    have e : k = n := by omega
    subst e
    have em : mb = rd_re k (A 9) mb0 t d := by
      funext u
      rw [h2 u]
      rfl
    subst em
    exact br_t (by show A 26 0 ≤ nI k; rw [hk]; exact nI_le (Nat.le_refl _) (by omega)) H
  | e + 1, k, mb, h1, h2 => by
    have ck : (nI k).toNatClampNeg = k := nI_clamp (by omega)
    have ct : (nI t).toNatClampNeg = t := nI_clamp (by omega)
    have cd : (nI (8 * t + d)).toNatClampNeg = 8 * t + d := nI_clamp (by omega)
    have i8 : vp_in (nI k) 8 := vp_in_nI (by omega) (by omega)
    have i8t : vp_in (nI t) 8 := vp_in_nI (by omega) (by omega)
    have emk : mb k = mb0 k := by rw [h2 k, if_neg (fun q => by omega)]
    have next : ¬ (A 9 k = nI t ∧ mb0 k = nI d) → wX_takeFrame_41 post (nI t) (nI (8 * t + d)) rl ((rd_sa A  10 mb) 25 0) ((rd_sa A  10 mb) 26 0) ((rd_sa A  10 mb) 27 0) ((rd_sa A  10 mb) 28 0) ((rd_sa A  10 mb) 29 0) ((rd_sa A  10 mb) 30 0) ((rd_sa A  10 mb) 31 0) (e + 1) (nI (k + 1)) ((rd_sa A  10 mb) 0) ((rd_sa A  10 mb) 1) ((rd_sa A  10 mb) 2) ((rd_sa A  10 mb) 3) ((rd_sa A  10 mb) 4) ((rd_sa A  10 mb) 5) ((rd_sa A  10 mb) 6) ((rd_sa A  10 mb) 7) ((rd_sa A  10 mb) 8) ((rd_sa A  10 mb) 9) ((rd_sa A  10 mb) 10) ((rd_sa A  10 mb) 11) ((rd_sa A  10 mb) 12) ((rd_sa A  10 mb) 13) ((rd_sa A  10 mb) 14) ((rd_sa A  10 mb) 15) ((rd_sa A  10 mb) 16) ((rd_sa A  10 mb) 17) ((rd_sa A  10 mb) 18) ((rd_sa A  10 mb) 19) ((rd_sa A  10 mb) 20) qa ql ra ((rd_sa A  10 mb) 21) ((rd_sa A  10 mb) 22) ((rd_sa A  10 mb) 32) ((rd_sa A  10 mb) 23) := fun z =>
      rd_xl_tk hn hk ht hd h8 h0 H e (k + 1) mb (by omega) (fun u => by
        rw [h2 u]
        by_cases y : A 9 u = nI t ∧ mb0 u = nI d
        · by_cases x : u < k
          · rw [if_pos ⟨x, y⟩, if_pos ⟨by omega, y⟩]
          · have : u ≠ k := fun q => z (q ▸ y)
            rw [if_neg (fun q => x q.1), if_neg (fun q => by omega)]
        · rw [if_neg (fun q => y q.2), if_neg (fun q => y q.2)])
    refine br_f (by show ¬ A 26 0 ≤ nI k; rw [hk]; exact nI_ge (by omega) (by omega)) ⟨vp_in_nI (by omega) (by omega), br_t (by rw [cd]; exact h0) ⟨i8, ?_⟩⟩
    by_cases e1 : A 9 k = nI t
    · refine br_t (by rw [ck]; exact e1) ⟨i8, i8t, ?_⟩
      by_cases e2 : mb0 k = nI d
      · refine br_t (show mb (nI k).toNatClampNeg = A 18 (nI t).toNatClampNeg by rw [ck, ct, emk, hd]; exact e2) ⟨i8, nm_r (e' := upd mb k (-1)) (by rw [ck]; rfl) (nm_r (nI_1 k) (rd_xl_tk hn hk ht hd h8 h0 H e (k + 1) (upd mb k (-1)) (by omega) (fun u => ?_)))⟩
        by_cases y : u = k
        · subst y
          rw [rd_us, if_pos ⟨by omega, e1, e2⟩]
        · rw [rd_un y, h2 u]
          by_cases z : A 9 u = nI t ∧ mb0 u = nI d
          · by_cases x : u < k
            · rw [if_pos ⟨x, z⟩, if_pos ⟨by omega, z⟩]
            · rw [if_neg (fun q => x q.1), if_neg (fun q => by omega)]
          · rw [if_neg (fun q => z q.2), if_neg (fun q => z q.2)]
      · exact br_f (show ¬ mb (nI k).toNatClampNeg = A 18 (nI t).toNatClampNeg by rw [ck, ct, emk, hd]; exact e2) (nm_r (nI_1 k) (next (fun z => e2 z.2)))
    · exact br_f (by rw [ck]; exact e1) (nm_r (nI_1 k) (next (fun z => e1 z.1)))
theorem rd_xl_tk2 {post : Int32 → SX → Prop} {A : rd_St} {rl : Int32} {ra qa ql : Nat → Int32} {t d n : Nat} (hn : n ≤ 8) (hk : A 26 0 = nI n) (ht : t < 8) (h8 : d < 8) (h0 : A 19 (8 * t + d) ≠ 0) (H : post (-1) (rd_tX A rl ra qa ql)) : ∀ (e k : Nat), k + e = n → wX_takeFrame_41 post (nI t) (nI (8 * t + d)) rl (A 25 0) (A 26 0) (A 27 0) (A 28 0) (A 29 0) (A 30 0) (A 31 0) (e + 1) (nI k) (A 0) (A 1) (A 2) (A 3) (A 4) (A 5) (A 6) (A 7) (A 8) (A 9) (A 10) (A 11) (A 12) (A 13) (A 14) (A 15) (A 16) (A 17) (A 18) (A 19) (A 20) qa ql ra (A 21) (A 22) (A 32) (A 23)
  | 0, k, h1 => by
    have e : k = n := by omega
    subst e
    exact br_t (by rw [hk]; exact nI_le (Nat.le_refl _) (by omega)) H
  | e + 1, k, h1 => by
    have cd : (nI (8 * t + d)).toNatClampNeg = 8 * t + d := nI_clamp (by omega)
    exact br_f (by rw [hk]; exact nI_ge (by omega) (by omega)) ⟨vp_in_nI (by omega) (by omega), br_f (by rw [cd]; exact h0) (nm_r (nI_1 k) (rd_xl_tk2 hn hk ht h8 h0 H e (k + 1) (by omega)))⟩
theorem rd_x_take {post : Int32 → SX → Prop} {n : Nat} {A : rd_St} {w : List Nat} {Q : Nat → List Nat} {u : SX} {t d : Nat} (hu : rd_RX A w Q u) (hN : rd_vN n (A 26)) (ht : t < 8) (hd : A 18 t = nI (d + 1)) (h8 : d < 8) (H1 : A 19 (8 * t + d) = 1 → ∀ u', rd_RX (rd_sw A  18 t (nI d)) w Q u' → post (A 20 (8 * t + d)) u') (H0 : A 19 (8 * t + d) = 0 → ∀ u', rd_RX (rd_sw (rd_sa A  10 (rd_re n (A 9) (A 10) t d))  18 t (nI d)) w Q u' → post (-1) u') (H2 : A 19 (8 * t + d) ≠ 0 → A 19 (8 * t + d) ≠ 1 → ∀ u', rd_RX (rd_sw A  18 t (nI d)) w Q u' → post (-1) u') : wpX_takeFrame post u (nI t) := by
  obtain ⟨ra, qa, ql, rfl, hx⟩ := hu
  have ct : (nI t).toNatClampNeg = t := nI_clamp (by omega)
  have i8 : vp_in (nI t) 8 := vp_in_nI (by omega) (by omega)
  have i64 : vp_in (nI (8 * t + d)) 64 := vp_in_nI (by omega) (by omega)
  have cd : (nI (8 * t + d)).toNatClampNeg = 8 * t + d := nI_clamp (by omega)
  unfold wpX_takeFrame
  refine ⟨i8, i8, nm_r (e' := upd (A 18) t (nI d)) (by rw [ct, hd, nI_pred]) ⟨i8, nm_r (e' := nI (8 * t + d)) (by rw [ct, rd_us]; exact rd_ix t d 8 8 rfl) ⟨i64, ?_⟩⟩⟩
  by_cases h1 : A 19 (8 * t + d) = 1
  · refine br_t (by rw [cd]; exact h1) ⟨i64, ?_⟩
    rw [cd]
    exact H1 h1 _ (rd_RX_mk (A := rd_sw A  18 t (nI d)) hx)
  · refine br_f (by rw [cd]; exact h1) ?_
    by_cases h0 : A 19 (8 * t + d) = 0
    · refine ⟨n + 1, ?_⟩
      have g := rd_xl_tk (post := post) (A := rd_sw A  18 t (nI d)) (rl := nI w.length) (ra := ra) (qa := qa) (ql := ql) (mb0 := A 10) hN.2 hN.1 ht (d := d) rd_us h8 h0 (H0 h0 _ (rd_RX_mk (A := rd_sw (rd_sa A  10 (rd_re n (A 9) (A 10) t d))  18 t (nI d)) hx)) n 0 (A 10) (by omega) (fun u => by rw [if_neg (fun q => by omega)])
      exact g
    · exact ⟨n + 1, rd_xl_tk2 (A := rd_sw A  18 t (nI d)) hN.2 hN.1 ht h8 h0 (H2 h0 h1 _ (rd_RX_mk (A := rd_sw A  18 t (nI d)) hx)) n 0 (by omega)⟩
theorem rd_LV_last {a : Nat → Int32} {T : List Nat} {s : Nat} (h : rd_LV a 0 (T ++ [s])) : a T.length = nI s := by
  have := rd_LV_get (i := T.length) (x := s) h (by simp)
  rw [Nat.zero_add] at this
  exact this
/-- the stack of falling tasks, the latest last -/
def rd_stk (n : Nat) (A : rd_St) (S : List Nat) : Prop := S.Nodup ∧ (∀ s, s ∈ S ↔ (s < n ∧ A 4 s = 9)) ∧ rd_LV (A 32) 0 S ∧ rd_LV (A 33) 0 S
def rd_FT (n : Nat) (A B : rd_St) (w x : List Nat) : Prop := rd_stw A B ∧ rd_wl n A B ∧ rd_kp (fun s => A 4 s = 0) A B w x ∧ (∀ s, A 4 s = 7 ∨ A 4 s = 8 → B 4 s = 7 ∨ B 4 s = 8)
theorem rd_FT_rf (n : Nat) (A : rd_St) (w : List Nat) : rd_FT n A A w w := ⟨rd_stw_of (rd_sta_rf _), rd_wl_rf _ _, rd_kp_rf _ _ _, fun _ h => h⟩
theorem rd_FT_tr {n : Nat} {A B C : rd_St} {w x y : List Nat} (h : rd_FT n A B w x) (g : rd_FT n B C x y) : rd_FT n A C w y :=
  ⟨rd_stw_tr h.1 g.1, rd_wl_tr h.2.1 g.2.1, rd_kp_tr h.2.2.1 g.2.2.1 (fun t ht => by rw [(h.2.2.1 t ht).1]; exact ht), fun s z => g.2.2.2 s (h.2.2.2 s z)⟩
def rd_Xs (how : Int32) (A B : rd_St) (w x : List Nat) (Q R : Nat → List Nat) (S T : List Nat) : Prop := ∀ (post : SX → Prop) (f i : Nat) (ra qa ql : Nat → Int32), i < 1000 → rd_XL w Q ra qa ql → (∀ ra qa ql, rd_XL x R ra qa ql → wX_bringDown_17 post how f (nI T.length) (nI (i + 1)) (nI x.length) (B 25 0) (B 26 0) (B 27 0) (B 28 0) (B 29 0) (B 30 0) (B 31 0) (B 0) (B 1) (B 2) (B 3) (B 4) (B 5) (B 6) (B 7) (B 8) (B 9) (B 10) (B 11) (B 12) (B 13) (B 14) (B 15) (B 16) (B 17) (B 18) (B 19) (B 20) qa ql ra (B 21) (B 22) (B 32) (B 23)) → wX_bringDown_17 post how (f + 1) (nI S.length) (nI i) (nI w.length) (A 25 0) (A 26 0) (A 27 0) (A 28 0) (A 29 0) (A 30 0) (A 31 0) (A 0) (A 1) (A 2) (A 3) (A 4) (A 5) (A 6) (A 7) (A 8) (A 9) (A 10) (A 11) (A 12) (A 13) (A 14) (A 15) (A 16) (A 17) (A 18) (A 19) (A 20) qa ql ra (A 21) (A 22) (A 32) (A 23)
def rd_Ys (ex n D : Nat) (how : Int32) (A B : rd_St) (w x : List Nat) (Q R : Nat → List Nat) (S T : List Nat) : Prop := ∀ (post : SY → Prop) (f : Nat) (ra qa wq am rz ob fr st : Nat → Int32) (bl : Int32), rd_YL ex n D A w Q ra qa wq am rz ob fr st bl → (∀ ra qa wq am rz ob fr st bl, rd_YL ex n D B x R ra qa wq am rz ob fr st bl → wY_kill_20 post how f (nI T.length) (B 26 0) bl (nI x.length) (B 27 0) (B 28 0) (B 29 0) (B 25 0) (B 3) (B 0) (B 1) (B 2) st (B 5) (B 6) (B 11) (B 8) (B 7) rz (B 16) (B 18) (B 19) fr (B 9) ob (B 13) qa wq ra (B 33) am (B 21) (B 22)) → wY_kill_20 post how (f + 1) (nI S.length) (A 26 0) bl (nI w.length) (A 27 0) (A 28 0) (A 29 0) (A 25 0) (A 3) (A 0) (A 1) (A 2) st (A 5) (A 6) (A 11) (A 8) (A 7) rz (A 16) (A 18) (A 19) fr (A 9) ob (A 13) qa wq ra (A 33) am (A 21) (A 22)
/-- the last of the stack has no frames: it is completed -/
theorem rd_fs0 {ex n D : Nat} {how : Int32} {A : rd_St} {w : List Nat} {Q : Nat → List Nat} {T : List Nat} {s : Nat} (I : rd_Inv n 8 D A w Q) (hS : rd_stk n A (T ++ [s])) (hd : A 18 s = 0) (hex : ex < n → A 4 ex = 0) : ∃ B x R S2, rd_Inv n 8 D B x R ∧ rd_stk n B S2 ∧ rd_FT n A B w x ∧ rd_ph n B < rd_ph n A ∧ (∀ r, r ∈ T ++ [s] → r ∈ S2 ∨ (B 4 r = 7 ∨ B 4 r = 8)) ∧ rd_Xs how A B w x Q R (T ++ [s]) S2 ∧ rd_Ys ex n D how A B w x Q R (T ++ [s]) S2 := by
  have hn := I.vN.2
  obtain ⟨nd, hm, hfa, hdy⟩ := hS
  obtain ⟨hs, h9⟩ := (hm s).mp (by simp)
  have lT : (T ++ [s]).length = T.length + 1 := by simp
  have l8 : T.length + 1 ≤ 8 := by
    have := rd_pig n _ nd (fun x hx => ((hm x).mp hx).1)
    omega
  have sT : s ∉ T := by
    intro z
    rw [List.nodup_append] at nd
    exact nd.2.2 s z s (by simp) rfl
  have cs : (nI s).toNatClampNeg = s := nI_clamp (by omega)
  have i8 : vp_in (nI s) 8 := vp_in_nI (by omega) (by omega)
  have key : ∃ hw : Int32, (T = [] → hw = how) ∧ (T ≠ [] → hw = 14) := by
    by_cases z : T = []
    · exact ⟨how, fun _ => rfl, fun y => absurd z y⟩
    · exact ⟨14, fun y => absurd y z, fun _ => rfl⟩
  obtain ⟨hw, hw1, hw2⟩ := key
  obtain ⟨A1, w1, B, x, R, J, F, X1, X2, Y⟩ := rd_cs (ex := ex) I hs h9 hd hw hex
  have ff : B 32 = A 32 := F.1  32 (by decide) (by decide) (by decide) (by decide) (by decide) (by decide) (by decide)
  have fd : B 33 = A 33 := F.1  33 (by decide) (by decide) (by decide) (by decide) (by decide) (by decide) (by decide)
  have hT : rd_stk n B T := by
    refine ⟨(List.nodup_append.mp nd).1, fun r => ⟨fun hr => ?_, fun hr => ?_⟩, ?_, ?_⟩
    · have := (hm r).mp (by simp [hr])
      have rs : r ≠ s := fun e => sT (e ▸ hr)
      refine ⟨this.1, ?_⟩
      rw [(F.2.2.1 r ⟨Or.inr this.2, rs⟩).1]
      exact this.2
    · obtain ⟨a, b⟩ := F.2.2.2.1 r hr.2
      have := (hm r).mpr ⟨hr.1, a⟩
      rw [List.mem_append] at this
      rcases this with z | z
      · exact z
      · simp at z; exact absurd z b
    · rw [ff]; exact rd_LV_pre hfa
    · rw [fd]; exact rd_LV_pre hdy
  refine ⟨B, x, R, T, J, hT, ⟨rd_stw_of F.1, F.2.1, rd_kp_w F.2.2.1 (fun r z => ⟨Or.inl z, fun e => by rw [e, h9] at z; exact absurd z (by decide)⟩), F.2.2.2.2.1⟩, rd_ph_lt F.2.1 hs F.2.2.2.2.2.2, ?_, ?_, ?_⟩
  · intro r hr
    rw [List.mem_append] at hr
    rcases hr with z | z
    · exact Or.inl z
    · simp at z; rw [z]; exact Or.inr F.2.2.2.2.2.1
  · intro post f i ra qa ql hi hx H
    rw [lT]
    refine br_f (nI_ge (b := 1000) (by omega) (by omega)) (br_f (nI_nle (by omega) (by omega)) ⟨by rw [nI_pred]; exact vp_in_nI (by omega) (by omega), nm_r (e' := nI s) (by rw [nI_pred, nI_clamp (by omega)]; exact rd_LV_last hfa) ⟨i8, br_t (by rw [cs]; exact hd) (nm_r (e' := nI T.length) (rd_m1 T.length) ?_)⟩⟩)
    have fin : wX_bringDown_65 post (wX_bringDown_17 post how f) how (nI T.length) (nI i) (nI s) hw (nI s) (nI w.length) (A 25 0) (A 26 0) (A 27 0) (A 28 0) (A 29 0) (A 30 0) (A 31 0) (A 0) (A 1) (A 2) (A 3) (A 4) (A 5) (A 6) (A 7) (A 8) (A 9) (A 10) (A 11) (A 12) (A 13) (A 14) (A 15) (A 16) (A 17) (A 18) (A 19) (A 20) qa ql ra (A 21) (A 22) (A 32) (A 23) := by
      refine X1 _ _ (rd_RX_mk hx) ?_
      rintro u' ⟨ra1, qa1, ql1, rfl, hx1⟩
      refine X2 _ _ (rd_RX_mk hx1) ?_
      rintro u'' ⟨ra2, qa2, ql2, rfl, hx2⟩
      exact nm_r (nI_1 i) (H ra2 qa2 ql2 hx2)
    by_cases z : T = []
    · have e0 : nI T.length = 0 := by rw [z]; rfl
      rw [hw1 z] at fin
      exact br_t e0 fin
    · have e0 : T.length ≠ 0 := fun y => z (List.length_eq_zero_iff.mp y)
      rw [hw2 z] at fin
      exact br_f (nI_ne0 (by omega) (by omega)) fin
  · intro post f ra qa wq am rz ob fr st bl hy H
    rw [lT]
    refine br_f (nI_nle (by omega) (by omega)) ⟨by rw [nI_pred]; exact vp_in_nI (by omega) (by omega), nm_r (e' := nI s) (by rw [nI_pred, nI_clamp (by omega)]; exact rd_LV_last hdy) ⟨i8, br_t (by rw [cs]; exact hd) (nm_r (e' := nI T.length) (rd_m1 T.length) ?_)⟩⟩
    have fin : wY_kill_61 post (wY_kill_20 post how f) (nI T.length) how hw (nI s) (A 26 0) bl (nI w.length) (A 27 0) (A 28 0) (A 29 0) (A 25 0) (A 3) (A 0) (A 1) (A 2) st (A 5) (A 6) (A 11) (A 8) (A 7) rz (A 16) (A 18) (A 19) fr (A 9) ob (A 13) qa wq ra (A 33) am (A 21) (A 22) := by
      refine rd_y_cmp9 I hs h9 hd Y _ _ (rd_RY_mk hy) ?_
      rintro v' ⟨ra1, qa1, wq1, am1, rz1, ob1, fr1, st1, bl1, rfl, hy1⟩
      exact H ra1 qa1 wq1 am1 rz1 ob1 fr1 st1 bl1 hy1
    by_cases z : T = []
    · have e0 : nI T.length = 0 := by rw [z]; rfl
      rw [hw1 z] at fin
      exact br_t e0 fin
    · have e0 : T.length ≠ 0 := fun y => z (List.length_eq_zero_iff.mp y)
      rw [hw2 z] at fin
      exact br_f (nI_ne0 (by omega) (by omega)) fin
end
section
/-! a frame of a falling task goes -/
theorem rd_kp_mb {P : Nat → Prop} {A : rd_St} {w : List Nat} {f : Nat → Int32} : rd_kp P A (rd_sa A  10 f) w w := fun _ _ => ⟨rfl, rfl, rfl, rfl, id⟩
section
variable {ex n D : Nat} {how : Int32} {A : rd_St} {w : List Nat} {Q : Nat → List Nat} {T : List Nat} {s d : Nat}
/-- what the component asks before it takes the frame -/
theorem rd_fsx (I : rd_Inv n 8 D A w Q) (hS : rd_stk n A (T ++ [s])) (hd : A 18 s = nI (d + 1)) (h8 : d < 8) (post : SX → Prop) (f i : Nat) (ra qa ql : Nat → Int32) (hi : i < 1000) (P : wpX_takeFrame (fun r u => match u with | (f_rowLength_1, f_noteCount_1, f_tasks_1, f_time_1, f_done_1, f_turns_1, f_doneInTurn_1, f_inTurn_1, a_ops_1, a_firsts_1, a_seconds_1, a_lengths_1, a_condition_1, a_place_1, a_xs_1, a_ended_1, a_bodyOf_1, a_master_1, a_masterBlock_1, a_limits_1, a_pending_1, a_doomed_1, a_terminable_1, a_calledQueue_1, a_wakeTime_1, a_wakePlace_1, a_depth_1, a_frameKind_1, a_frameValue_1, a_queue_1, a_queueLength_1, a_row_1, a_noteTask_1, a_noteValue_1, a_fallen_1, a_chosen_1) => ((r = (-1) → (∀ y, y = nI i + 1 → wX_bringDown_17 post how f (nI (T.length + 1)) y f_rowLength_1 f_noteCount_1 f_tasks_1 f_time_1 f_done_1 f_turns_1 f_doneInTurn_1 f_inTurn_1 a_ops_1 a_firsts_1 a_seconds_1 a_lengths_1 a_condition_1 a_place_1 a_xs_1 a_ended_1 a_bodyOf_1 a_master_1 a_masterBlock_1 a_limits_1 a_pending_1 a_doomed_1 a_terminable_1 a_calledQueue_1 a_wakeTime_1 a_wakePlace_1 a_depth_1 a_frameKind_1 a_frameValue_1 a_queue_1 a_queueLength_1 a_row_1 a_noteTask_1 a_noteValue_1 a_fallen_1 a_chosen_1)) ∧ (¬ r = (-1) → (vp_in r 8 ∧ (((a_doomed_1 r.toNatClampNeg) = 0 → (vp_in r 8 ∧ ∀ p, p = upd a_pending_1 r.toNatClampNeg 11 → (wpX_makeReady (fun u => match u with | (f_rowLength_2, f_noteCount_2, f_tasks_2, f_time_2, f_done_2, f_turns_2, f_doneInTurn_2, f_inTurn_2, a_ops_2, a_firsts_2, a_seconds_2, a_lengths_2, a_condition_2, a_place_2, a_xs_2, a_ended_2, a_bodyOf_2, a_master_2, a_masterBlock_2, a_limits_2, a_pending_2, a_doomed_2, a_terminable_2, a_calledQueue_2, a_wakeTime_2, a_wakePlace_2, a_depth_2, a_frameKind_2, a_frameValue_2, a_queue_2, a_queueLength_2, a_row_2, a_noteTask_2, a_noteValue_2, a_fallen_2, a_chosen_2) => (∀ y, y = nI i + 1 → wX_bringDown_17 post how f (nI (T.length + 1)) y f_rowLength_2 f_noteCount_2 f_tasks_2 f_time_2 f_done_2 f_turns_2 f_doneInTurn_2 f_inTurn_2 a_ops_2 a_firsts_2 a_seconds_2 a_lengths_2 a_condition_2 a_place_2 a_xs_2 a_ended_2 a_bodyOf_2 a_master_2 a_masterBlock_2 a_limits_2 a_pending_2 a_doomed_2 a_terminable_2 a_calledQueue_2 a_wakeTime_2 a_wakePlace_2 a_depth_2 a_frameKind_2 a_frameValue_2 a_queue_2 a_queueLength_2 a_row_2 a_noteTask_2 a_noteValue_2 a_fallen_2 a_chosen_2)) (f_rowLength_1, f_noteCount_1, f_tasks_1, f_time_1, f_done_1, f_turns_1, f_doneInTurn_1, f_inTurn_1, a_ops_1, a_firsts_1, a_seconds_1, a_lengths_1, a_condition_1, a_place_1, a_xs_1, a_ended_1, a_bodyOf_1, a_master_1, a_masterBlock_1, a_limits_1, p, a_doomed_1, a_terminable_1, a_calledQueue_1, a_wakeTime_1, a_wakePlace_1, a_depth_1, a_frameKind_1, a_frameValue_1, a_queue_1, a_queueLength_1, a_row_1, a_noteTask_1, a_noteValue_1, a_fallen_1, a_chosen_1) r))) ∧ (¬ (a_doomed_1 r.toNatClampNeg) = 0 → (wpX_withdraw (fun u => match u with | (f_rowLength_2, f_noteCount_2, f_tasks_2, f_time_2, f_done_2, f_turns_2, f_doneInTurn_2, f_inTurn_2, a_ops_2, a_firsts_2, a_seconds_2, a_lengths_2, a_condition_2, a_place_2, a_xs_2, a_ended_2, a_bodyOf_2, a_master_2, a_masterBlock_2, a_limits_2, a_pending_2, a_doomed_2, a_terminable_2, a_calledQueue_2, a_wakeTime_2, a_wakePlace_2, a_depth_2, a_frameKind_2, a_frameValue_2, a_queue_2, a_queueLength_2, a_row_2, a_noteTask_2, a_noteValue_2, a_fallen_2, a_chosen_2) => (vp_in (nI (T.length + 1)) 8 ∧ ∀ g, g = upd a_fallen_2 (nI (T.length + 1)).toNatClampNeg r → (∀ z, z = nI (T.length + 1) + 1 → (∀ y, y = nI i + 1 → (wX_bringDown_17 post how f z y f_rowLength_2 f_noteCount_2 f_tasks_2 f_time_2 f_done_2 f_turns_2 f_doneInTurn_2 f_inTurn_2 a_ops_2 a_firsts_2 a_seconds_2 a_lengths_2 a_condition_2 a_place_2 a_xs_2 a_ended_2 a_bodyOf_2 a_master_2 a_masterBlock_2 a_limits_2 a_pending_2 a_doomed_2 a_terminable_2 a_calledQueue_2 a_wakeTime_2 a_wakePlace_2 a_depth_2 a_frameKind_2 a_frameValue_2 a_queue_2 a_queueLength_2 a_row_2 a_noteTask_2 a_noteValue_2 g a_chosen_2))))) (f_rowLength_1, f_noteCount_1, f_tasks_1, f_time_1, f_done_1, f_turns_1, f_doneInTurn_1, f_inTurn_1, a_ops_1, a_firsts_1, a_seconds_1, a_lengths_1, a_condition_1, a_place_1, a_xs_1, a_ended_1, a_bodyOf_1, a_master_1, a_masterBlock_1, a_limits_1, a_pending_1, a_doomed_1, a_terminable_1, a_calledQueue_1, a_wakeTime_1, a_wakePlace_1, a_depth_1, a_frameKind_1, a_frameValue_1, a_queue_1, a_queueLength_1, a_row_1, a_noteTask_1, a_noteValue_1, a_fallen_1, a_chosen_1) r))))))) (rd_tX A (nI w.length) ra qa ql) (nI s)) : wX_bringDown_17 post how (f + 1) (nI (T ++ [s]).length) (nI i) (nI w.length) (A 25 0) (A 26 0) (A 27 0) (A 28 0) (A 29 0) (A 30 0) (A 31 0) (A 0) (A 1) (A 2) (A 3) (A 4) (A 5) (A 6) (A 7) (A 8) (A 9) (A 10) (A 11) (A 12) (A 13) (A 14) (A 15) (A 16) (A 17) (A 18) (A 19) (A 20) qa ql ra (A 21) (A 22) (A 32) (A 23) := by
  have hn := I.vN.2
  obtain ⟨nd, hm, hfa, hdy⟩ := hS
  obtain ⟨hs, h9⟩ := (hm s).mp (by simp)
  have lT : (T ++ [s]).length = T.length + 1 := by simp
  have l8 : T.length + 1 ≤ 8 := by
    have := rd_pig n _ nd (fun x hx => ((hm x).mp hx).1)
    omega
  have cs : (nI s).toNatClampNeg = s := nI_clamp (by omega)
  have i8 : vp_in (nI s) 8 := vp_in_nI (by omega) (by omega)
  rw [lT]
  exact br_f (nI_ge (b := 1000) (by omega) (by omega)) (br_f (nI_nle (by omega) (by omega)) ⟨by rw [nI_pred]; exact vp_in_nI (by omega) (by omega), nm_r (e' := nI s) (by rw [nI_pred, nI_clamp (by omega)]; exact rd_LV_last hfa) ⟨i8, br_f (by rw [cs, hd]; exact nI_ne0 (by omega) (by omega)) P⟩⟩)
/-- what the reference asks before it looks at the frame -/
theorem rd_fsy (I : rd_Inv n 8 D A w Q) (hS : rd_stk n A (T ++ [s])) (hd : A 18 s = nI (d + 1)) (h8 : d < 8) (post : SY → Prop) (f : Nat) (ra qa wq am rz ob fr st : Nat → Int32) (bl : Int32) (P1 : A 19 (8 * s + d) = 1 → (∀ c, c = fr (8 * s + d) → (vp_in c 8 ∧ (((A 13 c.toNatClampNeg) = 0 → (vp_in c 8 ∧ ∀ r, r = upd rz c.toNatClampNeg 11 → (wpY_wake (fun u => match u with | (f_tasks_1, f_blocks_1, f_readies_1, f_time_1, f_done_1, f_turns_1, f_notes_1, a_length_1, a_ops_1, a_as_1, a_bs_1, a_states_1, a_places_1, a_xs_1, a_limits_1, a_bodies_1, a_ends_1, a_raised_1, a_until_1, a_high_1, a_kinds_1, a_frames_1, a_on_1, a_onBlock_1, a_doomed_1, a_queues_1, a_waiting_1, a_row_1, a_dying_1, a_among_1, a_noteTask_1, a_noteInt_1) => (wY_kill_20 post how f (nI (T.length + 1)) f_tasks_1 f_blocks_1 f_readies_1 f_time_1 f_done_1 f_turns_1 f_notes_1 a_length_1 a_ops_1 a_as_1 a_bs_1 a_states_1 a_places_1 a_xs_1 a_limits_1 a_bodies_1 a_ends_1 a_raised_1 a_until_1 a_high_1 a_kinds_1 a_frames_1 a_on_1 a_onBlock_1 a_doomed_1 a_queues_1 a_waiting_1 a_row_1 a_dying_1 a_among_1 a_noteTask_1 a_noteInt_1)) (rd_tY (rd_sw A  18 s (nI d)) (nI w.length) ra qa wq am r ob fr st bl) c))) ∧ (¬ (A 13 c.toNatClampNeg) = 0 → (wpY_begin (fun u => match u with | (f_tasks_1, f_blocks_1, f_readies_1, f_time_1, f_done_1, f_turns_1, f_notes_1, a_length_1, a_ops_1, a_as_1, a_bs_1, a_states_1, a_places_1, a_xs_1, a_limits_1, a_bodies_1, a_ends_1, a_raised_1, a_until_1, a_high_1, a_kinds_1, a_frames_1, a_on_1, a_onBlock_1, a_doomed_1, a_queues_1, a_waiting_1, a_row_1, a_dying_1, a_among_1, a_noteTask_1, a_noteInt_1) => (∀ z, z = nI (T.length + 1) + 1 → (vp_in (nI (T.length + 1)) 8 ∧ ∀ g, g = upd a_dying_1 (nI (T.length + 1)).toNatClampNeg c → (wY_kill_20 post how f z f_tasks_1 f_blocks_1 f_readies_1 f_time_1 f_done_1 f_turns_1 f_notes_1 a_length_1 a_ops_1 a_as_1 a_bs_1 a_states_1 a_places_1 a_xs_1 a_limits_1 a_bodies_1 a_ends_1 a_raised_1 a_until_1 a_high_1 a_kinds_1 a_frames_1 a_on_1 a_onBlock_1 a_doomed_1 a_queues_1 a_waiting_1 a_row_1 g a_among_1 a_noteTask_1 a_noteInt_1)))) (rd_tY (rd_sw A  18 s (nI d)) (nI w.length) ra qa wq am rz ob fr st bl) c)))))) (P0 : A 19 (8 * s + d) ≠ 1 → wY_kill_20 post how f (nI (T.length + 1)) ((rd_sw A  18 s (nI d)) 26 0) bl (nI w.length) ((rd_sw A  18 s (nI d)) 27 0) ((rd_sw A  18 s (nI d)) 28 0) ((rd_sw A  18 s (nI d)) 29 0) ((rd_sw A  18 s (nI d)) 25 0) ((rd_sw A  18 s (nI d)) 3) ((rd_sw A  18 s (nI d)) 0) ((rd_sw A  18 s (nI d)) 1) ((rd_sw A  18 s (nI d)) 2) st ((rd_sw A  18 s (nI d)) 5) ((rd_sw A  18 s (nI d)) 6) ((rd_sw A  18 s (nI d)) 11) ((rd_sw A  18 s (nI d)) 8) ((rd_sw A  18 s (nI d)) 7) rz ((rd_sw A  18 s (nI d)) 16) ((rd_sw A  18 s (nI d)) 18) ((rd_sw A  18 s (nI d)) 19) fr ((rd_sw A  18 s (nI d)) 9) ob ((rd_sw A  18 s (nI d)) 13) qa wq ra ((rd_sw A  18 s (nI d)) 33) am ((rd_sw A  18 s (nI d)) 21) ((rd_sw A  18 s (nI d)) 22)) : wY_kill_20 post how (f + 1) (nI (T ++ [s]).length) (A 26 0) bl (nI w.length) (A 27 0) (A 28 0) (A 29 0) (A 25 0) (A 3) (A 0) (A 1) (A 2) st (A 5) (A 6) (A 11) (A 8) (A 7) rz (A 16) (A 18) (A 19) fr (A 9) ob (A 13) qa wq ra (A 33) am (A 21) (A 22) := by
  have hn := I.vN.2
  obtain ⟨nd, hm, hfa, hdy⟩ := hS
  obtain ⟨hs, h9⟩ := (hm s).mp (by simp)
  have lT : (T ++ [s]).length = T.length + 1 := by simp
  have l8 : T.length + 1 ≤ 8 := by
    have := rd_pig n _ nd (fun x hx => ((hm x).mp hx).1)
    omega
  have cs : (nI s).toNatClampNeg = s := nI_clamp (by omega)
  have i8 : vp_in (nI s) 8 := vp_in_nI (by omega) (by omega)
  have i64 : vp_in (nI (8 * s + d)) 64 := vp_in_nI (by omega) (by omega)
  have it : 8 * nI s + upd (A 18) s (nI d) (nI s).toNatClampNeg = nI (8 * s + d) := by
    rw [cs, rd_us]; exact rd_ix' s d 8 8 rfl
  have cd : (nI (8 * s + d)).toNatClampNeg = 8 * s + d := nI_clamp (by omega)
  rw [lT]
  refine br_f (nI_nle (by omega) (by omega)) ⟨by rw [nI_pred]; exact vp_in_nI (by omega) (by omega), nm_r (e' := nI s) (by rw [nI_pred, nI_clamp (by omega)]; exact rd_LV_last hdy) ⟨i8, br_f (by rw [cs, hd]; exact nI_ne0 (by omega) (by omega)) ⟨i8, i8, nm_r (e' := upd (A 18) s (nI d)) (by rw [cs, hd, nI_pred]) ⟨i8, ?_⟩⟩⟩⟩
  rw [it, cd]
  refine ⟨i64, br_c (fun z => ⟨i8, i64, P1 z⟩) (fun z => P0 z)⟩
/-- a handler goes, or a block -/
theorem rd_fs2 (I : rd_Inv n 8 D A w Q) (hS : rd_stk n A (T ++ [s])) (hd : A 18 s = nI (d + 1)) (h8 : d < 8) (h1 : A 19 (8 * s + d) ≠ 1) : ∃ B x R S2, rd_Inv n 8 D B x R ∧ rd_stk n B S2 ∧ rd_FT n A B w x ∧ rd_ph n B < rd_ph n A ∧ (∀ r, r ∈ T ++ [s] → r ∈ S2 ∨ (B 4 r = 7 ∨ B 4 r = 8)) ∧ rd_Xs how A B w x Q R (T ++ [s]) S2 ∧ rd_Ys ex n D how A B w x Q R (T ++ [s]) S2 := by
  have hn := I.vN.2
  obtain ⟨hs, h9⟩ := (hS.2.1 s).mp (by simp)
  have n6 : A 4 s ≠ 6 := by rw [h9]; decide
  have n0 : ¬ (fun r => A 4 r = 0) s := by show ¬ A 4 s = 0; rw [h9]; decide
  have lT : (T ++ [s]).length = T.length + 1 := by simp
  by_cases h0 : A 19 (8 * s + d) = 0
  · have I1 := rd_i_re (d := d) I hs h8 h9
    have I2 : rd_Inv n 8 D (rd_sw (rd_sa A  10 (rd_re n (A 9) (A 10) s d))  18 s (nI d)) w Q := rd_i_pop I1 hs hd h8 n6 (Or.inr (by
      rintro ⟨u, hu, e1, e2, e3⟩
      have e1 : A 9 u = nI s := e1
      have e2 : rd_re n (A 9) (A 10) s d u = nI d := e2
      unfold rd_re at e2
      by_cases z : u < n ∧ A 9 u = nI s ∧ A 10 u = nI d
      · rw [if_pos z] at e2; exact absurd e2.symm (rd_nm (by omega))
      · rw [if_neg z] at e2; exact z ⟨hu, e1, e2⟩))
    have wl1 : rd_wl n A (rd_sw (rd_sa A  10 (rd_re n (A 9) (A 10) s d))  18 s (nI d)) := rd_wl_pop (A := rd_sa A  10 (rd_re n (A 9) (A 10) s d)) hd h8
    refine ⟨_, w, Q, T ++ [s], I2, hS, ⟨rd_stw_of (rd_sta_tr (rd_sta_sa (by simp)) (rd_sta_sw (by simp))), wl1, rd_kp_tr rd_kp_mb (rd_kp_dp n0) (fun _ z => z), fun _ z => z⟩, rd_ph_lt wl1 hs (rd_w_pop (A := rd_sa A  10 (rd_re n (A 9) (A 10) s d)) hd h8), fun r hr => Or.inl hr, ?_, ?_⟩
    · intro post f i ra qa ql hi hx H
      refine rd_fsx I hS hd h8 post f i ra qa ql hi (rd_x_take (rd_RX_mk hx) I.vN (by omega) hd h8 (fun z => absurd z h1) (fun _ => ?_) (fun z => absurd h0 z))
      rintro u' ⟨ra1, qa1, ql1, rfl, hx1⟩
      refine br_t rfl (nm_r (nI_1 i) ?_)
      have := H ra1 qa1 ql1 hx1
      rw [lT] at this
      exact this
    · intro post f ra qa wq am rz ob fr st bl hy H
      refine rd_fsy I hS hd h8 post f ra qa wq am rz ob fr st bl (fun z => absurd z h1) (fun _ => ?_)
      have hy1 : rd_YL ex n D (rd_sa A  10 (rd_re n (A 9) (A 10) s d)) w Q ra qa wq am rz ob fr st bl := ⟨hy.r, hy.y2, hy.y3, hy.y4, hy.y5, hy.y6, hy.y7, rd_y8_re hn hs hy.y8 h9, hy.y9, hy.y10⟩
      have := H ra qa wq am rz ob fr st bl (rd_YL_pop hy1 hd h8)
      rw [lT] at this
      exact this
  · have I2 := rd_i_pop I hs hd h8 n6 (Or.inl h0)
    have wl1 := rd_wl_pop (n := n) hd h8
    refine ⟨_, w, Q, T ++ [s], I2, hS, ⟨rd_stw_of (rd_sta_sw (by simp)), wl1, rd_kp_dp n0, fun _ z => z⟩, rd_ph_lt wl1 hs (rd_w_pop hd h8), fun r hr => Or.inl hr, ?_, ?_⟩
    · intro post f i ra qa ql hi hx H
      refine rd_fsx I hS hd h8 post f i ra qa ql hi (rd_x_take (rd_RX_mk hx) I.vN (by omega) hd h8 (fun z => absurd z h1) (fun z => absurd z h0) (fun _ _ => ?_))
      rintro u' ⟨ra1, qa1, ql1, rfl, hx1⟩
      refine br_t rfl (nm_r (nI_1 i) ?_)
      have := H ra1 qa1 ql1 hx1
      rw [lT] at this
      exact this
    · intro post f ra qa wq am rz ob fr st bl hy H
      refine rd_fsy I hS hd h8 post f ra qa wq am rz ob fr st bl (fun z => absurd z h1) (fun _ => ?_)
      have := H ra qa wq am rz ob fr st bl (rd_YL_pop hy hd h8)
      rw [lT] at this
      exact this
/-- a meeting goes -/
theorem rd_fs3 (I : rd_Inv n 8 D A w Q) (hS : rd_stk n A (T ++ [s])) (hd : A 18 s = nI (d + 1)) (h8 : d < 8) (h1 : A 19 (8 * s + d) = 1) (hex : ex < n → A 4 ex = 0) : ∃ B x R S2, rd_Inv n 8 D B x R ∧ rd_stk n B S2 ∧ rd_FT n A B w x ∧ rd_ph n B < rd_ph n A ∧ (∀ r, r ∈ T ++ [s] → r ∈ S2 ∨ (B 4 r = 7 ∨ B 4 r = 8)) ∧ rd_Xs how A B w x Q R (T ++ [s]) S2 ∧ rd_Ys ex n D how A B w x Q R (T ++ [s]) S2 := by
  have hn := I.vN.2
  obtain ⟨hs, h9⟩ := (hS.2.1 s).mp (by simp)
  have n6 : A 4 s ≠ 6 := by rw [h9]; decide
  have n0 : ¬ (fun r => A 4 r = 0) s := by show ¬ A 4 s = 0; rw [h9]; decide
  have lT : (T ++ [s]).length = T.length + 1 := by simp
  have hds : d < (A 18 s).toNatClampNeg := by rw [hd, nI_clamp (by omega)]; omega
  have hF : ∃ c, c < n ∧ A 20 (8 * s + d) = nI c ∧ A 4 c = 2 := by
    rcases I.vF s hs d hds with z | ⟨_, z⟩ | ⟨z, _⟩
    · rw [z] at h1; exact absurd h1 (by decide)
    · exact z
    · rw [z] at h1; exact absurd h1 (by decide)
  obtain ⟨c, hc, ev, c2⟩ := hF
  have cc : (nI c).toNatClampNeg = c := nI_clamp (by omega)
  have ic : vp_in (nI c) 8 := vp_in_nI (by omega) (by omega)
  have c0 : ¬ (fun r => A 4 r = 0) c := by show ¬ A 4 c = 0; rw [c2]; decide
  have k0 : A 4 c ≠ 0 := by rw [c2]; decide
  have k1 : A 4 c ≠ 1 := by rw [c2]; decide
  have k7 : A 4 c ≠ 7 := by rw [c2]; decide
  have k8 : A 4 c ≠ 8 := by rw [c2]; decide
  have k9 : A 4 c ≠ 9 := by rw [c2]; decide
  have cex : c ≠ ex := fun e => by
    rw [← e] at hex
    exact k0 (hex hc)
  have I1 := rd_i_pop I hs hd h8 n6 (Or.inl (by rw [h1]; decide))
  have nf := rd_nf_pop hs hd h8 I.vU h1 ev
  have wl1 := rd_wl_pop (n := n) hd h8
  have hfr : ∀ {ra qa wq am rz ob fr st : Nat → Int32} {bl : Int32}, rd_YL ex n D A w Q ra qa wq am rz ob fr st bl → fr (8 * s + d) = nI c := fun hy => (hy.y5 s hs d hds (by rw [h1]; decide)).trans ev
  by_cases hdm : A 13 c = 0
  · -- not doomed: ready, with its exception
    have I2 : rd_Inv n 8 D (rd_ready (rd_sw (rd_sw A  18 s (nI d))  12 c 11) c) (w ++ [c]) Q := rd_i_rp (x := 11) I1 hc k0 k8 (rd_vQ_no I.vQ k1) nf (by omega)
    have wl2 : rd_wl n (rd_sw A  18 s (nI d)) (rd_ready (rd_sw (rd_sw A  18 s (nI d))  12 c 11) c) := rd_wl_rp (A := rd_sw A  18 s (nI d)) (Or.inr (Or.inl c2))
    have wl := rd_wl_tr wl1 wl2
    have wl8 : w.length < 8 := Nat.lt_of_lt_of_le (rd_wlen' I hc k0) hn
    have ecd : ∀ r, r ≠ c → (rd_ready (rd_sw (rd_sw A  18 s (nI d))  12 c 11) c) 4 r = A 4 r := fun r hr => rd_un hr
    have ecc : (rd_ready (rd_sw (rd_sw A  18 s (nI d))  12 c 11) c) 4 c = 0 := rd_us
    refine ⟨_, w ++ [c], Q, T ++ [s], I2, ⟨hS.1, fun r => ?_, hS.2.2⟩, ⟨rd_stw_of (rd_sta_tr (rd_sta_sw (by simp)) (rd_sta_tr (rd_sta_sw (by simp)) rd_sta_ready)), wl, rd_kp_tr (rd_kp_dp n0) (rd_kp_tr (rd_kp_pe c0) (rd_kp_ready c0) (fun _ z => z)) (fun _ z => z), fun r z => ?_⟩, rd_ph_lt wl hs (Nat.lt_of_le_of_lt (wl2 s hs) (rd_w_pop hd h8)), fun r hr => Or.inl hr, ?_, ?_⟩
    · rw [hS.2.1 r]
      by_cases e : r = c
      · rw [e, ecc, c2]
        constructor
        · rintro ⟨_, z⟩; exact absurd z (by decide)
        · rintro ⟨_, z⟩; exact absurd z (by decide)
      · rw [ecd r e]
    · have e : r ≠ c := by
        intro e
        rw [e, c2] at z
        exact absurd z (by decide)
      rw [ecd r e]; exact z
    · intro post f i ra qa ql hi hx H
      refine rd_fsx I hS hd h8 post f i ra qa ql hi (rd_x_take (rd_RX_mk hx) I.vN (by omega) hd h8 (fun _ => ?_) (fun z => by rw [h1] at z; exact absurd z (by decide)) (fun _ z => absurd h1 z))
      rintro u' ⟨ra1, qa1, ql1, rfl, hx1⟩
      rw [ev]
      refine br_f (rd_nm (by omega)) ⟨ic, br_t (by rw [cc]; exact hdm) ⟨ic, nm_r (e' := upd (A 12) c 11) (by rw [cc]; rfl) ?_⟩⟩
      refine rd_x_makeReady (rd_RX_mk (A := rd_sw (rd_sw A  18 s (nI d))  12 c 11) hx1) (by omega) wl8 ?_
      rintro u' ⟨ra2, qa2, ql2, rfl, hx2⟩
      refine nm_r (nI_1 i) ?_
      have := H ra2 qa2 ql2 hx2
      rw [lT] at this
      exact this
    · intro post f ra qa wq am rz ob fr st bl hy H
      refine rd_fsy I hS hd h8 post f ra qa wq am rz ob fr st bl (fun _ => ?_) (fun z => absurd h1 z)
      refine nm_r (hfr hy) ⟨ic, br_t (by rw [cc]; exact hdm) ⟨ic, nm_r (e' := upd rz c 11) (by rw [cc]) ?_⟩⟩
      have hy1 := rd_YL_pop hy hd h8
      refine rd_y_wake (A := rd_sw (rd_sw A  18 s (nI d))  12 c 11) (rd_RY_mk (ex := ex) (D := D) (Q := Q) ⟨hy1.r, hy1.y2, hy1.y3, rd_y4_pe hy1.y4 cex, hy1.y5, hy1.y6, hy1.y7, hy1.y8, hy1.y9, hy1.y10⟩) hn hc wl8 k7 k8 k9 ?_
      rintro v' ⟨ra2, qa2, wq2, am2, rz2, ob2, fr2, st2, bl2, rfl, hy2⟩
      have := H ra2 qa2 wq2 am2 rz2 ob2 fr2 st2 bl2 hy2
      rw [lT] at this
      exact this
  · -- doomed: it falls too
    have I2 := rd_i_fall I1 (t := c) k8 nf
    have wl2 : rd_wl n (rd_sw A  18 s (nI d)) (rd_fall (rd_sw A  18 s (nI d)) c) := rd_wl_fall (A := rd_sw A  18 s (nI d)) k7 k8
    have wl := rd_wl_tr wl1 wl2
    have ecd : ∀ r, r ≠ c → (rd_fall (rd_sw A  18 s (nI d)) c) 4 r = A 4 r := fun r hr => rd_un hr
    have ecc : (rd_fall (rd_sw A  18 s (nI d)) c) 4 c = 9 := rd_us
    have cS : c ∉ T ++ [s] := fun z => k9 ((hS.2.1 c).mp z).2
    have nd : ((T ++ [s]) ++ [c]).Nodup := by
      rw [List.nodup_append]
      refine ⟨hS.1, by simp, ?_⟩
      intro a ha b hb
      simp at hb
      subst hb
      intro y
      subst y
      exact cS ha
    have l8 : T.length + 1 < 8 := by
      have := rd_pig n _ nd (fun x hx => by
        rw [List.mem_append] at hx
        rcases hx with z | z
        · exact ((hS.2.1 x).mp z).1
        · simp at z; omega)
      simp at this
      omega
    have cT : (nI (T.length + 1)).toNatClampNeg = T.length + 1 := nI_clamp (by omega)
    have I3 : rd_Inv n 8 D (rd_sw (rd_sw (rd_fall (rd_sw A  18 s (nI d)) c)  32 (T.length + 1) (nI c))  33 (T.length + 1) (nI c)) (w.filter (fun x => x != c)) (rd_fq Q c) := I2
    have wl3 : rd_wl n A (rd_sw (rd_sw (rd_fall (rd_sw A  18 s (nI d)) c)  32 (T.length + 1) (nI c))  33 (T.length + 1) (nI c)) := wl
    have kp3 : rd_kp (fun r => A 4 r = 0) A (rd_sw (rd_sw (rd_fall (rd_sw A  18 s (nI d)) c)  32 (T.length + 1) (nI c))  33 (T.length + 1) (nI c)) w (w.filter (fun x => x != c)) := rd_kp_tr (rd_kp_dp n0) (rd_kp_fall (A := rd_sw A  18 s (nI d)) c0) (fun _ z => z)
    have lf : rd_LV (upd (A 32) (T.length + 1) (nI c)) 0 ((T ++ [s]) ++ [c]) := by
      have := rd_LV_put (x := c) hS.2.2.1
      rw [Nat.zero_add, lT] at this
      exact this
    have ld : rd_LV (upd (A 33) (T.length + 1) (nI c)) 0 ((T ++ [s]) ++ [c]) := by
      have := rd_LV_put (x := c) hS.2.2.2
      rw [Nat.zero_add, lT] at this
      exact this
    have lT2 : ((T ++ [s]) ++ [c]).length = T.length + 1 + 1 := by simp
    refine ⟨_, _, _, (T ++ [s]) ++ [c], I3, ⟨nd, fun r => ?_, lf, ld⟩, ⟨rd_stw_tr (rd_stw_of (rd_sta_tr (rd_sta_sw (by simp)) rd_sta_fall)) (rd_stw_tr (rd_stw_sw (Or.inl rfl)) (rd_stw_sw (Or.inr rfl))), wl3, kp3, fun r z => ?_⟩, rd_ph_lt wl3 hs (Nat.lt_of_le_of_lt (wl2 s hs) (rd_w_pop hd h8)), fun r hr => Or.inl (by rw [List.mem_append]; exact Or.inl hr), ?_, ?_⟩
    · show r ∈ (T ++ [s]) ++ [c] ↔ (r < n ∧ (rd_fall (rd_sw A  18 s (nI d)) c) 4 r = 9)
      rw [List.mem_append, hS.2.1 r]
      by_cases e : r = c
      · rw [e, ecc]; simp [hc]
      · rw [ecd r e]; simp [e]
    · have e : r ≠ c := by
        intro e
        rw [e, c2] at z
        exact absurd z (by decide)
      show (rd_fall (rd_sw A  18 s (nI d)) c) 4 r = 7 ∨ (rd_fall (rd_sw A  18 s (nI d)) c) 4 r = 8
      rw [ecd r e]; exact z
    · intro post f i ra qa ql hi hx H
      refine rd_fsx I hS hd h8 post f i ra qa ql hi (rd_x_take (rd_RX_mk hx) I.vN (by omega) hd h8 (fun _ => ?_) (fun z => by rw [h1] at z; exact absurd z (by decide)) (fun _ z => absurd h1 z))
      rintro u' ⟨ra1, qa1, ql1, rfl, hx1⟩
      rw [ev]
      refine br_f (rd_nm (by omega)) ⟨ic, br_f (by rw [cc]; exact hdm) ?_⟩
      refine rd_x_withdraw I1 (rd_RX_mk (A := rd_sw A  18 s (nI d)) hx1) hc ?_
      rintro u' ⟨ra2, qa2, ql2, rfl, hx2⟩
      refine ⟨vp_in_nI l8 (by omega), nm_r (e' := upd (A 32) (T.length + 1) (nI c)) (by rw [cT]; rfl) (nm_r (nI_1 _) (nm_r (nI_1 i) ?_))⟩
      have := H ra2 qa2 ql2 hx2
      rw [lT2] at this
      exact this
    · intro post f ra qa wq am rz ob fr st bl hy H
      refine rd_fsy I hS hd h8 post f ra qa wq am rz ob fr st bl (fun _ => ?_) (fun z => absurd h1 z)
      refine nm_r (hfr hy) ⟨ic, br_f (by rw [cc]; exact hdm) ?_⟩
      refine rd_y_begin I1 (rd_RY_mk (ex := ex) (rd_YL_pop hy hd h8)) hc k8 ?_
      rintro v' ⟨ra2, qa2, wq2, am2, rz2, ob2, fr2, st2, bl2, rfl, hy2⟩
      refine nm_r (nI_1 _) ⟨vp_in_nI l8 (by omega), nm_r (e' := upd (A 33) (T.length + 1) (nI c)) (by rw [cT]; rfl) ?_⟩
      have := H ra2 qa2 wq2 am2 rz2 ob2 fr2 st2 bl2 hy2
      rw [lT2] at this
      exact this
end
end
section
/-! bringing a task down -/
theorem rd_fl {ex n D : Nat} {how : Int32} : ∀ (k : Nat) (A : rd_St) (w : List Nat) (Q : Nat → List Nat) (S : List Nat), rd_ph n A < k → rd_Inv n 8 D A w Q → rd_stk n A S → (ex < n → A 4 ex = 0) → ∃ A' w' Q', rd_Inv n 8 D A' w' Q' ∧ rd_FT n A A' w w' ∧ (∀ s, s < n → A' 4 s ≠ 9) ∧ (∀ s, s ∈ S → A' 4 s = 7 ∨ A' 4 s = 8) ∧
    (∀ (post : SX → Prop) (ra qa ql : Nat → Int32) (i f : Nat), i + k ≤ 1000 → k < f → rd_XL w Q ra qa ql → (∀ u', rd_RX A' w' Q' u' → post u') → wX_bringDown_17 post how f (nI S.length) (nI i) (nI w.length) (A 25 0) (A 26 0) (A 27 0) (A 28 0) (A 29 0) (A 30 0) (A 31 0) (A 0) (A 1) (A 2) (A 3) (A 4) (A 5) (A 6) (A 7) (A 8) (A 9) (A 10) (A 11) (A 12) (A 13) (A 14) (A 15) (A 16) (A 17) (A 18) (A 19) (A 20) qa ql ra (A 21) (A 22) (A 32) (A 23)) ∧
    (∀ (post : SY → Prop) (ra qa wq am rz ob fr st : Nat → Int32) (bl : Int32) (f : Nat), k < f → rd_YL ex n D A w Q ra qa wq am rz ob fr st bl → (∀ v', rd_RY ex n D A' w' Q' v' → post v') → wY_kill_20 post how f (nI S.length) (A 26 0) bl (nI w.length) (A 27 0) (A 28 0) (A 29 0) (A 25 0) (A 3) (A 0) (A 1) (A 2) st (A 5) (A 6) (A 11) (A 8) (A 7) rz (A 16) (A 18) (A 19) fr (A 9) ob (A 13) qa wq ra (A 33) am (A 21) (A 22)) := by
  intro k
  induction k with
  | zero => intro A w Q S h; omega
  | succ k ih =>
    intro A w Q S hk I hS hex
    have step : S = [] ∨ ∃ B x R S2, rd_Inv n 8 D B x R ∧ rd_stk n B S2 ∧ rd_FT n A B w x ∧ rd_ph n B < rd_ph n A ∧ (∀ r, r ∈ S → r ∈ S2 ∨ (B 4 r = 7 ∨ B 4 r = 8)) ∧ rd_Xs how A B w x Q R S S2 ∧ rd_Ys ex n D how A B w x Q R S S2 := by
      rcases List.eq_nil_or_concat S with e | ⟨T, s, e⟩
      · exact Or.inl e
      · rw [List.concat_eq_append] at e
        subst e
        refine Or.inr ?_
        obtain ⟨hs, h9⟩ := (hS.2.1 s).mp (by simp)
        obtain ⟨d, hd, ed, ec⟩ := rd_dpos I hs
        cases d with
        | zero => exact rd_fs0 I hS ed hex
        | succ d =>
          by_cases h1 : A 19 (8 * s + d) = 1
          · exact rd_fs3 I hS ed (by omega) h1 hex
          · exact rd_fs2 I hS ed (by omega) h1
    rcases step with e | ⟨B, x, R, S2, J, hS2, F, hp, hm, X, Y⟩
    · subst e
      refine ⟨A, w, Q, I, rd_FT_rf _ _ _, fun s hs z => by simpa using (hS.2.1 s).mpr ⟨hs, z⟩, fun s hs => by simp at hs, ?_, ?_⟩
      · intro post ra qa ql i f hi hf hx H
        obtain ⟨f', rfl⟩ : ∃ f', f = f' + 1 := ⟨f - 1, by omega⟩
        have P := H _ (rd_RX_mk hx)
        exact br_c (fun _ => P) (fun _ => br_t (nI_le (a := 0) (b := 0) (Nat.le_refl _) (by omega)) P)
      · intro post ra qa wq am rz ob fr st bl f hf hy H
        obtain ⟨f', rfl⟩ : ∃ f', f = f' + 1 := ⟨f - 1, by omega⟩
        exact br_t (nI_le (a := 0) (b := 0) (Nat.le_refl _) (by omega)) (H _ (rd_RY_mk hy))
    · obtain ⟨A', w', Q', J', F', n9, hm', X', Y'⟩ := ih B x R S2 (by omega) J hS2 (fun z => (F.2.2.1 ex (hex z)).1.trans (hex z))
      refine ⟨A', w', Q', J', rd_FT_tr F F', n9, fun s hs => ?_, ?_, ?_⟩
      · rcases hm s hs with z | z
        · exact hm' s z
        · exact F'.2.2.2 s z
      · intro post ra qa ql i f hi hf hx H
        obtain ⟨f', rfl⟩ : ∃ f', f = f' + 1 := ⟨f - 1, by omega⟩
        exact X post f' i ra qa ql (by omega) hx (fun ra qa ql hx => X' post ra qa ql (i + 1) f' (by omega) (by omega) hx H)
      · intro post ra qa wq am rz ob fr st bl f hf hy H
        obtain ⟨f', rfl⟩ : ∃ f', f = f' + 1 := ⟨f - 1, by omega⟩
        exact Y post f' ra qa wq am rz ob fr st bl hy (fun ra qa wq am rz ob fr st bl hy => Y' post ra qa wq am rz ob fr st bl f' (by omega) hy H)
def rd_BD (n t : Nat) (A B : rd_St) (w x : List Nat) : Prop := rd_stw A B ∧ rd_wl n A B ∧ rd_kp (fun s => A 4 s = 0 ∧ s ≠ t) A B w x ∧ (∀ s, s < n → B 4 s ≠ 9) ∧ (∀ s, A 4 s = 7 ∨ A 4 s = 8 → B 4 s = 7 ∨ B 4 s = 8) ∧ (B 4 t = 7 ∨ B 4 t = 8) ∧ rd_W B t < rd_W A t
theorem rd_W_dn {n e D t : Nat} {A B : rd_St} {w : List Nat} {Q : Nat → List Nat} (J : rd_Inv n e D B w Q) (ht : t < n) (h7 : A 4 t ≠ 7) (h8 : A 4 t ≠ 8) (hB : B 4 t = 7 ∨ B 4 t = 8) : rd_W B t < rd_W A t := by
  have h0 := J.vC t ht hB
  show rd_c (B 4 t) (B 12 t) + 2 * (B 18 t).toNatClampNeg < rd_c (A 4 t) (A 12 t) + 2 * (A 18 t).toNatClampNeg
  have c0 : (0 : Int32).toNatClampNeg = 0 := by decide
  have := rd_c_ge (A 12 t) h7 h8
  rw [h0, c0]
  rcases hB with z | z
  · rw [z, rd_c7]; omega
  · rw [z, rd_c8]; omega
theorem rd_bd {ex n D t : Nat} {A : rd_St} {w : List Nat} {Q : Nat → List Nat} (how : Int32) (I : rd_Inv n 8 D A w Q) (ht : t < n) (h7 : A 4 t ≠ 7) (h8 : A 4 t ≠ 8) (nf : rd_nf n (A 18) (A 19) (A 20) t) (n9 : ∀ s, s < n → A 4 s ≠ 9) (hex : ex < n → A 4 ex = 0 ∧ ex ≠ t) : ∃ A' w' Q', rd_Inv n 8 D A' w' Q' ∧ rd_BD n t A A' w w' ∧
    (∀ (post : SX → Prop) (u : SX), rd_RX A w Q u → (∀ u', rd_RX A' w' Q' u' → post u') → wpX_bringDown post u (nI t) how) ∧
    (∀ (post : SY → Prop) (v : SY), rd_RY ex n D A w Q v → (∀ v', rd_RY ex n D A' w' Q' v' → post v') → wpY_kill post v (nI t) how) := by
  have hn := I.vN.2
  have I1 : rd_Inv n 8 D (rd_sw (rd_sw (rd_fall A t)  32 0 (nI t))  33 0 (nI t)) (w.filter (fun x => x != t)) (rd_fq Q t) := rd_i_fall I h8 nf
  have hS : rd_stk n (rd_sw (rd_sw (rd_fall A t)  32 0 (nI t))  33 0 (nI t)) [t] := by
    refine ⟨by simp, fun s => ?_, ⟨rfl, trivial⟩, ⟨rfl, trivial⟩⟩
    show s ∈ [t] ↔ (s < n ∧ upd (A 4) t 9 s = 9)
    by_cases e : s = t
    · rw [e, rd_us]; simp [ht]
    · rw [rd_un e]
      simp only [List.mem_cons, List.not_mem_nil, or_false, e, false_iff]
      rintro ⟨a, b⟩
      exact n9 s a b
  have ph := rd_ph_bd I1
  obtain ⟨A', w', Q', J, F, m9, hm, X, Y⟩ := rd_fl (ex := ex) (how := how) 161 _ _ _ _ (by omega) I1 hS (fun z => (rd_un (hex z).2).trans (hex z).1)
  have c9 : (rd_sw (rd_sw (rd_fall A t)  32 0 (nI t))  33 0 (nI t)) 4 t = 9 := rd_us
  have wl0 : rd_wl n A (rd_sw (rd_sw (rd_fall A t)  32 0 (nI t))  33 0 (nI t)) := rd_wl_fall (A := A) h7 h8
  have kp0 : rd_kp (fun s => A 4 s = 0 ∧ s ≠ t) A (rd_sw (rd_sw (rd_fall A t)  32 0 (nI t))  33 0 (nI t)) w (w.filter (fun x => x != t)) := rd_kp_fall (A := A) (fun z => z.2 rfl)
  refine ⟨A', w', Q', J, ⟨rd_stw_tr (rd_stw_tr (rd_stw_of rd_sta_fall) (rd_stw_tr (rd_stw_sw (Or.inl rfl)) (rd_stw_sw (Or.inr rfl)))) F.1, rd_wl_tr wl0 F.2.1, rd_kp_tr kp0 F.2.2.1 (fun s z => ?_), m9, fun s z => F.2.2.2 s ?_, hm t (by simp), rd_W_dn J ht h7 h8 (hm t (by simp))⟩, ?_, ?_⟩
  · show upd (A 4) t 9 s = 0
    rw [rd_un z.2]; exact z.1
  · show upd (A 4) t 9 s = 7 ∨ upd (A 4) t 9 s = 8
    have e : s ≠ t := by
      intro e
      rw [e] at z
      rcases z with z | z
      · exact h7 z
      · exact h8 z
    rw [rd_un e]; exact z
  · rintro post u ⟨ra, qa, ql, rfl, hx⟩ H
    unfold wpX_bringDown
    refine rd_x_withdraw I (rd_RX_mk hx) ht ?_
    rintro u' ⟨ra1, qa1, ql1, rfl, hx1⟩
    exact nm_e ⟨_, X post ra1 qa1 ql1 0 162 (by omega) (by omega) hx1 H⟩
  · rintro post v ⟨ra, qa, wq, am, rz, ob, fr, st, bl, rfl, hy⟩ H
    unfold wpY_kill
    refine nm_r (e' := nI 1) (by decide) (nm_e ?_)
    refine rd_y_begin (A := rd_sw A  33 0 (nI t)) (e := 8) I (rd_RY_mk (A := rd_sw A  33 0 (nI t)) (ex := ex) hy) ht h8 ?_
    rintro v' ⟨ra1, qa1, wq1, am1, rz1, ob1, fr1, st1, bl1, rfl, hy1⟩
    exact ⟨_, Y post ra1 qa1 wq1 am1 rz1 ob1 fr1 st1 bl1 162 (by omega) hy1 H⟩
/-- a ready task without frames is completed: the component's bringDown, the reference's complete -/
theorem rd_bd0 {n D t : Nat} {A : rd_St} {w : List Nat} {Q : Nat → List Nat} (how : Int32) (I : rd_Inv n 8 D A w Q) (ht : t < n) (h0 : A 4 t = 0) (hd : A 18 t = 0) (n9 : ∀ s, s < n → A 4 s ≠ 9) : ∃ A' w' Q', rd_Inv n 8 D A' w' Q' ∧ rd_BD n t A A' w w' ∧
    (∀ (post : SX → Prop) (u : SX), rd_RX A w Q u → (∀ u', rd_RX A' w' Q' u' → post u') → wpX_bringDown post u (nI t) how) ∧
    (∀ (ex : Nat), ex = t ∨ ex = 8 → ∀ (post : SY → Prop) (v : SY), rd_RY ex n D A w Q v → (∀ v', rd_RY 8 n D A' w' Q' v' → post v') → wpY_complete post v (nI t) how) := by
  have hn := I.vN.2
  have h7 : A 4 t ≠ 7 := by rw [h0]; decide
  have h8 : A 4 t ≠ 8 := by rw [h0]; decide
  have cs : (nI t).toNatClampNeg = t := nI_clamp (by omega)
  have i8 : vp_in (nI t) 8 := vp_in_nI (by omega) (by omega)
  have nf := rd_nf_of hn I.vF ht (by rw [h0]; decide : A 4 t ≠ 2)
  have I1 : rd_Inv n 8 D (rd_sw (rd_fall A t)  32 0 (nI t)) (w.filter (fun x => x != t)) (rd_fq Q t) := rd_i_fall I h8 nf
  have c9 : (rd_sw (rd_fall A t)  32 0 (nI t)) 4 t = 9 := rd_us
  obtain ⟨A1, w1, A', w', Q', J, F, X1, X2, Y⟩ := rd_cs (ex := 8) I1 ht c9 hd how (fun z => by omega)
  have wl0 : rd_wl n A (rd_sw (rd_fall A t)  32 0 (nI t)) := rd_wl_fall (A := A) h7 h8
  have kp0 : rd_kp (fun s => A 4 s = 0 ∧ s ≠ t) A (rd_sw (rd_fall A t)  32 0 (nI t)) w (w.filter (fun x => x != t)) := rd_kp_fall (A := A) (fun z => z.2 rfl)
  refine ⟨A', w', Q', J, ⟨rd_stw_tr (rd_stw_tr (rd_stw_of rd_sta_fall) (rd_stw_sw (Or.inl rfl))) (rd_stw_of F.1), rd_wl_tr wl0 F.2.1, rd_kp_tr kp0 F.2.2.1 (fun s z => ?_), fun s hs z => ?_, fun s z => F.2.2.2.2.1 s ?_, F.2.2.2.2.2.1, rd_W_dn J ht h7 h8 F.2.2.2.2.2.1⟩, ?_, ?_⟩
  · refine ⟨Or.inl ?_, z.2⟩
    show upd (A 4) t 9 s = 0
    rw [rd_un z.2]; exact z.1
  · obtain ⟨a, b⟩ := F.2.2.2.1 s z
    have a : upd (A 4) t 9 s = 9 := a
    rw [rd_un b] at a
    exact n9 s hs a
  · show upd (A 4) t 9 s = 7 ∨ upd (A 4) t 9 s = 8
    have e : s ≠ t := by
      intro e
      rw [e] at z
      rcases z with z | z
      · exact h7 z
      · exact h8 z
    rw [rd_un e]; exact z
  · rintro post u ⟨ra, qa, ql, rfl, hx⟩ H
    unfold wpX_bringDown
    refine rd_x_withdraw I (rd_RX_mk hx) ht ?_
    rintro u' ⟨ra1, qa1, ql1, rfl, hx1⟩
    refine nm_e ⟨2, ?_⟩
    refine br_f (by decide) (br_f (by decide) ⟨vp_in_nI (n := 0) (by omega) (by omega), nm_r (e' := nI t) rd_us ⟨i8, br_t (by rw [cs]; exact hd) (nm_r (e' := 0) (by decide) (br_t rfl ?_))⟩⟩)
    refine X1 _ _ (rd_RX_mk (A := rd_sw (rd_fall A t)  32 0 (nI t)) hx1) ?_
    rintro u' ⟨ra2, qa2, ql2, rfl, hx2⟩
    refine X2 _ _ (rd_RX_mk hx2) ?_
    rintro u' ⟨ra3, qa3, ql3, rfl, hx3⟩
    exact nm_e (br_f (by decide) (br_t (by decide) (H _ (rd_RX_mk hx3))))
  · intro ex hex post v hv H
    exact rd_y_cmp0 I ht h0 Y hex post v hv H
end
section
/-! raising -/
def rd_stx (A B : rd_St) : Prop := ∀ k, k ≠  4 → k ≠  5 → k ≠  7 → k ≠  10 → k ≠  12 → k ≠  16 → k ≠  18 → k ≠  32 → k ≠  33 → k ≠  6 → B k = A k
theorem rd_stx_of {A B : rd_St} (h : rd_stw A B) : rd_stx A B := fun k a b c d e f i j l _ => h k a b c d e f i j l
theorem rd_stx_tr {A B C : rd_St} (h : rd_stx A B) (g : rd_stx B C) : rd_stx A C := fun k a b c d e f i j l m => (g k a b c d e f i j l m).trans (h k a b c d e f i j l m)
theorem rd_stx_sw {A : rd_St} {k i : Nat} {v : Int32} (h : k =  4 ∨ k =  5 ∨ k =  7 ∨ k =  10 ∨ k =  12 ∨ k =  16 ∨ k =  18 ∨ k =  6) : rd_stx A (rd_sw A k i v) := by
  intro j a b c d e f' g l m o
  rw [rd_sw_ap, if_neg]
  omega
def rd_RS (n t : Nat) (A B : rd_St) (w x : List Nat) : Prop := rd_stx A B ∧ rd_ph n B < rd_ph n A ∧ (∀ s, s < n → B 4 s ≠ 9) ∧ (B 4 t = 0 → B 12 t = 0 ∧ (w.head? = some t → x.head? = some t))
theorem rd_RS_tr {n t : Nat} {A B C : rd_St} {w x y : List Nat} (h1 : rd_stx A B) (h2 : rd_wl n A B) (h3 : w.head? = some t → x.head? = some t) (g : rd_RS n t B C x y) : rd_RS n t A C w y :=
  ⟨rd_stx_tr h1 g.1, Nat.lt_of_lt_of_le g.2.1 (rd_ph_le h2), g.2.2.1, fun z => ⟨(g.2.2.2 z).1, fun q => (g.2.2.2 z).2 (h3 q)⟩⟩
def rd_rX (t c : Nat) (A B : rd_St) (w x : List Nat) (Q R : Nat → List Nat) (d : Nat) : Prop := ∀ (post : SX → Prop) (ra qa ql : Nat → Int32) (i f : Nat), i + d ≤ 8 → d < f → rd_XL w Q ra qa ql → (∀ u', rd_RX B x R u' → post u') → wX_raise_9 post (nI t) (nI c) f (nI i) (nI w.length) (A 25 0) (A 26 0) (A 27 0) (A 28 0) (A 29 0) (A 30 0) (A 31 0) (A 0) (A 1) (A 2) (A 3) (A 4) (A 5) (A 6) (A 7) (A 8) (A 9) (A 10) (A 11) (A 12) (A 13) (A 14) (A 15) (A 16) (A 17) (A 18) (A 19) (A 20) qa ql ra (A 21) (A 22) (A 32) (A 23)
def rd_rY (n D t c : Nat) (A B : rd_St) (w x : List Nat) (Q R : Nat → List Nat) (d : Nat) : Prop := ∀ (post : SY → Prop) (ra qa wq am rz ob fr st : Nat → Int32) (bl : Int32) (f : Nat), d < f → rd_YL t n D A w Q ra qa wq am rz ob fr st bl → (∀ v', rd_RY 8 n D B x R v' → post v') → wY_raise_7 post (nI t) (nI c) f (A 26 0) bl (nI w.length) (A 27 0) (A 28 0) (A 29 0) (A 25 0) (A 3) (A 0) (A 1) (A 2) st (A 5) (A 6) (A 11) (A 8) (A 7) rz (A 16) (A 18) (A 19) fr (A 9) ob (A 13) qa wq ra (A 33) am (A 21) (A 22)
theorem rd_y4_8 {n t : Nat} {cd pe rz : Nat → Int32} {v : Int32} (hn : n ≤ 8) (h : rd_y4 t n cd pe rz) (hv : pe t = v) : rd_y4 8 n cd pe (upd rz t v) := by
  intro u hu a b c
  rw [if_neg (by omega)]
  by_cases e : u = t
  · rw [e, rd_us]; exact hv.symm
  · rw [rd_un e]; exact rd_y4_n h hu e a b c
section
variable {n D t c : Nat} {A : rd_St} {w : List Nat} {Q : Nat → List Nat} {d : Nat}
/-- what the component asks at a frame -/
theorem rd_rx_hd (hn : n ≤ 8) (ht : t < n) (hd : A 18 t = nI (d + 1)) (h8 : d < 8) (post : SX → Prop) (ra qa ql : Nat → Int32) (i f : Nat) (hi : i + (d + 1) ≤ 8) (hN : rd_vN n (A 26)) (P0 : A 19 (8 * t + d) = 0 → rd_lv n (A 9) (A 10) (A 4) t (nI d) → wpX_waitAs (fun u => match u with | (f_rowLength_1, f_noteCount_1, f_tasks_1, f_time_1, f_done_1, f_turns_1, f_doneInTurn_1, f_inTurn_1, a_ops_1, a_firsts_1, a_seconds_1, a_lengths_1, a_condition_1, a_place_1, a_xs_1, a_ended_1, a_bodyOf_1, a_master_1, a_masterBlock_1, a_limits_1, a_pending_1, a_doomed_1, a_terminable_1, a_calledQueue_1, a_wakeTime_1, a_wakePlace_1, a_depth_1, a_frameKind_1, a_frameValue_1, a_queue_1, a_queueLength_1, a_row_1, a_noteTask_1, a_noteValue_1, a_fallen_1, a_chosen_1) => post (f_rowLength_1, f_noteCount_1, f_tasks_1, f_time_1, f_done_1, f_turns_1, f_doneInTurn_1, f_inTurn_1, a_ops_1, a_firsts_1, a_seconds_1, a_lengths_1, a_condition_1, a_place_1, a_xs_1, a_ended_1, a_bodyOf_1, a_master_1, a_masterBlock_1, a_limits_1, a_pending_1, a_doomed_1, a_terminable_1, a_calledQueue_1, a_wakeTime_1, a_wakePlace_1, a_depth_1, a_frameKind_1, a_frameValue_1, a_queue_1, a_queueLength_1, a_row_1, a_noteTask_1, a_noteValue_1, a_fallen_1, a_chosen_1)) (rd_tX A (nI w.length) ra qa ql) (nI t) 6) (P1 : (A 19 (8 * t + d) = 0 → ¬ rd_lv n (A 9) (A 10) (A 4) t (nI d)) → wX_raise_73 post (wX_raise_9 post (nI t) (nI c) f) (nI t) (nI c) (nI i) (nI (8 * t + d)) (nI w.length) (A 25 0) (A 26 0) (A 27 0) (A 28 0) (A 29 0) (A 30 0) (A 31 0) (A 0) (A 1) (A 2) (A 3) (A 4) (A 5) (A 6) (A 7) (A 8) (A 9) (A 10) (A 11) (A 12) (A 13) (A 14) (A 15) (A 16) (A 17) (A 18) (A 19) (A 20) qa ql ra (A 21) (A 22) (A 32) (A 23)) : wX_raise_9 post (nI t) (nI c) (f + 1) (nI i) (nI w.length) (A 25 0) (A 26 0) (A 27 0) (A 28 0) (A 29 0) (A 30 0) (A 31 0) (A 0) (A 1) (A 2) (A 3) (A 4) (A 5) (A 6) (A 7) (A 8) (A 9) (A 10) (A 11) (A 12) (A 13) (A 14) (A 15) (A 16) (A 17) (A 18) (A 19) (A 20) qa ql ra (A 21) (A 22) (A 32) (A 23) := by
  have ct : (nI t).toNatClampNeg = t := nI_clamp (by omega)
  have i8 : vp_in (nI t) 8 := vp_in_nI (by omega) (by omega)
  have i64 : vp_in (nI (8 * t + d)) 64 := vp_in_nI (by omega) (by omega)
  have cd : (nI (8 * t + d)).toNatClampNeg = 8 * t + d := nI_clamp (by omega)
  have ed : A 18 (nI t).toNatClampNeg - 1 = nI d := by rw [ct, hd, nI_pred]
  refine br_f (nI_ge (b := 8) (by omega) (by omega)) ⟨i8, br_f (by rw [ct, hd]; exact nI_nle (by omega) (by omega)) ⟨i8, nm_r (e' := nI (8 * t + d)) (by rw [ct, hd, rd_ix t (d + 1) 8 8 rfl]; exact nI_pred (8 * t + d)) ⟨i64, ?_⟩⟩⟩
  by_cases h0 : A 19 (8 * t + d) = 0
  · refine br_t (by rw [cd]; exact h0) ⟨i8, ?_⟩
    rw [ed]
    exact rd_x_hasLiving hN (fun z => br_f (by decide) (P0 h0 z)) (fun z => br_t rfl (P1 (fun _ => z)))
  · exact br_f (by rw [cd]; exact h0) (P1 (fun z => absurd z h0))
/-- what the reference asks at a frame -/
theorem rd_ry_hd {wq am rz ob fr st ra qa : Nat → Int32} {bl : Int32} (I : rd_Inv n 8 D A w Q) (ht : t < n) (h0 : A 4 t = 0) (hd : A 18 t = nI (d + 1)) (h8 : d < 8) (post : SY → Prop) (f : Nat) (hy : rd_YL t n D A w Q ra qa wq am rz ob fr st bl) (P0 : A 19 (8 * t + d) = 0 → rd_lv n (A 9) (A 10) (A 4) t (nI d) → wpY_rest (fun u => match u with | (f_tasks_1, f_blocks_1, f_readies_1, f_time_1, f_done_1, f_turns_1, f_notes_1, a_length_1, a_ops_1, a_as_1, a_bs_1, a_states_1, a_places_1, a_xs_1, a_limits_1, a_bodies_1, a_ends_1, a_raised_1, a_until_1, a_high_1, a_kinds_1, a_frames_1, a_on_1, a_onBlock_1, a_doomed_1, a_queues_1, a_waiting_1, a_row_1, a_dying_1, a_among_1, a_noteTask_1, a_noteInt_1) => (vp_in (nI t) 8 ∧ ∀ g, g = upd a_raised_1 (nI t).toNatClampNeg (nI c) → post (f_tasks_1, f_blocks_1, f_readies_1, f_time_1, f_done_1, f_turns_1, f_notes_1, a_length_1, a_ops_1, a_as_1, a_bs_1, a_states_1, a_places_1, a_xs_1, a_limits_1, a_bodies_1, a_ends_1, g, a_until_1, a_high_1, a_kinds_1, a_frames_1, a_on_1, a_onBlock_1, a_doomed_1, a_queues_1, a_waiting_1, a_row_1, a_dying_1, a_among_1, a_noteTask_1, a_noteInt_1))) (rd_tY A (nI w.length) ra qa wq am rz ob fr st bl) (nI t) 6) (P1 : (A 19 (8 * t + d) = 0 → ¬ rd_lv n (A 9) (A 10) (A 4) t (nI d)) → wY_raise_71 post (wY_raise_7 post (nI t) (nI c) f) (nI t) (nI c) (fr (8 * t + d)) (A 19 (8 * t + d)) (A 26 0) bl (nI w.length) (A 27 0) (A 28 0) (A 29 0) (A 25 0) (A 3) (A 0) (A 1) (A 2) st (A 5) (A 6) (A 11) (A 8) (A 7) rz (A 16) (A 18) (A 19) fr (A 9) ob (A 13) qa wq ra (A 33) am (A 21) (A 22)) : wY_raise_7 post (nI t) (nI c) (f + 1) (A 26 0) bl (nI w.length) (A 27 0) (A 28 0) (A 29 0) (A 25 0) (A 3) (A 0) (A 1) (A 2) st (A 5) (A 6) (A 11) (A 8) (A 7) rz (A 16) (A 18) (A 19) fr (A 9) ob (A 13) qa wq ra (A 33) am (A 21) (A 22) := by
  have hn := I.vN.2
  have hDD := I.vD.2.1
  have ct : (nI t).toNatClampNeg = t := nI_clamp (by omega)
  have i8 : vp_in (nI t) 8 := vp_in_nI (by omega) (by omega)
  have i64 : vp_in (nI (8 * t + d)) 64 := vp_in_nI (by omega) (by omega)
  have cd : (nI (8 * t + d)).toNatClampNeg = 8 * t + d := nI_clamp (by omega)
  have it : 8 * nI t + A 18 (nI t).toNatClampNeg - 1 = nI (8 * t + d) := by
    rw [ct, hd, rd_ix' t (d + 1) 8 8 rfl]
    exact nI_pred (8 * t + d)
  have hds : d < (A 18 t).toNatClampNeg := by rw [hd, nI_clamp (by omega)]; omega
  refine ⟨i8, br_f (by rw [ct, hd]; exact nI_nle (by omega) (by omega)) (rd_y_top (by omega) hd h8 ⟨i8, ?_⟩)⟩
  rw [it, cd]
  refine ⟨i64, nm_e ?_⟩
  by_cases k0 : A 19 (8 * t + d) = 0
  · have lv := rd_lv_bl hn hDD ht I.vB I.rdp hy.y6 hy.y7 hy.y8 (by rw [h0]; decide) hds k0
    exact br_t k0 (rd_y_isWaitedFor I.vN hy.y9 (fun z => br_f (by decide) (P0 k0 (lv.mp z))) (fun z => br_t rfl (P1 (fun _ y => z (lv.mpr y)))))
  · exact br_f k0 (P1 (fun z => absurd z k0))
end
end
section
/-! raising: the loop, in lockstep -/
theorem rd_rl {n D t c : Nat} (hc0 : 0 < c) (hc : c ≤ 14) : ∀ (d : Nat) (A : rd_St) (w : List Nat) (Q : Nat → List Nat), rd_Inv n 8 D A w Q → t < n → A 4 t = 0 → A 12 t = nI c → A 18 t = nI d → d ≤ 8 → (∀ s, s < n → A 4 s ≠ 9) → ∃ B x R, rd_Inv n 8 D B x R ∧ rd_RS n t A B w x ∧ rd_rX t c A B w x Q R d ∧ rd_rY n D t c A B w x Q R d := by
  intro d
  induction d with
  | zero =>
    intro A w Q I ht h0 hp hd h8 n9
    have hn := I.vN.2
    have ct : (nI t).toNatClampNeg = t := nI_clamp (by omega)
    have i8 : vp_in (nI t) 8 := vp_in_nI (by omega) (by omega)
    obtain ⟨B, x, R, J, F, X, Y⟩ := rd_bd0 (nI c) I ht h0 hd n9
    refine ⟨B, x, R, J, ⟨rd_stx_of F.1, rd_ph_lt F.2.1 ht F.2.2.2.2.2.2, F.2.2.2.1, fun z => ?_⟩, ?_, ?_⟩
    · rcases F.2.2.2.2.2.1 with y | y <;> rw [y] at z <;> exact absurd z (by decide)
    · intro post ra qa ql i f hi hf hx H
      obtain ⟨f', rfl⟩ : ∃ f', f = f' + 1 := ⟨f - 1, by omega⟩
      have P : wX_raise_151 post (nI t) (nI c) (nI w.length) (A 25 0) (A 26 0) (A 27 0) (A 28 0) (A 29 0) (A 30 0) (A 31 0) (A 0) (A 1) (A 2) (A 3) (A 4) (A 5) (A 6) (A 7) (A 8) (A 9) (A 10) (A 11) (A 12) (A 13) (A 14) (A 15) (A 16) (A 17) (A 18) (A 19) (A 20) qa ql ra (A 21) (A 22) (A 32) (A 23) := by
        refine X _ _ (rd_RX_mk hx) ?_
        rintro u' ⟨ra1, qa1, ql1, rfl, hx1⟩
        exact H _ (rd_RX_mk hx1)
      exact br_c (fun _ => P) (fun _ => ⟨i8, br_t (by rw [ct, hd]; exact nI_le (a := 0) (b := 0) (Nat.le_refl _) (by omega)) P⟩)
    · intro post ra qa wq am rz ob fr st bl f hf hy H
      obtain ⟨f', rfl⟩ : ∃ f', f = f' + 1 := ⟨f - 1, by omega⟩
      refine ⟨i8, br_t (by rw [ct, hd]; exact nI_le (a := 0) (b := 0) (Nat.le_refl _) (by omega)) ?_⟩
      refine Y t (Or.inl rfl) _ _ (rd_RY_mk hy) ?_
      rintro v' ⟨ra1, qa1, wq1, am1, rz1, ob1, fr1, st1, bl1, rfl, hy1⟩
      exact H _ (rd_RY_mk hy1)
  | succ d ih =>
    intro A w Q I ht h0 hp hd h8 n9
    have hn := I.vN.2
    have h8 : d < 8 := by omega
    have ct : (nI t).toNatClampNeg = t := nI_clamp (by omega)
    have i8 : vp_in (nI t) 8 := vp_in_nI (by omega) (by omega)
    have i64 : vp_in (nI (8 * t + d)) 64 := vp_in_nI (by omega) (by omega)
    have cd : (nI (8 * t + d)).toNatClampNeg = 8 * t + d := nI_clamp (by omega)
    have hds : d < (A 18 t).toNatClampNeg := by rw [hd, nI_clamp (by omega)]; omega
    have n6 : A 4 t ≠ 6 := by rw [h0]; decide
    have k7 : A 4 t ≠ 7 := by rw [h0]; decide
    have k8 : A 4 t ≠ 8 := by rw [h0]; decide
    have k9 : A 4 t ≠ 9 := by rw [h0]; decide
    have pe0 : A 12 t ≠ 0 := by rw [hp]; exact nI_ne0 hc0 (by omega)
    have wk1 : A 16 t = -1 := rd_wk0 I ht ⟨by rw [h0]; decide, by rw [h0]; decide, by rw [h0]; decide⟩
    have wl8 : w.length ≤ 8 := Nat.le_trans (rd_wlen I) hn
    have wx8 : ∀ x, x ∈ w → x < 8 := fun x hx => Nat.lt_of_lt_of_le ((I.vR.2 x).mp hx).1 hn
    have ed : A 18 (nI t).toNatClampNeg - 1 = nI d := by rw [ct, hd, nI_pred]
    by_cases hk : A 19 (8 * t + d) = 0 ∧ rd_lv n (A 9) (A 10) (A 4) t (nI d)
    · -- it waits at its block
      obtain ⟨hk, hl⟩ := hk
      have J := rd_i_leav I ht h0 h8 hd hk hl (fun z => absurd z pe0)
      have W : rd_W (rd_sw A  4 t 6) t < rd_W A t := by
        show rd_c (upd (A 4) t 6 t) (A 12 t) + 2 * (A 18 t).toNatClampNeg < rd_c (A 4 t) (A 12 t) + 2 * (A 18 t).toNatClampNeg
        rw [rd_us, h0, rd_c6, rd_c0 pe0]; omega
      have wl : rd_wl n A (rd_sw A  4 t 6) := by
        intro s hs
        by_cases e : s = t
        · rw [e]; exact Nat.le_of_lt W
        · show rd_c (upd (A 4) t 6 s) (A 12 s) + 2 * (A 18 s).toNatClampNeg ≤ rd_c (A 4 s) (A 12 s) + 2 * (A 18 s).toNatClampNeg
          rw [rd_un e]; exact Nat.le_refl _
      refine ⟨_, _, Q, J, ⟨rd_stx_sw (by simp), rd_ph_lt wl ht W, fun s hs z => ?_, fun z => ?_⟩, ?_, ?_⟩
      · have z : upd (A 4) t 6 s = 9 := z
        by_cases e : s = t
        · rw [e, rd_us] at z; exact absurd z (by decide)
        · rw [rd_un e] at z; exact n9 s hs z
      · have z : upd (A 4) t 6 t = 0 := z
        rw [rd_us] at z; exact absurd z (by decide)
      · intro post ra qa ql i f hi hf hx H
        obtain ⟨f', rfl⟩ : ∃ f', f = f' + 1 := ⟨f - 1, by omega⟩
        refine rd_rx_hd hn ht hd h8 post ra qa ql i f' (by omega) I.vN (fun _ _ => ?_) (fun z => absurd hl (z hk))
        refine rd_x_waitAs (rd_RX_mk hx) (by omega) wl8 wx8 ?_
        rintro u' ⟨ra1, qa1, ql1, rfl, hx1⟩
        exact H _ (rd_RX_mk hx1)
      · intro post ra qa wq am rz ob fr st bl f hf hy H
        obtain ⟨f', rfl⟩ : ∃ f', f = f' + 1 := ⟨f - 1, by omega⟩
        refine rd_ry_hd I ht h0 hd h8 post f' hy (fun _ _ => ?_) (fun z => absurd hl (z hk))
        refine rd_y_rest hy.r (by omega) wl8 wx8 (fun ra' gr => ?_)
        rw [rd_sw_eq (A := A) (k :=  16) wk1]
        refine ⟨i8, nm_r (e' := upd rz t (nI c)) (by rw [ct]) ?_⟩
        exact H _ (rd_RY_mk (A := rd_sw A  4 t 6) ⟨gr, hy.y2, hy.y3, rd_y4_8 hn (rd_y4_cd hy.y4 (Or.inr ⟨k7, k8, k9⟩)) hp, hy.y5, hy.y6, hy.y7, rd_y8_cd hy.y8 (by decide) k9 k8, rd_y9_u hy.y9 rfl, hy.y10⟩)
    · have hk' : A 19 (8 * t + d) = 0 → ¬ rd_lv n (A 9) (A 10) (A 4) t (nI d) := fun a b => hk ⟨a, b⟩
      have hb : A 19 (8 * t + d) ≠ 0 ∨ ¬ rd_lv n (A 9) (A 10) (A 4) t (nI d) := by
        by_cases z : A 19 (8 * t + d) = 0
        · exact Or.inr (hk' z)
        · exact Or.inl z
      have I1 := rd_i_pop I ht hd h8 n6 hb
      have wl1 := rd_wl_pop (n := n) hd h8
      by_cases k2 : A 19 (8 * t + d) = 2
      · -- a handler
        obtain ⟨p, hp20, ep⟩ : ∃ p, p ≤ 20 ∧ A 20 (8 * t + d) = nI p := by
          rcases I.vF t ht d hds with z | ⟨z, _⟩ | ⟨_, z⟩
          · rw [z] at k2; exact absurd k2 (by decide)
          · rw [z] at k2; exact absurd k2 (by decide)
          · exact z
        have J : rd_Inv n 8 D (rd_sw (rd_sw (rd_sw (rd_sw A  18 t (nI d))  12 t 0)  5 t (nI p))  6 t (nI c)) w Q := rd_i_xs (rd_i_pl (p := p) (rd_i_pe (c := 0) I1 ht (by omega) (Or.inl h0)) ht (by omega) (Or.inl h0))
        have W : rd_W (rd_sw (rd_sw (rd_sw (rd_sw A  18 t (nI d))  12 t 0)  5 t (nI p))  6 t (nI c)) t < rd_W A t := by
          show rd_c (A 4 t) (upd (A 12) t 0 t) + 2 * (upd (A 18) t (nI d) t).toNatClampNeg < rd_c (A 4 t) (A 12 t) + 2 * (A 18 t).toNatClampNeg
          rw [rd_us, rd_us, h0, rd_c00, rd_c0 pe0, hd, nI_clamp (by omega), nI_clamp (by omega)]; omega
        have wl : rd_wl n A (rd_sw (rd_sw (rd_sw (rd_sw A  18 t (nI d))  12 t 0)  5 t (nI p))  6 t (nI c)) := by
          intro s hs
          by_cases e : s = t
          · rw [e]; exact Nat.le_of_lt W
          · show rd_c (A 4 s) (upd (A 12) t 0 s) + 2 * (upd (A 18) t (nI d) s).toNatClampNeg ≤ rd_c (A 4 s) (A 12 s) + 2 * (A 18 s).toNatClampNeg
            rw [rd_un e, rd_un e]; exact Nat.le_refl _
        refine ⟨_, w, Q, J, ⟨rd_stx_tr (rd_stx_tr (rd_stx_tr (rd_stx_sw (by simp)) (rd_stx_sw (by simp))) (rd_stx_sw (by simp))) (rd_stx_sw (by simp)), rd_ph_lt wl ht W, n9, fun _ => ⟨rd_us, id⟩⟩, ?_, ?_⟩
        · intro post ra qa ql i f hi hf hx H
          obtain ⟨f', rfl⟩ : ∃ f', f = f' + 1 := ⟨f - 1, by omega⟩
          refine rd_rx_hd hn ht hd h8 post ra qa ql i f' (by omega) I.vN (fun a b => absurd b (hk' a)) (fun _ => ?_)
          exact ⟨i8, i8, nm_r (e' := upd (A 18) t (nI d)) (by rw [ct, hd, nI_pred]) ⟨i64, br_t (by rw [cd]; exact k2) ⟨i8, nm_r (e' := upd (A 12) t 0) (by rw [ct]) ⟨i64, i8, nm_r (e' := upd (A 5) t (nI p)) (by rw [ct, cd, ep]) ⟨i8, nm_r (e' := upd (A 6) t (nI c)) (by rw [ct]) (H _ (rd_RX_mk (A := rd_sw (rd_sw (rd_sw (rd_sw A  18 t (nI d))  12 t 0)  5 t (nI p))  6 t (nI c)) hx))⟩⟩⟩⟩⟩
        · intro post ra qa wq am rz ob fr st bl f hf hy H
          obtain ⟨f', rfl⟩ : ∃ f', f = f' + 1 := ⟨f - 1, by omega⟩
          refine rd_ry_hd I ht h0 hd h8 post f' hy (fun a b => absurd b (hk' a)) (fun _ => ?_)
          have efr : fr (8 * t + d) = nI p := (hy.y5 t ht d hds (by rw [k2]; decide)).trans ep
          have hy1 := rd_YL_pop hy hd h8
          have rz0 : rz t = 0 := by
            have := hy.y4 t ht k7 k8 k9
            rw [if_pos rfl] at this
            exact this
          refine ⟨i8, i8, nm_r (e' := upd (A 18) t (nI d)) (by rw [ct, hd, nI_pred]) (br_t k2 ⟨i8, nm_r (e' := upd (A 5) t (nI p)) (by rw [ct, efr]) ⟨i8, nm_r (e' := upd (A 6) t (nI c)) (by rw [ct]) (H _ (rd_RY_mk (A := rd_sw (rd_sw (rd_sw (rd_sw A  18 t (nI d))  12 t 0)  5 t (nI p))  6 t (nI c)) ⟨hy1.r, hy1.y2, hy1.y3, ?_, hy1.y5, hy1.y6, hy1.y7, hy1.y8, hy1.y9, hy1.y10⟩))⟩⟩)⟩
          intro u hu a b e
          show rz u = if u = 8 then 0 else upd (A 12) t 0 u
          rw [if_neg (by omega)]
          by_cases z : u = t
          · rw [z, rd_us]; exact rz0
          · rw [rd_un z]; exact rd_y4_n hy.y4 hu z a b e
      · by_cases k1 : A 19 (8 * t + d) = 1
        · -- a meeting
          obtain ⟨r, hr, ev, r2⟩ : ∃ r, r < n ∧ A 20 (8 * t + d) = nI r ∧ A 4 r = 2 := by
            rcases I.vF t ht d hds with z | ⟨_, z⟩ | ⟨z, _⟩
            · rw [z] at k1; exact absurd k1 (by decide)
            · exact z
            · exact absurd z k2
          have rt : r ≠ t := fun e => by rw [e, h0] at r2; exact absurd r2 (by decide)
          have cr : (nI r).toNatClampNeg = r := nI_clamp (by omega)
          have ir : vp_in (nI r) 8 := vp_in_nI (by omega) (by omega)
          have q0 : A 4 r ≠ 0 := by rw [r2]; decide
          have q1 : A 4 r ≠ 1 := by rw [r2]; decide
          have q7 : A 4 r ≠ 7 := by rw [r2]; decide
          have q8 : A 4 r ≠ 8 := by rw [r2]; decide
          have q9 : A 4 r ≠ 9 := by rw [r2]; decide
          have nf := rd_nf_pop ht hd h8 I.vU k1 ev
          -- the release, whatever becomes of the caller
          have rel : ∃ B x R, rd_Inv n 8 D B x R ∧ rd_stx A B ∧ rd_wl n A B ∧ (w.head? = some t → x.head? = some t) ∧ (∀ s, s < n → B 4 s ≠ 9) ∧ B 4 t = 0 ∧ B 12 t = nI c ∧ B 18 t = nI d ∧
              (∀ (post : SX → Prop) (u : SX), rd_RX (rd_sw A  18 t (nI d)) w Q u → (∀ u', rd_RX B x R u' → post u') → wpX_failMeeting post u (nI r) (nI c)) ∧
              (∀ (post : SY → Prop) (v : SY), rd_RY t n D (rd_sw A  18 t (nI d)) w Q v → (∀ v', rd_RY t n D B x R v' → post v') → wpY_release post v (nI r) (nI c) (A 5 r)) := by
            by_cases hdm : A 13 r = 0
            · have I2 := rd_i_rp (x := c) I1 hr q0 q8 (rd_vQ_no I.vQ q1) nf hc
              have wl2 : rd_wl n (rd_sw A  18 t (nI d)) (rd_ready (rd_sw (rd_sw A  18 t (nI d))  12 r (nI c)) r) := rd_wl_rp (A := rd_sw A  18 t (nI d)) (Or.inr (Or.inl r2))
              have wlt : w.length < 8 := Nat.lt_of_lt_of_le (rd_wlen' I hr q0) hn
              refine ⟨_, _, Q, I2, rd_stx_tr (rd_stx_sw (by simp)) (rd_stx_tr (rd_stx_sw (by simp)) (rd_stx_of (rd_stw_of rd_sta_ready))), rd_wl_tr wl1 wl2, rd_hd_app, fun s hs z => ?_, (rd_un (fun e => rt e.symm)).trans h0, (rd_un (fun e => rt e.symm)).trans hp, rd_us, ?_, ?_⟩
              · have z : upd (A 4) r 0 s = 9 := z
                by_cases e : s = r
                · rw [e, rd_us] at z; exact absurd z (by decide)
                · rw [rd_un e] at z; exact n9 s hs z
              · rintro post u ⟨ra, qa, ql, rfl, hx⟩ H
                unfold wpX_failMeeting
                refine ⟨ir, br_t (by rw [cr]; exact hdm) ⟨ir, nm_r (e' := upd (A 12) r (nI c)) (by rw [cr]; rfl) ?_⟩⟩
                refine rd_x_makeReady (rd_RX_mk (A := rd_sw (rd_sw A  18 t (nI d))  12 r (nI c)) hx) (by omega) wlt ?_
                rintro u' ⟨ra1, qa1, ql1, rfl, hx1⟩
                exact H _ (rd_RX_mk hx1)
              · rintro post v ⟨ra, qa, wq, am, rz, ob, fr, st, bl, rfl, hy⟩ H
                unfold wpY_release
                refine ⟨ir, br_t (by rw [cr]; exact hdm) ⟨ir, nm_r (e' := upd rz r (nI c)) (by rw [cr]) ⟨ir, nm_r (e' := A 5) (by rw [cr]; exact rd_ue rfl) ?_⟩⟩⟩
                refine rd_y_wake (A := rd_sw (rd_sw A  18 t (nI d))  12 r (nI c)) (rd_RY_mk (ex := t) (D := D) (Q := Q) ⟨hy.r, hy.y2, hy.y3, rd_y4_pe hy.y4 rt, hy.y5, hy.y6, hy.y7, hy.y8, hy.y9, hy.y10⟩) hn hr wlt q7 q8 q9 ?_
                rintro v' ⟨ra1, qa1, wq1, am1, rz1, ob1, fr1, st1, bl1, rfl, hy1⟩
                exact H _ (rd_RY_mk hy1)
            · obtain ⟨B, x, R, J, F, X, Y⟩ := rd_bd (ex := t) (t := r) 14 I1 hr q7 q8 nf n9 (fun _ => ⟨h0, fun e => rt e.symm⟩)
              have kt := F.2.2.1 t ⟨h0, fun e => rt e.symm⟩
              refine ⟨B, x, R, J, rd_stx_tr (rd_stx_sw (by simp)) (rd_stx_of F.1), rd_wl_tr wl1 F.2.1, kt.2.2.2.2, F.2.2.2.1, kt.1.trans h0, kt.2.2.1.trans hp, kt.2.2.2.1.trans rd_us, ?_, ?_⟩
              · rintro post u ⟨ra, qa, ql, rfl, hx⟩ H
                unfold wpX_failMeeting
                refine ⟨ir, br_f (by rw [cr]; exact hdm) ?_⟩
                refine X _ _ (rd_RX_mk (A := rd_sw A  18 t (nI d)) hx) ?_
                rintro u' ⟨ra1, qa1, ql1, rfl, hx1⟩
                exact H _ (rd_RX_mk hx1)
              · rintro post v ⟨ra, qa, wq, am, rz, ob, fr, st, bl, rfl, hy⟩ H
                unfold wpY_release
                refine ⟨ir, br_f (by rw [cr]; exact hdm) ?_⟩
                refine Y _ _ (rd_RY_mk (A := rd_sw A  18 t (nI d)) hy) ?_
                rintro v' ⟨ra1, qa1, wq1, am1, rz1, ob1, fr1, st1, bl1, rfl, hy1⟩
                exact H _ (rd_RY_mk hy1)
          obtain ⟨B, x, R, J, s1, s2, s3, s4, s5, s6, s7, X, Y⟩ := rel
          obtain ⟨B', x', R', J', S', X', Y'⟩ := ih B x R J ht s5 s6 s7 (by omega) s4
          refine ⟨B', x', R', J', rd_RS_tr s1 s2 s3 S', ?_, ?_⟩
          · intro post ra qa ql i f hi hf hx H
            obtain ⟨f', rfl⟩ : ∃ f', f = f' + 1 := ⟨f - 1, by omega⟩
            refine rd_rx_hd hn ht hd h8 post ra qa ql i f' (by omega) I.vN (fun a b => absurd b (hk' a)) (fun _ => ?_)
            refine ⟨i8, i8, nm_r (e' := upd (A 18) t (nI d)) (by rw [ct, hd, nI_pred]) ⟨i64, br_f (by rw [cd]; exact k2) ⟨i64, br_t (by rw [cd]; exact k1) ⟨i64, ?_⟩⟩⟩⟩
            rw [cd, ev]
            refine X _ _ (rd_RX_mk (A := rd_sw A  18 t (nI d)) hx) ?_
            rintro u' ⟨ra1, qa1, ql1, rfl, hx1⟩
            exact nm_r (nI_1 i) (X' post ra1 qa1 ql1 (i + 1) f' (by omega) (by omega) hx1 H)
          · intro post ra qa wq am rz ob fr st bl f hf hy H
            obtain ⟨f', rfl⟩ : ∃ f', f = f' + 1 := ⟨f - 1, by omega⟩
            refine rd_ry_hd I ht h0 hd h8 post f' hy (fun a b => absurd b (hk' a)) (fun _ => ?_)
            have efr : fr (8 * t + d) = nI r := (hy.y5 t ht d hds (by rw [k1]; decide)).trans ev
            rw [efr]
            refine ⟨i8, i8, nm_r (e' := upd (A 18) t (nI d)) (by rw [ct, hd, nI_pred]) (br_f k2 (br_t k1 ⟨ir, ?_⟩))⟩
            rw [cr]
            refine Y _ _ (rd_RY_mk (A := rd_sw A  18 t (nI d)) (rd_YL_pop hy hd h8)) ?_
            rintro v' ⟨ra1, qa1, wq1, am1, rz1, ob1, fr1, st1, bl1, rfl, hy1⟩
            exact Y' post ra1 qa1 wq1 am1 rz1 ob1 fr1 st1 bl1 f' (by omega) hy1 H
        · -- a block that goes
          obtain ⟨B', x', R', J', S', X', Y'⟩ := ih (rd_sw A  18 t (nI d)) w Q I1 ht h0 hp rd_us (by omega) n9
          refine ⟨B', x', R', J', rd_RS_tr (rd_stx_sw (by simp)) wl1 id S', ?_, ?_⟩
          · intro post ra qa ql i f hi hf hx H
            obtain ⟨f', rfl⟩ : ∃ f', f = f' + 1 := ⟨f - 1, by omega⟩
            refine rd_rx_hd hn ht hd h8 post ra qa ql i f' (by omega) I.vN (fun a b => absurd b (hk' a)) (fun _ => ?_)
            exact ⟨i8, i8, nm_r (e' := upd (A 18) t (nI d)) (by rw [ct, hd, nI_pred]) ⟨i64, br_f (by rw [cd]; exact k2) ⟨i64, br_f (by rw [cd]; exact k1) (nm_r (nI_1 i) (X' post ra qa ql (i + 1) f' (by omega) (by omega) hx H))⟩⟩⟩
          · intro post ra qa wq am rz ob fr st bl f hf hy H
            obtain ⟨f', rfl⟩ : ∃ f', f = f' + 1 := ⟨f - 1, by omega⟩
            refine rd_ry_hd I ht h0 hd h8 post f' hy (fun a b => absurd b (hk' a)) (fun _ => ?_)
            exact ⟨i8, i8, nm_r (e' := upd (A 18) t (nI d)) (by rw [ct, hd, nI_pred]) (br_f k2 (br_f k1 (Y' post ra qa wq am rz ob fr st bl f' (by omega) (rd_YL_pop hy hd h8) H)))⟩
/-- raise: the component's, from the exception kept, and the reference's, whatever it kept -/
theorem rd_raise {n D t c : Nat} {A : rd_St} {w : List Nat} {Q : Nat → List Nat} (hc0 : 0 < c) (hc : c ≤ 14) (I : rd_Inv n 8 D A w Q) (ht : t < n) (h0 : A 4 t = 0) (hp : A 12 t = nI c) (n9 : ∀ s, s < n → A 4 s ≠ 9) : ∃ B x R, rd_Inv n 8 D B x R ∧ rd_RS n t A B w x ∧
    (∀ (post : SX → Prop) (u : SX), rd_RX A w Q u → (∀ u', rd_RX B x R u' → post u') → wpX_raise post u (nI t)) ∧
    (∀ (post : SY → Prop) (ra qa wq am rz ob fr st : Nat → Int32) (bl : Int32), (∃ ex, (ex = t ∨ ex = 8) ∧ rd_YL ex n D A w Q ra qa wq am rz ob fr st bl) → (∀ v', rd_RY 8 n D B x R v' → post v') → wpY_raise post (rd_tY A (nI w.length) ra qa wq am rz ob fr st bl) (nI t) (nI c)) := by
  have hn := I.vN.2
  have ct : (nI t).toNatClampNeg = t := nI_clamp (by omega)
  have i8 : vp_in (nI t) 8 := vp_in_nI (by omega) (by omega)
  obtain ⟨d, hd, ed, _⟩ := rd_dpos I ht
  obtain ⟨B, x, R, J, S, X, Y⟩ := rd_rl hc0 hc d A w Q I ht h0 hp ed hd n9
  refine ⟨B, x, R, J, S, ?_, ?_⟩
  · rintro post u ⟨ra, qa, ql, rfl, hx⟩ H
    unfold wpX_raise
    exact ⟨i8, nm_r (e' := nI c) (by rw [ct]; exact hp) ⟨_, X post ra qa ql 0 9 (by omega) (by omega) hx H⟩⟩
  · rintro post ra qa wq am rz ob fr st bl ⟨ex, hex, hy⟩ H
    unfold wpY_raise
    refine ⟨i8, nm_r (e' := upd rz t 0) (by rw [ct]) ⟨_, Y post ra qa wq am (upd rz t 0) ob fr st bl 9 (by omega) ⟨hy.r, hy.y2, hy.y3, ?_, hy.y5, hy.y6, hy.y7, hy.y8, hy.y9, hy.y10⟩ H⟩⟩
    intro u hu a b c'
    by_cases e : u = t
    · rw [e, rd_us, if_pos rfl]
    · rw [rd_un e, if_neg e]
      refine rd_y4_n hy.y4 hu ?_ a b c'
      rcases hex with z | z
      · rw [z]; exact e
      · omega
end
section
/-! more small methods of both sides -/
theorem rd_x_fail {post : Int32 → SX → Prop} {A : rd_St} {rl : Int32} {ra qa ql : Nat → Int32} {t : Nat} {c : Int32} (ht : t < 8) (H : post (A 5 t) (rd_tX (rd_sw A  12 t c) rl ra qa ql)) : wpX_fail post (rd_tX A rl ra qa ql) (nI t) c := by
  have ct : (nI t).toNatClampNeg = t := nI_clamp (by omega)
  have i8 : vp_in (nI t) 8 := vp_in_nI (by omega) (by omega)
  unfold wpX_fail
  refine ⟨i8, nm_r (e' := upd (A 12) t c) (by rw [ct]) ⟨i8, ?_⟩⟩
  rw [ct]
  exact H
theorem rd_x_hasOnTop {post : Int32 → Prop} {A : rd_St} {rl : Int32} {ra qa ql : Nat → Int32} {t d : Nat} {k : Int32} (ht : t < 8) (hd : A 18 t = nI d) (h8 : d ≤ 8) (H1 : ∀ e, d = e + 1 → A 19 (8 * t + e) = k → post 1) (H0 : (∀ e, d = e + 1 → A 19 (8 * t + e) ≠ k) → post 0) : wpX_hasOnTop post (rd_tX A rl ra qa ql) (nI t) k := by
  have ct : (nI t).toNatClampNeg = t := nI_clamp (by omega)
  have i8 : vp_in (nI t) 8 := vp_in_nI (by omega) (by omega)
  unfold wpX_hasOnTop
  refine ⟨i8, ?_⟩
  cases d with
  | zero => exact br_t (by rw [ct, hd]; exact nI_le (a := 0) (b := 0) (Nat.le_refl _) (by omega)) (H0 (fun e h => by omega))
  | succ e =>
    have it : nI t * 8 + A 18 (nI t).toNatClampNeg - 1 = nI (8 * t + e) := by
      rw [ct, hd, rd_ix t (e + 1) 8 8 rfl]
      exact nI_pred (8 * t + e)
    have ce : (nI (8 * t + e)).toNatClampNeg = 8 * t + e := nI_clamp (by omega)
    refine br_f (by rw [ct, hd]; exact nI_nle (by omega) (by omega)) ⟨i8, ?_⟩
    rw [it, ce]
    refine ⟨vp_in_nI (by omega) (by omega), br_c (fun z => H1 e rfl z) (fun z => H0 (fun e' h => ?_))⟩
    have : e' = e := by omega
    rw [this]; exact z
theorem rd_y_isTop {post : Int32 → Prop} {A : rd_St} {rl : Int32} {ra qa wq am rz ob fr st : Nat → Int32} {bl : Int32} {t d : Nat} {k : Int32} (ht : t < 8) (hd : A 18 t = nI d) (h8 : d ≤ 8) (H1 : ∀ e, d = e + 1 → A 19 (8 * t + e) = k → post 1) (H0 : (∀ e, d = e + 1 → A 19 (8 * t + e) ≠ k) → post 0) : wpY_isTop post (rd_tY A rl ra qa wq am rz ob fr st bl) (nI t) k := by
  have ct : (nI t).toNatClampNeg = t := nI_clamp (by omega)
  have i8 : vp_in (nI t) 8 := vp_in_nI (by omega) (by omega)
  unfold wpY_isTop
  refine ⟨i8, ?_⟩
  cases d with
  | zero => exact br_t (by rw [ct, hd]; exact nI_le (a := 0) (b := 0) (Nat.le_refl _) (by omega)) (H0 (fun e h => by omega))
  | succ e =>
    have it : 8 * nI t + A 18 (nI t).toNatClampNeg - 1 = nI (8 * t + e) := by
      rw [ct, hd, rd_ix' t (e + 1) 8 8 rfl]
      exact nI_pred (8 * t + e)
    have ce : (nI (8 * t + e)).toNatClampNeg = 8 * t + e := nI_clamp (by omega)
    refine br_f (by rw [ct, hd]; exact nI_nle (by omega) (by omega)) ⟨i8, ?_⟩
    rw [it, ce]
    refine ⟨vp_in_nI (by omega) (by omega), br_c (fun z => H1 e rfl z) (fun z => H0 (fun e' h => ?_))⟩
    have : e' = e := by omega
    rw [this]; exact z
theorem rd_x_isThere {post : Int32 → Prop} {A : rd_St} {rl : Int32} {ra qa ql : Nat → Int32} {t n : Nat} (hN : rd_vN n (A 26)) (ht : t < 8) (H1 : t < n → A 4 t ≠ 7 → A 4 t ≠ 8 → post 1) (H0 : ¬ (t < n ∧ A 4 t ≠ 7 ∧ A 4 t ≠ 8) → post 0) : wpX_isThere post (rd_tX A rl ra qa ql) (nI t) := by
  have ct : (nI t).toNatClampNeg = t := nI_clamp (by omega)
  have i8 : vp_in (nI t) 8 := vp_in_nI (by omega) (by omega)
  have hn := hN.2
  unfold wpX_isThere
  by_cases h : t < n
  · refine br_f (by rw [hN.1]; exact nI_ge (by omega) (by omega)) ⟨i8, ?_⟩
    rw [ct]
    exact br_c (fun z => H0 (fun y => y.2.1 z)) (fun z => ⟨i8, br_c (fun y => H0 (fun x => x.2.2 y)) (fun y => H1 h z y)⟩)
  · exact br_t (by rw [hN.1]; exact nI_le (by omega) (by omega)) (H0 (fun y => h y.1))
def rd_note (A : rd_St) (c : Nat) (t v : Int32) : rd_St := if c < 60 then rd_sw (rd_sw (rd_sw A  21 c t)  22 c v)  25 0 (nI (c + 1)) else rd_sw A  25 0 (nI (c + 1))
theorem rd_x_note {post : SX → Prop} {A : rd_St} {rl : Int32} {ra qa ql : Nat → Int32} {c : Nat} {t v : Int32} (hc : A 25 0 = nI c) (h : c < 501) (H : post (rd_tX (rd_note A c t v) rl ra qa ql)) : wpX_note post (rd_tX A rl ra qa ql) t v := by
  have cc : (A 25 0).toNatClampNeg = c := by rw [hc]; exact nI_clamp (by omega)
  have c1 : A 25 0 + 1 = nI (c + 1) := by rw [hc, nI_1]
  unfold wpX_note
  unfold rd_note at H
  by_cases z : c < 60
  · rw [if_pos z] at H
    refine br_f (by rw [hc]; exact nI_ge (b := 60) (by omega) (by omega)) ⟨by rw [hc]; exact vp_in_nI z (by omega), nm_r (e' := upd (A 21) c t) (by rw [cc]) ⟨by rw [hc]; exact vp_in_nI z (by omega), nm_r (e' := upd (A 22) c v) (by rw [cc]) (nm_r c1 H)⟩⟩
  · rw [if_neg z] at H
    exact br_t (by rw [hc]; exact nI_le (a := 60) (by omega) (by omega)) (nm_r c1 H)
theorem rd_y_note {post : SY → Prop} {A : rd_St} {rl : Int32} {ra qa wq am rz ob fr st : Nat → Int32} {bl : Int32} {c : Nat} {t v : Int32} (hc : A 25 0 = nI c) (h : c < 501) (H : post (rd_tY (rd_note A c t v) rl ra qa wq am rz ob fr st bl)) : wpY_note post (rd_tY A rl ra qa wq am rz ob fr st bl) t v := by
  have cc : (A 25 0).toNatClampNeg = c := by rw [hc]; exact nI_clamp (by omega)
  have c1 : A 25 0 + 1 = nI (c + 1) := by rw [hc, nI_1]
  unfold wpY_note
  unfold rd_note at H
  by_cases z : c < 60
  · rw [if_pos z] at H
    refine br_f (by rw [hc]; exact nI_ge (b := 60) (by omega) (by omega)) ⟨by rw [hc]; exact vp_in_nI z (by omega), nm_r (e' := upd (A 21) c t) (by rw [cc]) ⟨by rw [hc]; exact vp_in_nI z (by omega), nm_r (e' := upd (A 22) c v) (by rw [cc]) (nm_r c1 H)⟩⟩
  · rw [if_neg z] at H
    exact br_t (by rw [hc]; exact nI_le (a := 60) (by omega) (by omega)) (nm_r c1 H)
theorem rd_x_wakeAfter {post : SX → Prop} {A : rd_St} {rl : Int32} {ra qa ql : Nat → Int32} {t : Nat} {s p : Int32} (ht : t < 8) (H : post (rd_tX (rd_sw (rd_sw A  16 t (A 27 0 + s))  17 t p) rl ra qa ql)) : wpX_wakeAfter post (rd_tX A rl ra qa ql) (nI t) s p := by
  have ct : (nI t).toNatClampNeg = t := nI_clamp (by omega)
  have i8 : vp_in (nI t) 8 := vp_in_nI (by omega) (by omega)
  unfold wpX_wakeAfter
  exact ⟨i8, nm_r (e' := upd (A 16) t (A 27 0 + s)) (by rw [ct]) ⟨i8, nm_r (e' := upd (A 17) t p) (by rw [ct]) H⟩⟩
theorem rd_y_push {post : SY → Prop} {A : rd_St} {rl : Int32} {ra qa wq am rz ob fr st : Nat → Int32} {bl : Int32} {t d : Nat} {k v : Int32} (ht : t < 8) (hd : A 18 t = nI d) (h8 : d < 8) (f : Int32) (H : post (rd_tY (rd_sw (rd_sw (rd_sw A  19 (8 * t + d) k)  20 (8 * t + d) f)  18 t (nI (d + 1))) rl ra qa wq am rz ob (upd fr (8 * t + d) v) st bl)) : wpY_push post (rd_tY A rl ra qa wq am rz ob fr st bl) (nI t) k v := by
  have ct : (nI t).toNatClampNeg = t := nI_clamp (by omega)
  have i8 : vp_in (nI t) 8 := vp_in_nI (by omega) (by omega)
  have it : 8 * nI t + A 18 (nI t).toNatClampNeg = nI (8 * t + d) := by
    rw [ct, hd, rd_ix' t d 8 8 rfl]
  have i64 : vp_in (nI (8 * t + d)) 64 := vp_in_nI (by omega) (by omega)
  have cd : (nI (8 * t + d)).toNatClampNeg = 8 * t + d := nI_clamp (by omega)
  unfold wpY_push
  refine ⟨i8, ?_⟩
  rw [it]
  refine ⟨i64, nm_r (e' := upd (A 19) (8 * t + d) k) (by rw [cd]) ⟨i8, ?_⟩⟩
  refine ⟨i64, nm_r (e' := upd fr (8 * t + d) v) (by rw [cd]) ⟨i8, i8, nm_r (e' := upd (A 18) t (nI (d + 1))) (by rw [ct, hd, nI_1]) H⟩⟩
theorem rd_YL_D {ex n D : Nat} {A : rd_St} {w : List Nat} {Q : Nat → List Nat} {ra qa wq am rz ob fr st : Nat → Int32} {bl : Int32} (h : rd_YL ex n D A w Q ra qa wq am rz ob fr st bl) : rd_YL ex n (D + 1) A w Q ra qa wq am rz ob fr st bl := by
  obtain ⟨b, b1, b2, b3⟩ := h.y6
  exact ⟨h.r, h.y2, h.y3, h.y4, h.y5, ⟨b, by omega, b2, b3⟩, h.y7, h.y8, h.y9, h.y10⟩
/-- a frame is put up: y5, y6, y7, y8 -/
theorem rd_push_old {n e E : Nat} {A : rd_St} {w : List Nat} {Q : Nat → List Nat} {t d : Nat} (I : rd_Inv n e E A w Q) (hd : A 18 t = nI d) (h8 : d < 8) : ∀ u, u < n → ∀ l, l < (upd (A 18) t (nI (d + 1)) u).toNatClampNeg → (u = t ∧ l = d) ∨ (l < (A 18 u).toNatClampNeg ∧ 8 * u + l ≠ 8 * t + d) := by
  intro u hu l hl
  by_cases y : u = t
  · subst y
    rw [rd_us, nI_clamp (by omega)] at hl
    by_cases z : l = d
    · exact Or.inl ⟨rfl, z⟩
    · refine Or.inr ⟨?_, by omega⟩
      rw [rd_cl hd (by omega)]; omega
  · rw [rd_un y] at hl
    obtain ⟨x, hx, e1, e2⟩ := rd_dpos I hu
    exact Or.inr ⟨hl, by omega⟩
/-- a frame is put up: what the reference's own arrays say of it -/
theorem rd_YL_push {ex n D e E : Nat} {A : rd_St} {w : List Nat} {Q : Nat → List Nat} {ra qa wq am rz ob fr st : Nat → Int32} {bl bl' : Int32} {t d : Nat} {k v f : Int32} (I : rd_Inv n e E A w Q) (ht : t < n) (hd : A 18 t = nI d) (h8 : d < 8) (hDD : D ≤ 500) (h : rd_YL ex n D A w Q ra qa wq am rz ob fr st bl) (hk : (k ≠ 0 ∧ v = f ∧ bl' = bl) ∨ (k = 0 ∧ v = bl ∧ bl' = bl + 1)) : rd_YL ex n (D + 1) (rd_sw (rd_sw (rd_sw A  19 (8 * t + d) k)  20 (8 * t + d) f)  18 t (nI (d + 1))) w Q ra qa wq am rz ob (upd fr (8 * t + d) v) st bl' := by
  have hn := I.vN.2
  have old := rd_push_old (n := n) (t := t) I hd h8
  obtain ⟨b, b1, b2, b3⟩ := h.y6
  refine ⟨h.r, h.y2, h.y3, h.y4, ?_, ?_, ?_, ?_, h.y9, h.y10⟩
  · intro u hu l hl
    show upd (A 19) (8 * t + d) k (8 * u + l) ≠ 0 → upd fr (8 * t + d) v (8 * u + l) = upd (A 20) (8 * t + d) f (8 * u + l)
    rcases old u hu l hl with ⟨y, z⟩ | ⟨y, z⟩
    · subst y; subst z
      rw [rd_us, rd_us, rd_us]
      intro k0
      rcases hk with q | q
      · exact q.2.1
      · exact absurd q.1 k0
    · rw [rd_un z, rd_un z, rd_un z]; exact h.y5 u hu l y
  · rcases hk with q | q
    · refine ⟨b, by omega, by rw [q.2.2]; exact b2, ?_⟩
      intro u hu l hl
      show upd (A 19) (8 * t + d) k (8 * u + l) = 0 → ∃ x, x < b ∧ upd fr (8 * t + d) v (8 * u + l) = nI x
      rcases old u hu l hl with ⟨y, z⟩ | ⟨y, z⟩
      · subst y; subst z
        rw [rd_us]
        intro k0
        exact absurd k0 q.1
      · rw [rd_un z, rd_un z]; exact b3 u hu l y
    · refine ⟨b + 1, by omega, by rw [q.2.2, b2, nI_1], ?_⟩
      intro u hu l hl
      show upd (A 19) (8 * t + d) k (8 * u + l) = 0 → ∃ x, x < b + 1 ∧ upd fr (8 * t + d) v (8 * u + l) = nI x
      rcases old u hu l hl with ⟨y, z⟩ | ⟨y, z⟩
      · subst y; subst z
        rw [rd_us, rd_us]
        intro _
        exact ⟨b, by omega, q.2.1.trans b2⟩
      · rw [rd_un z, rd_un z]
        intro k0
        obtain ⟨x, x1, x2⟩ := b3 u hu l y k0
        exact ⟨x, by omega, x2⟩
  · intro u hu l hl m hm
    show upd (A 19) (8 * t + d) k (8 * u + l) = 0 → upd (A 19) (8 * t + d) k (8 * u + m) = 0 → upd fr (8 * t + d) v (8 * u + l) = upd fr (8 * t + d) v (8 * u + m) → l = m
    have new : ∀ l', l' < (A 18 t).toNatClampNeg → A 19 (8 * t + l') = 0 → k = 0 → v ≠ fr (8 * t + l') := by
      intro l' hl' f0 k0 ev
      rcases hk with q | q
      · exact q.1 k0
      · obtain ⟨x, x1, x2⟩ := b3 t ht l' hl' f0
        rw [q.2.1, b2, x2] at ev
        have := rd_inj (by omega) (by omega) ev
        omega
    rcases old u hu l hl with ⟨y, z⟩ | ⟨y, z⟩
    · rcases old u hu m hm with ⟨y', z'⟩ | ⟨y', z'⟩
      · intro _ _ _; omega
      · subst y; subst z
        rw [rd_us, rd_us, rd_un z', rd_un z']
        intro k0 f0 ev
        exact absurd ev (new m y' f0 k0)
    · rcases old u hu m hm with ⟨y', z'⟩ | ⟨y', z'⟩
      · subst y'; subst z'
        rw [rd_us, rd_us, rd_un z, rd_un z]
        intro f0 k0 ev
        exact absurd ev.symm (new l y f0 k0)
      · rw [rd_un z, rd_un z, rd_un z', rd_un z']
        exact h.y7 u hu l y m y'
  · intro u hu hc
    obtain ⟨a1, a2⟩ := h.y8 u hu hc
    refine ⟨a1, fun m hm em => ?_⟩
    obtain ⟨c1, c2, c3⟩ := a2 m hm em
    refine ⟨c1, c2, fun m9 l hl el => ?_⟩
    have := c3 m9 l hl el
    rw [rd_un]
    · exact this
    · intro z
      have e1 : m = t ∧ l = d := by omega
      rcases I.vB u hu hc with y | ⟨m', l', hm', f1, f2, f3, f4⟩
      · have el : A 10 u = nI l := el
        exact absurd (el.symm.trans y) (rd_nm (by omega))
      · have em : A 9 u = nI m := em
        have el : A 10 u = nI l := el
        have g1 : m' = m := rd_inj (by omega) (by omega) (f1.symm.trans em)
        obtain ⟨x, hx, gx, gy⟩ := rd_dpos I hm'
        have g2 : l' = l := rd_inj (by omega) (by omega) (f2.symm.trans el)
        rw [g1, e1.1, rd_cl hd (by omega), g2, e1.2] at f3
        omega
end
section
/-! what an instruction does, on both sides -/
def rd_G (n m t : Nat) (A B : rd_St) (w x : List Nat) : Prop := n ≤ m ∧ B 28 = A 28 ∧ B 30 = A 30 ∧ B 31 = A 31 ∧ B 29 = A 29 ∧ (∀ s, s < m → B 4 s ≠ 9) ∧ (B 4 t = 0 → (w.head? = some t → x.head? = some t))
def rd_PX (t p : Nat) (op a b : Int32) (A B : rd_St) (w x : List Nat) (Q R : Nat → List Nat) : Prop := ∀ (post : SX → Prop) (ra qa ql : Nat → Int32), rd_XL w Q ra qa ql → (∀ u', rd_RX B x R u' → post u') → wX_perform_119 post (nI t) (nI (p + 1)) op a b (nI w.length) (A 25 0) (A 26 0) (A 27 0) (A 28 0) (A 29 0) (A 30 0) (A 31 0) (A 0) (A 1) (A 2) (A 3) (A 4) (A 5) (A 6) (A 7) (A 8) (A 9) (A 10) (A 11) (A 12) (A 13) (A 14) (A 15) (A 16) (A 17) (A 18) (A 19) (A 20) qa ql ra (A 21) (A 22) (A 32) (A 23)
def rd_PY (n D m t : Nat) (op a b : Int32) (A B : rd_St) (w x : List Nat) (Q R : Nat → List Nat) : Prop := ∀ (post : SY → Prop) (ra qa wq am rz ob fr st : Nat → Int32) (bl : Int32), rd_YL 8 n D A w Q ra qa wq am rz ob fr st bl → (∀ v', rd_RY 8 m (D + 1) B x R v' → post v') → wpY_step post (rd_tY A (nI w.length) ra qa wq am rz ob fr st bl) (nI t) op a b
def rd_O1 (n D t p : Nat) (op a b a' b' : Int32) (A : rd_St) (w : List Nat) (Q : Nat → List Nat) : Prop := ∃ m B x R, rd_Inv m 8 (D + 1) B x R ∧ rd_G n m t A B w x ∧ (B 4 t = 0 → B 12 t = 0) ∧ rd_PX t p op a b A B w x Q R ∧ rd_PY n D m t op a' b' A B w x Q R
def rd_O2 (n D t p : Nat) (op a b a' b' : Int32) (A : rd_St) (w : List Nat) (Q : Nat → List Nat) : Prop := ∃ c B x R, 0 < c ∧ c ≤ 14 ∧ rd_Inv n 8 (D + 1) (rd_sw A  12 t (nI c)) w Q ∧ rd_Inv n 8 (D + 1) B x R ∧ rd_RS n t (rd_sw A  12 t (nI c)) B w x ∧ rd_PX t p op a b A (rd_sw A  12 t (nI c)) w w Q Q ∧ (∀ (post : SX → Prop) (u : SX), rd_RX (rd_sw A  12 t (nI c)) w Q u → (∀ u', rd_RX B x R u' → post u') → wpX_raise post u (nI t)) ∧ rd_PY n D n t op a' b' A B w x Q R
def rd_C (n D t p b : Nat) (A : rd_St) (w : List Nat) (Q : Nat → List Nat) : Prop := rd_Inv n 8 (D + 1) A w Q ∧ t < n ∧ A 4 t = 0 ∧ A 12 t = 0 ∧ (∀ s, s < n → A 4 s ≠ 9) ∧ A 5 t = nI p ∧ p ≤ 21 ∧ A 8 t = nI b ∧ b < 4 ∧ D < 500 ∧ (∃ T, T ≤ 99 * D ∧ A 27 0 = nI T) ∧ (∃ c, c ≤ D ∧ A 25 0 = nI c)
theorem rd_Gr {n t : Nat} {A B : rd_St} {w : List Nat} (h1 : B 28 = A 28) (h2 : B 30 = A 30) (h3 : B 31 = A 31) (h4 : B 29 = A 29) (h5 : ∀ s, s < n → B 4 s ≠ 9) : rd_G n n t A B w w := ⟨Nat.le_refl _, h1, h2, h3, h4, h5, fun _ => id⟩
theorem rd_mkO2y {n D t p b' : Nat} {op a b c' e' : Int32} {A : rd_St} {w : List Nat} {Q : Nat → List Nat} (C : rd_C n D t p b' A w Q) (c : Nat) (hc0 : 0 < c) (hc : c ≤ 14) (X : ∀ (post : SX → Prop) (ra qa ql : Nat → Int32), rd_XL w Q ra qa ql → (wpX_fail (fun r u => match u with | (f_rowLength_1, f_noteCount_1, f_tasks_1, f_time_1, f_done_1, f_turns_1, f_doneInTurn_1, f_inTurn_1, a_ops_1, a_firsts_1, a_seconds_1, a_lengths_1, a_condition_1, a_place_1, a_xs_1, a_ended_1, a_bodyOf_1, a_master_1, a_masterBlock_1, a_limits_1, a_pending_1, a_doomed_1, a_terminable_1, a_calledQueue_1, a_wakeTime_1, a_wakePlace_1, a_depth_1, a_frameKind_1, a_frameValue_1, a_queue_1, a_queueLength_1, a_row_1, a_noteTask_1, a_noteValue_1, a_fallen_1, a_chosen_1) => (vp_in (nI t) 8 ∧ ∀ y, y = upd a_place_1 (nI t).toNatClampNeg r → post (f_rowLength_1, f_noteCount_1, f_tasks_1, f_time_1, f_done_1, f_turns_1, f_doneInTurn_1, f_inTurn_1, a_ops_1, a_firsts_1, a_seconds_1, a_lengths_1, a_condition_1, y, a_xs_1, a_ended_1, a_bodyOf_1, a_master_1, a_masterBlock_1, a_limits_1, a_pending_1, a_doomed_1, a_terminable_1, a_calledQueue_1, a_wakeTime_1, a_wakePlace_1, a_depth_1, a_frameKind_1, a_frameValue_1, a_queue_1, a_queueLength_1, a_row_1, a_noteTask_1, a_noteValue_1, a_fallen_1, a_chosen_1))) (rd_tX A (nI w.length) ra qa ql) (nI t) (nI c)) → wX_perform_119 post (nI t) (nI (p + 1)) op a b (nI w.length) (A 25 0) (A 26 0) (A 27 0) (A 28 0) (A 29 0) (A 30 0) (A 31 0) (A 0) (A 1) (A 2) (A 3) (A 4) (A 5) (A 6) (A 7) (A 8) (A 9) (A 10) (A 11) (A 12) (A 13) (A 14) (A 15) (A 16) (A 17) (A 18) (A 19) (A 20) qa ql ra (A 21) (A 22) (A 32) (A 23)) (Y : ∀ (post : SY → Prop) (ra qa wq am rz ob fr st : Nat → Int32) (bl : Int32), rd_YL 8 n D A w Q ra qa wq am rz ob fr st bl → wpY_raise (fun u => match u with | (f_tasks_1, f_blocks_1, f_readies_1, f_time_1, f_done_1, f_turns_1, f_notes_1, a_length_1, a_ops_1, a_as_1, a_bs_1, a_states_1, a_places_1, a_xs_1, a_limits_1, a_bodies_1, a_ends_1, a_raised_1, a_until_1, a_high_1, a_kinds_1, a_frames_1, a_on_1, a_onBlock_1, a_doomed_1, a_queues_1, a_waiting_1, a_row_1, a_dying_1, a_among_1, a_noteTask_1, a_noteInt_1) => post (f_tasks_1, f_blocks_1, f_readies_1, f_time_1, f_done_1, f_turns_1, f_notes_1, a_length_1, a_ops_1, a_as_1, a_bs_1, a_states_1, a_places_1, a_xs_1, a_limits_1, a_bodies_1, a_ends_1, a_raised_1, a_until_1, a_high_1, a_kinds_1, a_frames_1, a_on_1, a_onBlock_1, a_doomed_1, a_queues_1, a_waiting_1, a_row_1, a_dying_1, a_among_1, a_noteTask_1, a_noteInt_1)) (rd_tY A (nI w.length) ra qa wq am rz ob fr st bl) (nI t) (nI c) → wpY_step post (rd_tY A (nI w.length) ra qa wq am rz ob fr st bl) (nI t) op c' e') : rd_O2 n D t p op a b c' e' A w Q := by
  obtain ⟨I, ht, h0, hp, n9, epl, hpl, ebo, hbo, hD, hT, hN⟩ := C
  have hn := I.vN.2
  have ct : (nI t).toNatClampNeg = t := nI_clamp (by omega)
  have i8 : vp_in (nI t) 8 := vp_in_nI (by omega) (by omega)
  have I' := rd_i_pe (c := c) I ht hc (Or.inl h0)
  obtain ⟨B, x, R, J, S, X1, Y1⟩ := rd_raise hc0 hc I' ht h0 rd_us n9
  refine ⟨c, B, x, R, hc0, hc, I', J, S, ?_, X1, ?_⟩
  · intro post ra qa ql hx H
    refine X post ra qa ql hx (rd_x_fail (by omega) ⟨i8, nm_r (e' := A 5) (by rw [ct]; exact rd_ue rfl) ?_⟩)
    exact H _ (rd_RX_mk (A := rd_sw A  12 t (nI c)) hx)
  · intro post ra qa wq am rz ob fr st bl hy H
    refine Y post ra qa wq am rz ob fr st bl hy ?_
    have hy1 := rd_YL_D hy
    refine Y1 _ ra qa wq am rz ob fr st bl ⟨t, Or.inl rfl, hy1.r, hy1.y2, hy1.y3, ?_, hy1.y5, hy1.y6, hy1.y7, hy1.y8, hy1.y9, hy1.y10⟩ ?_
    · intro u hu a' b' c'
      show rz u = if u = t then 0 else upd (A 12) t (nI c) u
      have z := rd_y4_n hy1.y4 hu (by omega) a' b' c'
      by_cases e : u = t
      · rw [if_pos e, z, e]; exact hp
      · rw [if_neg e, rd_un e]; exact z
    · rintro v' ⟨ra1, qa1, wq1, am1, rz1, ob1, fr1, st1, bl1, rfl, hy2⟩
      exact H _ (rd_RY_mk hy2)
theorem rd_mkO2 {n D t p b' : Nat} {op a b c' e' : Int32} {A : rd_St} {w : List Nat} {Q : Nat → List Nat} (C : rd_C n D t p b' A w Q) (c : Nat) (hc0 : 0 < c) (hc : c ≤ 14) (X : ∀ (post : SX → Prop) (ra qa ql : Nat → Int32), (wpX_fail (fun r u => match u with | (f_rowLength_1, f_noteCount_1, f_tasks_1, f_time_1, f_done_1, f_turns_1, f_doneInTurn_1, f_inTurn_1, a_ops_1, a_firsts_1, a_seconds_1, a_lengths_1, a_condition_1, a_place_1, a_xs_1, a_ended_1, a_bodyOf_1, a_master_1, a_masterBlock_1, a_limits_1, a_pending_1, a_doomed_1, a_terminable_1, a_calledQueue_1, a_wakeTime_1, a_wakePlace_1, a_depth_1, a_frameKind_1, a_frameValue_1, a_queue_1, a_queueLength_1, a_row_1, a_noteTask_1, a_noteValue_1, a_fallen_1, a_chosen_1) => (vp_in (nI t) 8 ∧ ∀ y, y = upd a_place_1 (nI t).toNatClampNeg r → post (f_rowLength_1, f_noteCount_1, f_tasks_1, f_time_1, f_done_1, f_turns_1, f_doneInTurn_1, f_inTurn_1, a_ops_1, a_firsts_1, a_seconds_1, a_lengths_1, a_condition_1, y, a_xs_1, a_ended_1, a_bodyOf_1, a_master_1, a_masterBlock_1, a_limits_1, a_pending_1, a_doomed_1, a_terminable_1, a_calledQueue_1, a_wakeTime_1, a_wakePlace_1, a_depth_1, a_frameKind_1, a_frameValue_1, a_queue_1, a_queueLength_1, a_row_1, a_noteTask_1, a_noteValue_1, a_fallen_1, a_chosen_1))) (rd_tX A (nI w.length) ra qa ql) (nI t) (nI c)) → wX_perform_119 post (nI t) (nI (p + 1)) op a b (nI w.length) (A 25 0) (A 26 0) (A 27 0) (A 28 0) (A 29 0) (A 30 0) (A 31 0) (A 0) (A 1) (A 2) (A 3) (A 4) (A 5) (A 6) (A 7) (A 8) (A 9) (A 10) (A 11) (A 12) (A 13) (A 14) (A 15) (A 16) (A 17) (A 18) (A 19) (A 20) qa ql ra (A 21) (A 22) (A 32) (A 23)) (Y : ∀ (post : SY → Prop) (ra qa wq am rz ob fr st : Nat → Int32) (bl : Int32), wpY_raise (fun u => match u with | (f_tasks_1, f_blocks_1, f_readies_1, f_time_1, f_done_1, f_turns_1, f_notes_1, a_length_1, a_ops_1, a_as_1, a_bs_1, a_states_1, a_places_1, a_xs_1, a_limits_1, a_bodies_1, a_ends_1, a_raised_1, a_until_1, a_high_1, a_kinds_1, a_frames_1, a_on_1, a_onBlock_1, a_doomed_1, a_queues_1, a_waiting_1, a_row_1, a_dying_1, a_among_1, a_noteTask_1, a_noteInt_1) => post (f_tasks_1, f_blocks_1, f_readies_1, f_time_1, f_done_1, f_turns_1, f_notes_1, a_length_1, a_ops_1, a_as_1, a_bs_1, a_states_1, a_places_1, a_xs_1, a_limits_1, a_bodies_1, a_ends_1, a_raised_1, a_until_1, a_high_1, a_kinds_1, a_frames_1, a_on_1, a_onBlock_1, a_doomed_1, a_queues_1, a_waiting_1, a_row_1, a_dying_1, a_among_1, a_noteTask_1, a_noteInt_1)) (rd_tY A (nI w.length) ra qa wq am rz ob fr st bl) (nI t) (nI c) → wpY_step post (rd_tY A (nI w.length) ra qa wq am rz ob fr st bl) (nI t) op c' e') : rd_O2 n D t p op a b c' e' A w Q :=
  rd_mkO2y C c hc0 hc (fun post ra qa ql _ H => X post ra qa ql H) (fun post ra qa wq am rz ob fr st bl _ H => Y post ra qa wq am rz ob fr st bl H)
section
variable {post : SY → Prop} {A : rd_St} {rl : Int32} {ra qa wq am rz ob fr st : Nat → Int32} {bl : Int32} {t p d : Nat} {op a b : Int32}
theorem rd_y_st127 (hf : d < 8 ∨ (op ≠ 7 ∧ op ≠ 13 ∧ op ≠ 15 ∧ op ≠ 22)) (z : Int32) (hz : z = 1 → d = 8) (P : wY_step_127 post (nI t) op a b (nI p) 0 (A 26 0) bl rl (A 27 0) (A 28 0) (A 29 0) (A 25 0) (A 3) (A 0) (A 1) (A 2) st (A 5) (A 6) (A 11) (A 8) (A 7) rz (A 16) (A 18) (A 19) fr (A 9) ob (A 13) qa wq ra (A 33) am (A 21) (A 22)) (hz' : z = 0 ∨ z = 1) : wY_step_91 post (nI t) op a b (nI p) z 0 (A 26 0) bl rl (A 27 0) (A 28 0) (A 29 0) (A 25 0) (A 3) (A 0) (A 1) (A 2) st (A 5) (A 6) (A 11) (A 8) (A 7) rz (A 16) (A 18) (A 19) fr (A 9) ob (A 13) qa wq ra (A 33) am (A 21) (A 22) := by
  rcases hz' with e | e
  · subst e
    exact br_t rfl (br_t rfl P)
  · subst e
    have := hz rfl
    rcases hf with q | ⟨q1, q2, q3, q4⟩
    · omega
    · exact br_t rfl (br_f (by decide) (br_f q1 (br_f q2 (br_f q3 (br_f q4 P)))))
/-- the way of the reference's step to its switch -/
theorem rd_y_st (ht : t < 8) (hp : A 5 t = nI p) (hd : A 18 t = nI d) (h8 : d ≤ 8) (k8 : op ≠ 8) (k14 : op ≠ 14) (k23 : op ≠ 23) (k25 : op ≠ 25) (k6 : op ≠ 6) (hf : d < 8 ∨ (op ≠ 7 ∧ op ≠ 13 ∧ op ≠ 15 ∧ op ≠ 22)) (P : wY_step_160 post (nI t) op a b (nI p) (A 26 0) bl rl (A 27 0) (A 28 0) (A 29 0) (A 25 0) (A 3) (A 0) (A 1) (A 2) st (A 5) (A 6) (A 11) (A 8) (A 7) rz (A 16) (A 18) (A 19) fr (A 9) ob (A 13) qa wq ra (A 33) am (A 21) (A 22)) : wpY_step post (rd_tY A rl ra qa wq am rz ob fr st bl) (nI t) op a b := by
  have ct : (nI t).toNatClampNeg = t := nI_clamp (by omega)
  have i8 : vp_in (nI t) 8 := vp_in_nI (by omega) (by omega)
  have G : ∀ z : Int32, (z = 0 ∨ z = 1) → (z = 1 → d = 8) → wY_step_24 post (nI t) op a b (nI p) z (A 26 0) bl rl (A 27 0) (A 28 0) (A 29 0) (A 25 0) (A 3) (A 0) (A 1) (A 2) st (A 5) (A 6) (A 11) (A 8) (A 7) rz (A 16) (A 18) (A 19) fr (A 9) ob (A 13) qa wq ra (A 33) am (A 21) (A 22) := fun z h1 h2 =>
    br_f k8 (br_f k14 (br_f k23 (br_f k25 (rd_y_st127 hf z h2 (br_f k6 P) h1))))
  unfold wpY_step
  refine ⟨i8, nm_r (e' := nI p) (by rw [ct]; exact hp) ⟨i8, br_c (fun z => G 1 (Or.inr rfl) (fun _ => ?_)) (fun _ => G 0 (Or.inl rfl) (fun y => absurd y (by decide)))⟩⟩
  rw [ct, hd] at z
  exact rd_inj (by omega) (by omega) z
/-- a frame too many -/
theorem rd_y_stf (ht : t < 8) (hp : A 5 t = nI p) (hd : A 18 t = nI 8) (k8 : op ≠ 8) (k14 : op ≠ 14) (k23 : op ≠ 23) (k25 : op ≠ 25) (hf : op = 7 ∨ op = 13 ∨ op = 15 ∨ op = 22) (P : wpY_raise (fun u => match u with | (f_tasks_1, f_blocks_1, f_readies_1, f_time_1, f_done_1, f_turns_1, f_notes_1, a_length_1, a_ops_1, a_as_1, a_bs_1, a_states_1, a_places_1, a_xs_1, a_limits_1, a_bodies_1, a_ends_1, a_raised_1, a_until_1, a_high_1, a_kinds_1, a_frames_1, a_on_1, a_onBlock_1, a_doomed_1, a_queues_1, a_waiting_1, a_row_1, a_dying_1, a_among_1, a_noteTask_1, a_noteInt_1) => post (f_tasks_1, f_blocks_1, f_readies_1, f_time_1, f_done_1, f_turns_1, f_notes_1, a_length_1, a_ops_1, a_as_1, a_bs_1, a_states_1, a_places_1, a_xs_1, a_limits_1, a_bodies_1, a_ends_1, a_raised_1, a_until_1, a_high_1, a_kinds_1, a_frames_1, a_on_1, a_onBlock_1, a_doomed_1, a_queues_1, a_waiting_1, a_row_1, a_dying_1, a_among_1, a_noteTask_1, a_noteInt_1)) (rd_tY A rl ra qa wq am rz ob fr st bl) (nI t) (nI 13)) : wpY_step post (rd_tY A rl ra qa wq am rz ob fr st bl) (nI t) op a b := by
  have ct : (nI t).toNatClampNeg = t := nI_clamp (by omega)
  have i8 : vp_in (nI t) 8 := vp_in_nI (by omega) (by omega)
  have P' : wY_step_142 post (nI t) 0 (A 26 0) bl rl (A 27 0) (A 28 0) (A 29 0) (A 25 0) (A 3) (A 0) (A 1) (A 2) st (A 5) (A 6) (A 11) (A 8) (A 7) rz (A 16) (A 18) (A 19) fr (A 9) ob (A 13) qa wq ra (A 33) am (A 21) (A 22) := br_t rfl P
  unfold wpY_step
  refine ⟨i8, nm_r (e' := nI p) (by rw [ct]; exact hp) ⟨i8, br_t (by rw [ct, hd]; rfl) (br_f k8 (br_f k14 (br_f k23 (br_f k25 (br_t rfl (br_f (by decide) (br_c (fun _ => P') (fun q7 => br_c (fun _ => P') (fun q13 => br_c (fun _ => P') (fun q15 => br_c (fun _ => P') (fun q22 => ?_)))))))))))⟩⟩
  rcases hf with e | e | e | e
  · exact absurd e q7
  · exact absurd e q13
  · exact absurd e q15
  · exact absurd e q22
end
end
section
/-! the plain instructions -/
section
variable {n D t p b' d : Nat} {a b : Int32} {A : rd_St} {w : List Nat} {Q : Nat → List Nat}
/-- an instruction that changes the bundle alike on both sides and goes on at q -/
theorem rd_o_ply {op : Int32} {q : Nat} (C : rd_C n D t p b' A w Q) (B : rd_St) (hq : q ≤ 21) (J : rd_Inv n 8 (D + 1) B w Q) (hB : B 28 = A 28 ∧ B 30 = A 30 ∧ B 31 = A 31 ∧ B 29 = A 29 ∧ B 4 = A 4 ∧ B 12 = A 12 ∧ B 18 = A 18 ∧ B 19 = A 19 ∧ B 20 = A 20 ∧ B 9 = A 9 ∧ B 10 = A 10 ∧ B 34 = A 34 ∧ B 24 = A 24) (X : ∀ (post : SX → Prop) (ra qa ql : Nat → Int32), rd_XL w Q ra qa ql → post (rd_tX (rd_sw B  5 t (nI q)) (nI w.length) ra qa ql) → wX_perform_119 post (nI t) (nI (p + 1)) op a b (nI w.length) (A 25 0) (A 26 0) (A 27 0) (A 28 0) (A 29 0) (A 30 0) (A 31 0) (A 0) (A 1) (A 2) (A 3) (A 4) (A 5) (A 6) (A 7) (A 8) (A 9) (A 10) (A 11) (A 12) (A 13) (A 14) (A 15) (A 16) (A 17) (A 18) (A 19) (A 20) qa ql ra (A 21) (A 22) (A 32) (A 23)) (Y : ∀ (post : SY → Prop) (ra qa wq am rz ob fr st : Nat → Int32) (bl : Int32), rd_YL 8 n D A w Q ra qa wq am rz ob fr st bl → post (rd_tY (rd_sw B  5 t (nI q)) (nI w.length) ra qa wq am rz ob fr st bl) → wpY_step post (rd_tY A (nI w.length) ra qa wq am rz ob fr st bl) (nI t) op a b) : rd_O1 n D t p op a b a b A w Q := by
  obtain ⟨I, ht, h0, hp, n9, epl, hpl, ebo, hbo, hD, hT, hN⟩ := C
  obtain ⟨e1, e2, e3, e4, e5, e6, e7, e8, e9, e10, e11, e12, e13⟩ := hB
  refine ⟨n, rd_sw B  5 t (nI q), w, Q, rd_i_pl J ht hq (Or.inl (by rw [e5]; exact h0)), rd_Gr e1 e2 e3 e4 (fun s hs => ?_), fun _ => ?_, ?_, ?_⟩
  · show B 4 s ≠ 9
    rw [e5]; exact n9 s hs
  · show B 12 t = 0
    rw [e6]; exact hp
  · intro post ra qa ql hx H
    exact X post ra qa ql hx (H _ (rd_RX_mk hx))
  · intro post ra qa wq am rz ob fr st bl hy H
    refine Y post ra qa wq am rz ob fr st bl hy (H _ (rd_RY_mk ?_))
    have hy := rd_YL_D hy
    refine ⟨hy.r, hy.y2, hy.y3, ?_, ?_, ?_, ?_, ?_, ?_, ?_⟩
    · show rd_y4 8 n (B 4) (B 12) rz
      rw [e5, e6]; exact hy.y4
    · show rd_y5 n (B 18) (B 19) (B 20) fr
      rw [e7, e8, e9]; exact hy.y5
    · show rd_y6 n (D + 1) (B 18) (B 19) fr bl
      rw [e7, e8]; exact hy.y6
    · show rd_y7 n (B 18) (B 19) fr
      rw [e7, e8]; exact hy.y7
    · show rd_y8 n (B 9) (B 10) (B 4) ob fr
      rw [e10, e11, e5]; exact hy.y8
    · show rd_y9 (B 4) st
      rw [e5]; exact hy.y9
    · show rd_y10 (B 34) (B 24) am
      rw [e12, e13]; exact hy.y10
theorem rd_o_pl {op : Int32} {q : Nat} (C : rd_C n D t p b' A w Q) (B : rd_St) (hq : q ≤ 21) (J : rd_Inv n 8 (D + 1) B w Q) (hB : B 28 = A 28 ∧ B 30 = A 30 ∧ B 31 = A 31 ∧ B 29 = A 29 ∧ B 4 = A 4 ∧ B 12 = A 12 ∧ B 18 = A 18 ∧ B 19 = A 19 ∧ B 20 = A 20 ∧ B 9 = A 9 ∧ B 10 = A 10 ∧ B 34 = A 34 ∧ B 24 = A 24) (X : ∀ (post : SX → Prop) (ra qa ql : Nat → Int32), post (rd_tX (rd_sw B  5 t (nI q)) (nI w.length) ra qa ql) → wX_perform_119 post (nI t) (nI (p + 1)) op a b (nI w.length) (A 25 0) (A 26 0) (A 27 0) (A 28 0) (A 29 0) (A 30 0) (A 31 0) (A 0) (A 1) (A 2) (A 3) (A 4) (A 5) (A 6) (A 7) (A 8) (A 9) (A 10) (A 11) (A 12) (A 13) (A 14) (A 15) (A 16) (A 17) (A 18) (A 19) (A 20) qa ql ra (A 21) (A 22) (A 32) (A 23)) (Y : ∀ (post : SY → Prop) (ra qa wq am rz ob fr st : Nat → Int32) (bl : Int32), post (rd_tY (rd_sw B  5 t (nI q)) (nI w.length) ra qa wq am rz ob fr st bl) → wpY_step post (rd_tY A (nI w.length) ra qa wq am rz ob fr st bl) (nI t) op a b) : rd_O1 n D t p op a b a b A w Q :=
  rd_o_ply C B hq J hB (fun post ra qa ql _ H => X post ra qa ql H) (fun post ra qa wq am rz ob fr st bl _ H => Y post ra qa wq am rz ob fr st bl H)
theorem rd_note_k {A : rd_St} {c k : Nat} {x v : Int32} (h1 : k ≠  21) (h2 : k ≠  22) (h3 : k ≠  25) : rd_note A c x v k = A k := by
  unfold rd_note
  by_cases z : c < 60
  · rw [if_pos z, rd_sw_ap, if_neg h3, rd_sw_ap, if_neg h2, rd_sw_ap, if_neg h1]
  · rw [if_neg z, rd_sw_ap, if_neg h3]
theorem rd_i_note {e c : Nat} {x v : Int32} (I : rd_Inv n e (D + 1) A w Q) (hc : c ≤ D) : rd_Inv n e (D + 1) (rd_note A c x v) w Q := by
  unfold rd_note
  by_cases z : c < 60
  · rw [if_pos z]
    exact rd_i_nc (A := rd_sw (rd_sw A  21 c x)  22 c v) I (by omega)
  · rw [if_neg z]
    exact rd_i_nc I (by omega)
theorem rd_noteB {c : Nat} {x v : Int32} : (rd_note A c x v) 28 = A 28 ∧ (rd_note A c x v) 30 = A 30 ∧ (rd_note A c x v) 31 = A 31 ∧ (rd_note A c x v) 29 = A 29 ∧ (rd_note A c x v) 4 = A 4 ∧ (rd_note A c x v) 12 = A 12 ∧ (rd_note A c x v) 18 = A 18 ∧ (rd_note A c x v) 19 = A 19 ∧ (rd_note A c x v) 20 = A 20 ∧ (rd_note A c x v) 9 = A 9 ∧ (rd_note A c x v) 10 = A 10 ∧ (rd_note A c x v) 34 = A 34 ∧ (rd_note A c x v) 24 = A 24 := by
  refine ⟨?_, ?_, ?_, ?_, ?_, ?_, ?_, ?_, ?_, ?_, ?_, ?_, ?_⟩ <;> exact rd_note_k (by decide) (by decide) (by decide)
theorem rd_op0 (C : rd_C n D t p b' A w Q) (hp20 : p < 20) : rd_O1 n D t p 0 a b a b A w Q := by
  obtain ⟨I, ht, h0, hp, n9, epl, hpl, ebo, hbo, hD, hT, c, hc, ec⟩ := id C
  have hn := I.vN.2
  have ct : (nI t).toNatClampNeg = t := nI_clamp (by omega)
  have i8 : vp_in (nI t) 8 := vp_in_nI (by omega) (by omega)
  obtain ⟨d, hd, ed, _⟩ := rd_dpos I ht
  have epl' : (rd_note A c (nI t) a) 5 = A 5 := rd_note_k (by decide) (by decide) (by decide)
  refine rd_o_pl (q := p + 1) C (rd_note A c (nI t) a) (by omega) (rd_i_note I hc) rd_noteB ?_ ?_
  · intro post ra qa ql H
    exact br_f (by decide) <| br_f (by decide) <| br_t rfl <| rd_x_note ec (by omega) ⟨i8, nm_r (e' := upd ((rd_note A c (nI t) a) 5) t (nI (p + 1))) (by rw [ct]) H⟩
  · intro post ra qa wq am rz ob fr st bl H
    refine rd_y_st (d := d) (by omega) epl ed hd (by decide) (by decide) (by decide) (by decide) (by decide) (Or.inr (by decide)) ?_
    refine br_t (by decide) <| ?_
    refine br_f (by decide) <| br_f (by decide) <| br_t rfl <| rd_y_note ec (by omega) ?_
    exact br_f (by decide) ⟨i8, nm_r (e' := upd ((rd_note A c (nI t) a) 5) t (nI (p + 1))) (by rw [ct, nI_1]) H⟩
theorem rd_op1 (C : rd_C n D t p b' A w Q) (hp20 : p < 20) : rd_O1 n D t p 1 a b a b A w Q := by
  obtain ⟨I, ht, h0, hp, n9, epl, hpl, ebo, hbo, hD, hT, c, hc, ec⟩ := id C
  have hn := I.vN.2
  have ct : (nI t).toNatClampNeg = t := nI_clamp (by omega)
  have i8 : vp_in (nI t) 8 := vp_in_nI (by omega) (by omega)
  obtain ⟨d, hd, ed, _⟩ := rd_dpos I ht
  refine rd_o_pl (q := p + 1) C (rd_note A c (nI t) (A 6 t)) (by omega) (rd_i_note I hc) rd_noteB ?_ ?_
  · intro post ra qa ql H
    refine br_f (by decide) <| br_f (by decide) <| br_f (by decide) <| br_t rfl <| ⟨i8, ?_⟩
    rw [ct]
    exact rd_x_note ec (by omega) ⟨i8, nm_r (e' := upd ((rd_note A c (nI t) (A 6 t)) 5) t (nI (p + 1))) rfl H⟩
  · intro post ra qa wq am rz ob fr st bl H
    refine rd_y_st (d := d) (by omega) epl ed hd (by decide) (by decide) (by decide) (by decide) (by decide) (Or.inr (by decide)) ?_
    refine br_t (by decide) <| ?_
    refine br_f (by decide) <| br_f (by decide) <| br_f (by decide) <| br_t rfl <| ⟨i8, ?_⟩
    rw [ct]
    refine rd_y_note ec (by omega) ?_
    exact br_f (by decide) ⟨i8, nm_r (e' := upd ((rd_note A c (nI t) (A 6 t)) 5) t (nI (p + 1))) (by rw [ct, nI_1]) H⟩
theorem rd_op2 (C : rd_C n D t p b' A w Q) (hp20 : p < 20) : rd_O1 n D t p 2 a b a b A w Q := by
  obtain ⟨I, ht, h0, hp, n9, epl, hpl, ebo, hbo, hD, hT, hN⟩ := id C
  have hn := I.vN.2
  have ct : (nI t).toNatClampNeg = t := nI_clamp (by omega)
  have i8 : vp_in (nI t) 8 := vp_in_nI (by omega) (by omega)
  obtain ⟨d, hd, ed, _⟩ := rd_dpos I ht
  refine rd_o_pl (q := p + 1) C (rd_sw A  6 t a) (by omega) (rd_i_xs I) ⟨rfl, rfl, rfl, rfl, rfl, rfl, rfl, rfl, rfl, rfl, rfl, rfl, rfl⟩ ?_ ?_
  · intro post ra qa ql H
    exact br_f (by decide) <| br_f (by decide) <| br_f (by decide) <| br_f (by decide) <| br_t rfl <| ⟨i8, nm_r (e' := upd (A 6) t a) (by rw [ct]) ⟨i8, nm_r (e' := upd (A 5) t (nI (p + 1))) (by rw [ct]) H⟩⟩
  · intro post ra qa wq am rz ob fr st bl H
    refine rd_y_st (d := d) (by omega) epl ed hd (by decide) (by decide) (by decide) (by decide) (by decide) (Or.inr (by decide)) ?_
    refine br_t (by decide) <| ?_
    refine br_f (by decide) <| br_f (by decide) <| br_f (by decide) <| br_f (by decide) <| br_t rfl <| ⟨i8, nm_r (e' := upd (A 6) t a) (by rw [ct]) ?_⟩
    exact br_f (by decide) ⟨i8, nm_r (e' := upd (A 5) t (nI (p + 1))) (by rw [ct, nI_1]) H⟩
theorem rd_op3 (C : rd_C n D t p b' A w Q) (hp20 : p < 20) : rd_O1 n D t p 3 a b a b A w Q := by
  obtain ⟨I, ht, h0, hp, n9, epl, hpl, ebo, hbo, hD, hT, hN⟩ := id C
  have hn := I.vN.2
  have ct : (nI t).toNatClampNeg = t := nI_clamp (by omega)
  have i8 : vp_in (nI t) 8 := vp_in_nI (by omega) (by omega)
  obtain ⟨d, hd, ed, _⟩ := rd_dpos I ht
  refine rd_o_pl (q := p + 1) C (rd_sw A  6 t (A 6 t + a)) (by omega) (rd_i_xs I) ⟨rfl, rfl, rfl, rfl, rfl, rfl, rfl, rfl, rfl, rfl, rfl, rfl, rfl⟩ ?_ ?_
  · intro post ra qa ql H
    exact br_f (by decide) <| br_f (by decide) <| br_f (by decide) <| br_f (by decide) <| br_f (by decide) <| br_t rfl <| ⟨i8, i8, nm_r (e' := upd (A 6) t (A 6 t + a)) (by rw [ct]) ⟨i8, nm_r (e' := upd (A 5) t (nI (p + 1))) (by rw [ct]) H⟩⟩
  · intro post ra qa wq am rz ob fr st bl H
    refine rd_y_st (d := d) (by omega) epl ed hd (by decide) (by decide) (by decide) (by decide) (by decide) (Or.inr (by decide)) ?_
    refine br_t (by decide) <| ?_
    refine br_f (by decide) <| br_f (by decide) <| br_f (by decide) <| br_f (by decide) <| br_f (by decide) <| br_t rfl <| ⟨i8, i8, nm_r (e' := upd (A 6) t (A 6 t + a)) (by rw [ct]) ?_⟩
    exact br_f (by decide) ⟨i8, nm_r (e' := upd (A 5) t (nI (p + 1))) (by rw [ct, nI_1]) H⟩
theorem rd_op4 {j : Nat} (C : rd_C n D t p b' A w Q) (hj : j ≤ 20) (ea : a = nI j) : rd_O1 n D t p 4 a b a b A w Q := by
  obtain ⟨I, ht, h0, hp, n9, epl, hpl, ebo, hbo, hD, hT, hN⟩ := id C
  have hn := I.vN.2
  have ct : (nI t).toNatClampNeg = t := nI_clamp (by omega)
  have i8 : vp_in (nI t) 8 := vp_in_nI (by omega) (by omega)
  obtain ⟨d, hd, ed, _⟩ := rd_dpos I ht
  refine rd_o_pl (q := j) C A (by omega) I ⟨rfl, rfl, rfl, rfl, rfl, rfl, rfl, rfl, rfl, rfl, rfl, rfl, rfl⟩ ?_ ?_
  · intro post ra qa ql H
    exact br_f (by decide) <| br_f (by decide) <| br_f (by decide) <| br_f (by decide) <| br_f (by decide) <| br_f (by decide) <| br_t rfl <| ⟨i8, nm_r (e' := upd (A 5) t (nI j)) (by rw [ct, ea]) H⟩
  · intro post ra qa wq am rz ob fr st bl H
    refine rd_y_st (d := d) (by omega) epl ed hd (by decide) (by decide) (by decide) (by decide) (by decide) (Or.inr (by decide)) ?_
    exact br_f (by decide) <| br_f (by decide) <| br_t rfl <| ⟨i8, nm_r (e' := upd (A 5) t (nI j)) (by rw [ct, ea]) H⟩
theorem rd_op5 {j : Nat} (C : rd_C n D t p b' A w Q) (hp20 : p < 20) (hj : j ≤ 20) (ea : a = nI j) : rd_O1 n D t p 5 a b a b A w Q := by
  obtain ⟨I, ht, h0, hp, n9, epl, hpl, ebo, hbo, hD, hT, hN⟩ := id C
  have hn := I.vN.2
  have ct : (nI t).toNatClampNeg = t := nI_clamp (by omega)
  have i8 : vp_in (nI t) 8 := vp_in_nI (by omega) (by omega)
  obtain ⟨d, hd, ed, _⟩ := rd_dpos I ht
  by_cases hx : A 6 t = 0
  · refine rd_o_pl (q := j) C A (by omega) I ⟨rfl, rfl, rfl, rfl, rfl, rfl, rfl, rfl, rfl, rfl, rfl, rfl, rfl⟩ ?_ ?_
    · intro post ra qa ql H
      exact br_f (by decide) <| br_f (by decide) <| br_f (by decide) <| br_f (by decide) <| br_f (by decide) <| br_f (by decide) <| br_f (by decide) <| br_t rfl <| ⟨i8, br_t (by rw [ct]; exact hx) ⟨i8, nm_r (e' := upd (A 5) t (nI j)) (by rw [ct, ea]) H⟩⟩
    · intro post ra qa wq am rz ob fr st bl H
      refine rd_y_st (d := d) (by omega) epl ed hd (by decide) (by decide) (by decide) (by decide) (by decide) (Or.inr (by decide)) ?_
      refine br_f (by decide) <| br_f (by decide) <| br_f (by decide) <| br_t rfl <| ?_
      refine br_f (by decide) <| br_f (by decide) <| br_f (by decide) <| br_f (by decide) <| br_f (by decide) <| br_f (by decide) <| br_f (by decide) <| br_t rfl <| ?_
      exact br_t rfl ⟨i8, br_t (by rw [ct]; exact hx) ⟨i8, nm_r (e' := upd (A 5) t (nI j)) (by rw [ct, ea]) H⟩⟩
  · refine rd_o_pl (q := p + 1) C A (by omega) I ⟨rfl, rfl, rfl, rfl, rfl, rfl, rfl, rfl, rfl, rfl, rfl, rfl, rfl⟩ ?_ ?_
    · intro post ra qa ql H
      exact br_f (by decide) <| br_f (by decide) <| br_f (by decide) <| br_f (by decide) <| br_f (by decide) <| br_f (by decide) <| br_f (by decide) <| br_t rfl <| ⟨i8, br_f (by rw [ct]; exact hx) ⟨i8, nm_r (e' := upd (A 5) t (nI (p + 1))) (by rw [ct]) H⟩⟩
    · intro post ra qa wq am rz ob fr st bl H
      refine rd_y_st (d := d) (by omega) epl ed hd (by decide) (by decide) (by decide) (by decide) (by decide) (Or.inr (by decide)) ?_
      refine br_f (by decide) <| br_f (by decide) <| br_f (by decide) <| br_t rfl <| ?_
      refine br_f (by decide) <| br_f (by decide) <| br_f (by decide) <| br_f (by decide) <| br_f (by decide) <| br_f (by decide) <| br_f (by decide) <| br_t rfl <| ?_
      exact br_t rfl ⟨i8, br_f (by rw [ct]; exact hx) ⟨i8, nm_r (e' := upd (A 5) t (nI (p + 1))) (by rw [ct, nI_1]) H⟩⟩
theorem rd_op10 {j : Nat} (C : rd_C n D t p b' A w Q) (hp20 : p < 20) (hj : j < 100) (ea : a = nI j) : rd_O1 n D t p 10 a b a b A w Q := by
  obtain ⟨I, ht, h0, hp, n9, epl, hpl, ebo, hbo, hD, hT, hN⟩ := id C
  have hn := I.vN.2
  have ct : (nI t).toNatClampNeg = t := nI_clamp (by omega)
  have i8 : vp_in (nI t) 8 := vp_in_nI (by omega) (by omega)
  obtain ⟨d, hd, ed, _⟩ := rd_dpos I ht
  subst ea
  refine rd_o_pl (q := p + 1) C (rd_sw A  11 t (nI j)) (by omega) (rd_i_li I (by omega)) ⟨rfl, rfl, rfl, rfl, rfl, rfl, rfl, rfl, rfl, rfl, rfl, rfl, rfl⟩ ?_ ?_
  · intro post ra qa ql H
    exact br_f (by decide) <| br_f (by decide) <| br_f (by decide) <| br_f (by decide) <| br_f (by decide) <| br_f (by decide) <| br_f (by decide) <| br_f (by decide) <| br_f (by decide) <| br_f (by decide) <| br_f (by decide) <| br_f (by decide) <| br_t rfl <| ⟨i8, nm_r (e' := upd (A 11) t (nI j)) (by rw [ct]) ⟨i8, nm_r (e' := upd (A 5) t (nI (p + 1))) (by rw [ct]) H⟩⟩
  · intro post ra qa wq am rz ob fr st bl H
    refine rd_y_st (d := d) (by omega) epl ed hd (by decide) (by decide) (by decide) (by decide) (by decide) (Or.inr (by decide)) ?_
    refine br_f (by decide) <| br_f (by decide) <| br_f (by decide) <| br_f (by decide) <| br_f (by decide) <| br_f (by decide) <| br_f (by decide) <| br_f (by decide) <| br_t rfl <| ?_
    refine br_f (by decide) <| br_f (by decide) <| br_f (by decide) <| br_f (by decide) <| br_f (by decide) <| br_f (by decide) <| br_f (by decide) <| br_f (by decide) <| br_f (by decide) <| br_f (by decide) <| br_f (by decide) <| br_f (by decide) <| br_t rfl <| ⟨i8, nm_r (e' := upd (A 11) t (nI j)) (by rw [ct]) ?_⟩
    exact br_f (by decide) ⟨i8, nm_r (e' := upd (A 5) t (nI (p + 1))) (by rw [ct, nI_1]) H⟩
theorem rd_op16 (C : rd_C n D t p b' A w Q) (hp20 : p < 20) : rd_O1 n D t p 16 a b a b A w Q := by
  obtain ⟨I, ht, h0, hp, n9, epl, hpl, ebo, hbo, hD, hT, hN⟩ := id C
  have hn := I.vN.2
  have ct : (nI t).toNatClampNeg = t := nI_clamp (by omega)
  have i8 : vp_in (nI t) 8 := vp_in_nI (by omega) (by omega)
  obtain ⟨d, hd, ed, _⟩ := rd_dpos I ht
  refine rd_o_pl (q := p + 1) C A (by omega) I ⟨rfl, rfl, rfl, rfl, rfl, rfl, rfl, rfl, rfl, rfl, rfl, rfl, rfl⟩ ?_ ?_
  · intro post ra qa ql H
    exact br_f (by decide) <| br_f (by decide) <| br_f (by decide) <| br_f (by decide) <| br_f (by decide) <| br_f (by decide) <| br_f (by decide) <| br_f (by decide) <| br_f (by decide) <| br_f (by decide) <| br_f (by decide) <| br_f (by decide) <| br_f (by decide) <| br_f (by decide) <| br_f (by decide) <| br_f (by decide) <| br_f (by decide) <| br_f (by decide) <| br_t rfl <| ⟨i8, nm_r (e' := upd (A 5) t (nI (p + 1))) (by rw [ct]) H⟩
  · intro post ra qa wq am rz ob fr st bl H
    refine rd_y_st (d := d) (by omega) epl ed hd (by decide) (by decide) (by decide) (by decide) (by decide) (Or.inr (by decide)) ?_
    refine br_f (by decide) <| br_f (by decide) <| br_f (by decide) <| br_f (by decide) <| br_f (by decide) <| br_f (by decide) <| br_f (by decide) <| br_f (by decide) <| br_f (by decide) <| br_f (by decide) <| br_f (by decide) <| br_f (by decide) <| br_f (by decide) <| br_f (by decide) <| br_t rfl <| ?_
    refine br_f (by decide) <| br_f (by decide) <| br_f (by decide) <| br_f (by decide) <| br_f (by decide) <| br_f (by decide) <| br_f (by decide) <| br_f (by decide) <| br_f (by decide) <| br_f (by decide) <| br_f (by decide) <| br_f (by decide) <| br_f (by decide) <| br_f (by decide) <| br_f (by decide) <| br_f (by decide) <| br_f (by decide) <| br_f (by decide) <| br_t rfl <| ?_
    exact br_f (by decide) ⟨i8, nm_r (e' := upd (A 5) t (nI (p + 1))) (by rw [ct, nI_1]) H⟩
theorem rd_op17 (C : rd_C n D t p b' A w Q) (hp20 : p < 20) : rd_O1 n D t p 17 a b a b A w Q := by
  obtain ⟨I, ht, h0, hp, n9, epl, hpl, ebo, hbo, hD, hT, hN⟩ := id C
  have hn := I.vN.2
  have ct : (nI t).toNatClampNeg = t := nI_clamp (by omega)
  have i8 : vp_in (nI t) 8 := vp_in_nI (by omega) (by omega)
  obtain ⟨d, hd, ed, _⟩ := rd_dpos I ht
  refine rd_o_pl (q := p + 1) C A (by omega) I ⟨rfl, rfl, rfl, rfl, rfl, rfl, rfl, rfl, rfl, rfl, rfl, rfl, rfl⟩ ?_ ?_
  · intro post ra qa ql H
    exact br_f (by decide) <| br_f (by decide) <| br_f (by decide) <| br_f (by decide) <| br_f (by decide) <| br_f (by decide) <| br_f (by decide) <| br_f (by decide) <| br_f (by decide) <| br_f (by decide) <| br_f (by decide) <| br_f (by decide) <| br_f (by decide) <| br_f (by decide) <| br_f (by decide) <| br_f (by decide) <| br_f (by decide) <| br_f (by decide) <| br_f (by decide) <| br_t rfl <| ⟨i8, nm_r (e' := upd (A 5) t (nI (p + 1))) (by rw [ct]) H⟩
  · intro post ra qa wq am rz ob fr st bl H
    refine rd_y_st (d := d) (by omega) epl ed hd (by decide) (by decide) (by decide) (by decide) (by decide) (Or.inr (by decide)) ?_
    refine br_f (by decide) <| br_f (by decide) <| br_f (by decide) <| br_f (by decide) <| br_f (by decide) <| br_f (by decide) <| br_f (by decide) <| br_f (by decide) <| br_f (by decide) <| br_f (by decide) <| br_f (by decide) <| br_f (by decide) <| br_f (by decide) <| br_f (by decide) <| br_f (by decide) <| br_t rfl <| ?_
    refine br_f (by decide) <| br_f (by decide) <| br_f (by decide) <| br_f (by decide) <| br_f (by decide) <| br_f (by decide) <| br_f (by decide) <| br_f (by decide) <| br_f (by decide) <| br_f (by decide) <| br_f (by decide) <| br_f (by decide) <| br_f (by decide) <| br_f (by decide) <| br_f (by decide) <| br_f (by decide) <| br_f (by decide) <| br_f (by decide) <| br_f (by decide) <| br_t rfl <| ?_
    exact br_f (by decide) ⟨i8, nm_r (e' := upd (A 5) t (nI (p + 1))) (by rw [ct, nI_1]) H⟩
theorem rd_op18 (C : rd_C n D t p b' A w Q) (hp20 : p < 20) : rd_O1 n D t p 18 a b a b A w Q := by
  obtain ⟨I, ht, h0, hp, n9, epl, hpl, ebo, hbo, hD, hT, hN⟩ := id C
  have hn := I.vN.2
  have ct : (nI t).toNatClampNeg = t := nI_clamp (by omega)
  have i8 : vp_in (nI t) 8 := vp_in_nI (by omega) (by omega)
  obtain ⟨d, hd, ed, _⟩ := rd_dpos I ht
  refine rd_o_pl (q := p + 1) C A (by omega) I ⟨rfl, rfl, rfl, rfl, rfl, rfl, rfl, rfl, rfl, rfl, rfl, rfl, rfl⟩ ?_ ?_
  · intro post ra qa ql H
    exact br_f (by decide) <| br_f (by decide) <| br_f (by decide) <| br_f (by decide) <| br_f (by decide) <| br_f (by decide) <| br_f (by decide) <| br_f (by decide) <| br_f (by decide) <| br_f (by decide) <| br_f (by decide) <| br_f (by decide) <| br_f (by decide) <| br_f (by decide) <| br_f (by decide) <| br_f (by decide) <| br_f (by decide) <| br_f (by decide) <| br_f (by decide) <| br_f (by decide) <| br_t rfl <| ⟨i8, nm_r (e' := upd (A 5) t (nI (p + 1))) (by rw [ct]) H⟩
  · intro post ra qa wq am rz ob fr st bl H
    refine rd_y_st (d := d) (by omega) epl ed hd (by decide) (by decide) (by decide) (by decide) (by decide) (Or.inr (by decide)) ?_
    refine br_f (by decide) <| br_f (by decide) <| br_f (by decide) <| br_f (by decide) <| br_f (by decide) <| br_f (by decide) <| br_f (by decide) <| br_f (by decide) <| br_f (by decide) <| br_f (by decide) <| br_f (by decide) <| br_f (by decide) <| br_f (by decide) <| br_f (by decide) <| br_f (by decide) <| br_f (by decide) <| br_t rfl <| ?_
    refine br_f (by decide) <| br_f (by decide) <| br_f (by decide) <| br_f (by decide) <| br_f (by decide) <| br_f (by decide) <| br_f (by decide) <| br_f (by decide) <| br_f (by decide) <| br_f (by decide) <| br_f (by decide) <| br_f (by decide) <| br_f (by decide) <| br_f (by decide) <| br_f (by decide) <| br_f (by decide) <| br_f (by decide) <| br_f (by decide) <| br_f (by decide) <| br_f (by decide) <| br_t rfl <| ?_
    exact br_f (by decide) ⟨i8, nm_r (e' := upd (A 5) t (nI (p + 1))) (by rw [ct, nI_1]) H⟩
theorem rd_op19 (C : rd_C n D t p b' A w Q) (hp20 : p < 20) : rd_O1 n D t p 19 a b a b A w Q := by
  obtain ⟨I, ht, h0, hp, n9, epl, hpl, ebo, hbo, hD, hT, hN⟩ := id C
  have hn := I.vN.2
  have ct : (nI t).toNatClampNeg = t := nI_clamp (by omega)
  have i8 : vp_in (nI t) 8 := vp_in_nI (by omega) (by omega)
  obtain ⟨d, hd, ed, _⟩ := rd_dpos I ht
  refine rd_o_pl (q := p + 1) C A (by omega) I ⟨rfl, rfl, rfl, rfl, rfl, rfl, rfl, rfl, rfl, rfl, rfl, rfl, rfl⟩ ?_ ?_
  · intro post ra qa ql H
    exact br_f (by decide) <| br_f (by decide) <| br_f (by decide) <| br_f (by decide) <| br_f (by decide) <| br_f (by decide) <| br_f (by decide) <| br_f (by decide) <| br_f (by decide) <| br_f (by decide) <| br_f (by decide) <| br_f (by decide) <| br_f (by decide) <| br_f (by decide) <| br_f (by decide) <| br_f (by decide) <| br_f (by decide) <| br_f (by decide) <| br_f (by decide) <| br_f (by decide) <| br_f (by decide) <| br_t rfl <| ⟨i8, nm_r (e' := upd (A 5) t (nI (p + 1))) (by rw [ct]) H⟩
  · intro post ra qa wq am rz ob fr st bl H
    refine rd_y_st (d := d) (by omega) epl ed hd (by decide) (by decide) (by decide) (by decide) (by decide) (Or.inr (by decide)) ?_
    refine br_f (by decide) <| br_f (by decide) <| br_f (by decide) <| br_f (by decide) <| br_f (by decide) <| br_f (by decide) <| br_f (by decide) <| br_f (by decide) <| br_f (by decide) <| br_f (by decide) <| br_f (by decide) <| br_f (by decide) <| br_f (by decide) <| br_f (by decide) <| br_f (by decide) <| br_f (by decide) <| br_f (by decide) <| br_t rfl <| ?_
    refine br_f (by decide) <| br_f (by decide) <| br_f (by decide) <| br_f (by decide) <| br_f (by decide) <| br_f (by decide) <| br_f (by decide) <| br_f (by decide) <| br_f (by decide) <| br_f (by decide) <| br_f (by decide) <| br_f (by decide) <| br_f (by decide) <| br_f (by decide) <| br_f (by decide) <| br_f (by decide) <| br_f (by decide) <| br_f (by decide) <| br_f (by decide) <| br_f (by decide) <| br_f (by decide) <| br_t rfl <| ?_
    exact br_f (by decide) ⟨i8, nm_r (e' := upd (A 5) t (nI (p + 1))) (by rw [ct, nI_1]) H⟩
theorem rd_op20 (C : rd_C n D t p b' A w Q) (hp20 : p < 20) : rd_O1 n D t p 20 a b a b A w Q := by
  obtain ⟨I, ht, h0, hp, n9, epl, hpl, ebo, hbo, hD, hT, hN⟩ := id C
  have hn := I.vN.2
  have ct : (nI t).toNatClampNeg = t := nI_clamp (by omega)
  have i8 : vp_in (nI t) 8 := vp_in_nI (by omega) (by omega)
  obtain ⟨d, hd, ed, _⟩ := rd_dpos I ht
  refine rd_o_pl (q := p + 1) C A (by omega) I ⟨rfl, rfl, rfl, rfl, rfl, rfl, rfl, rfl, rfl, rfl, rfl, rfl, rfl⟩ ?_ ?_
  · intro post ra qa ql H
    exact br_f (by decide) <| br_f (by decide) <| br_f (by decide) <| br_f (by decide) <| br_f (by decide) <| br_f (by decide) <| br_f (by decide) <| br_f (by decide) <| br_f (by decide) <| br_f (by decide) <| br_f (by decide) <| br_f (by decide) <| br_f (by decide) <| br_f (by decide) <| br_f (by decide) <| br_f (by decide) <| br_f (by decide) <| br_f (by decide) <| br_f (by decide) <| br_f (by decide) <| br_f (by decide) <| br_f (by decide) <| br_t rfl <| ⟨i8, nm_r (e' := upd (A 5) t (nI (p + 1))) (by rw [ct]) H⟩
  · intro post ra qa wq am rz ob fr st bl H
    refine rd_y_st (d := d) (by omega) epl ed hd (by decide) (by decide) (by decide) (by decide) (by decide) (Or.inr (by decide)) ?_
    refine br_f (by decide) <| br_f (by decide) <| br_f (by decide) <| br_f (by decide) <| br_f (by decide) <| br_f (by decide) <| br_f (by decide) <| br_f (by decide) <| br_f (by decide) <| br_f (by decide) <| br_f (by decide) <| br_f (by decide) <| br_f (by decide) <| br_f (by decide) <| br_f (by decide) <| br_f (by decide) <| br_f (by decide) <| br_f (by decide) <| br_t rfl <| ?_
    refine br_f (by decide) <| br_f (by decide) <| br_f (by decide) <| br_f (by decide) <| br_f (by decide) <| br_f (by decide) <| br_f (by decide) <| br_f (by decide) <| br_f (by decide) <| br_f (by decide) <| br_f (by decide) <| br_f (by decide) <| br_f (by decide) <| br_f (by decide) <| br_f (by decide) <| br_f (by decide) <| br_f (by decide) <| br_f (by decide) <| br_f (by decide) <| br_f (by decide) <| br_f (by decide) <| br_f (by decide) <| br_t rfl <| ?_
    exact br_f (by decide) ⟨i8, nm_r (e' := upd (A 5) t (nI (p + 1))) (by rw [ct, nI_1]) H⟩
end
end
section
/-! frames, waiting, the end -/
theorem rd_x_putUpR {A : rd_St} {rl : Int32} {ra qa ql : Nat → Int32} {t d : Nat} {k v : Int32} {post : SX → Prop} (ht : t < 8) (hd : A 18 t = nI d) (hd8 : d < 8) (H : post (rd_tX (rd_sw (rd_sw (rd_sw A  19 (8 * t + d) k)  20 (8 * t + d) v)  18 t (nI (d + 1))) rl ra qa ql)) : wpX_putUp post (rd_tX A rl ra qa ql) (nI t) k v := by
  have ct : (nI t).toNatClampNeg = t := nI_clamp (by omega)
  have i8 : vp_in (nI t) 8 := vp_in_nI (by omega) (by omega)
  have cd : (nI (8 * t + d)).toNatClampNeg = 8 * t + d := nI_clamp (by omega)
  have i64 : vp_in (nI (8 * t + d)) 64 := vp_in_nI (by omega) (by omega)
  unfold wpX_putUp
  exact ⟨i8, nm_r (e' := nI (8 * t + d)) (by rw [ct, hd]; exact rd_ix t d 8 8 rfl) ⟨i64, nm_r (e' := upd (A 19) (8 * t + d) k) (by rw [cd]) ⟨i64, nm_r (e' := upd (A 20) (8 * t + d) v) (by rw [cd]) ⟨i8, i8, nm_r (e' := upd (A 18) t (nI (d + 1))) (by rw [ct, hd, nI_1]) H⟩⟩⟩⟩
theorem rd_x_doPutUp {A : rd_St} {rl : Int32} {ra qa ql : Nat → Int32} {t d p : Nat} {k v : Int32} {post : Int32 → SX → Prop} (ht : t < 8) (hd : A 18 t = nI d) (h8 : d ≤ 8) (epl : A 5 t = nI p) (H1 : d < 8 → post (nI (p + 1)) (rd_tX (rd_sw (rd_sw (rd_sw A  19 (8 * t + d) k)  20 (8 * t + d) v)  18 t (nI (d + 1))) rl ra qa ql)) (H0 : d = 8 → wpX_fail (fun r u => match u with | (f_rowLength_1, f_noteCount_1, f_tasks_1, f_time_1, f_done_1, f_turns_1, f_doneInTurn_1, f_inTurn_1, a_ops_1, a_firsts_1, a_seconds_1, a_lengths_1, a_condition_1, a_place_1, a_xs_1, a_ended_1, a_bodyOf_1, a_master_1, a_masterBlock_1, a_limits_1, a_pending_1, a_doomed_1, a_terminable_1, a_calledQueue_1, a_wakeTime_1, a_wakePlace_1, a_depth_1, a_frameKind_1, a_frameValue_1, a_queue_1, a_queueLength_1, a_row_1, a_noteTask_1, a_noteValue_1, a_fallen_1, a_chosen_1) => post r (f_rowLength_1, f_noteCount_1, f_tasks_1, f_time_1, f_done_1, f_turns_1, f_doneInTurn_1, f_inTurn_1, a_ops_1, a_firsts_1, a_seconds_1, a_lengths_1, a_condition_1, a_place_1, a_xs_1, a_ended_1, a_bodyOf_1, a_master_1, a_masterBlock_1, a_limits_1, a_pending_1, a_doomed_1, a_terminable_1, a_calledQueue_1, a_wakeTime_1, a_wakePlace_1, a_depth_1, a_frameKind_1, a_frameValue_1, a_queue_1, a_queueLength_1, a_row_1, a_noteTask_1, a_noteValue_1, a_fallen_1, a_chosen_1)) (rd_tX A rl ra qa ql) (nI t) (nI 13)) : wpX_doPutUp post (rd_tX A rl ra qa ql) (nI t) k v := by
  have ct : (nI t).toNatClampNeg = t := nI_clamp (by omega)
  have i8 : vp_in (nI t) 8 := vp_in_nI (by omega) (by omega)
  unfold wpX_doPutUp
  by_cases z : d < 8
  · refine ⟨i8, br_t (by rw [ct, hd]; exact nI_lt (b := 8) z (by omega)) (rd_x_putUpR ht hd z ⟨i8, ?_⟩)⟩
    have e : A 5 (nI t).toNatClampNeg + 1 = nI (p + 1) := by rw [ct, epl, nI_1]
    have H := H1 z
    rw [← e] at H
    exact H
  · exact ⟨i8, br_f (by rw [ct, hd]; exact nI_nlt (b := 8) (by omega) (by omega)) (H0 (by omega))⟩
section
variable {n D t p b' d : Nat} {a b : Int32} {A : rd_St} {w : List Nat} {Q : Nat → List Nat}
theorem rd_op7 (C : rd_C n D t p b' A w Q) (hp20 : p < 20) : rd_O1 n D t p 7 a b a b A w Q ∨ rd_O2 n D t p 7 a b a b A w Q := by
  obtain ⟨I, ht, h0, hp, n9, epl, hpl, ebo, hbo, hD, hT, hN⟩ := id C
  have hn := I.vN.2
  have ct : (nI t).toNatClampNeg = t := nI_clamp (by omega)
  have i8 : vp_in (nI t) 8 := vp_in_nI (by omega) (by omega)
  obtain ⟨d, hd, ed, _⟩ := rd_dpos I ht
  by_cases z : d < 8
  · refine Or.inl ?_
    have J := rd_i_push (k := 0) (v := 0) I ht ed z ⟨by rw [h0]; decide, by rw [h0]; decide, by rw [h0]; decide, by rw [h0]; decide, by rw [h0]; decide⟩ (Or.inl rfl)
    have J2 := rd_i_pl (p := p + 1) J ht (by omega) (Or.inl h0)
    refine ⟨n, _, w, Q, J2, rd_Gr rfl rfl rfl rfl n9, fun _ => hp, ?_, ?_⟩
    · intro post ra qa ql hx H
      refine br_f (by decide) <| br_f (by decide) <| br_f (by decide) <| br_f (by decide) <| br_f (by decide) <| br_f (by decide) <| br_f (by decide) <| br_f (by decide) <| br_f (by decide) <| br_t rfl <| rd_x_doPutUp (by omega) ed hd epl (fun _ => ?_) (fun y => by omega)
      exact ⟨i8, nm_r (e' := upd (A 5) t (nI (p + 1))) (by rw [ct]; rfl) (H _ (rd_RX_mk hx))⟩
    · intro post ra qa wq am rz ob fr st bl hy H
      refine rd_y_st (d := d) (by omega) epl ed hd (by decide) (by decide) (by decide) (by decide) (by decide) (Or.inl z) ?_
      refine br_f (by decide) <| br_f (by decide) <| br_f (by decide) <| br_f (by decide) <| br_f (by decide) <| br_t rfl <| ?_
      refine br_f (by decide) <| br_f (by decide) <| br_f (by decide) <| br_f (by decide) <| br_f (by decide) <| br_f (by decide) <| br_f (by decide) <| br_f (by decide) <| br_f (by decide) <| br_t rfl <| rd_y_push (by omega) ed z 0 ?_
      refine nm_e ?_
      refine br_f (by decide) ⟨i8, nm_r (e' := upd (A 5) t (nI (p + 1))) (by rw [ct, nI_1]; rfl) ?_⟩
      exact H _ (rd_RY_mk (A := rd_sw (rd_sw (rd_sw (rd_sw A  19 (8 * t + d) 0)  20 (8 * t + d) 0)  18 t (nI (d + 1)))  5 t (nI (p + 1))) (rd_YL_push I ht ed z (by omega) hy (Or.inr ⟨rfl, rfl, rfl⟩)))
  · refine Or.inr (rd_mkO2 C 13 (by omega) (by omega) ?_ ?_)
    · intro post ra qa ql H
      exact br_f (by decide) <| br_f (by decide) <| br_f (by decide) <| br_f (by decide) <| br_f (by decide) <| br_f (by decide) <| br_f (by decide) <| br_f (by decide) <| br_f (by decide) <| br_t rfl <| rd_x_doPutUp (by omega) ed hd epl (fun y => absurd y z) (fun _ => H)
    · intro post ra qa wq am rz ob fr st bl H
      exact rd_y_stf (by omega) epl (by rw [ed]; congr 1; omega) (by decide) (by decide) (by decide) (by decide) (Or.inl rfl) H
theorem rd_op22 {j : Nat} (C : rd_C n D t p b' A w Q) (hp20 : p < 20) (hj : j ≤ 20) (ea : a = nI j) : rd_O1 n D t p 22 a b a b A w Q ∨ rd_O2 n D t p 22 a b a b A w Q := by
  obtain ⟨I, ht, h0, hp, n9, epl, hpl, ebo, hbo, hD, hT, hN⟩ := id C
  have hn := I.vN.2
  have ct : (nI t).toNatClampNeg = t := nI_clamp (by omega)
  have i8 : vp_in (nI t) 8 := vp_in_nI (by omega) (by omega)
  obtain ⟨d, hd, ed, _⟩ := rd_dpos I ht
  by_cases z : d < 8
  · refine Or.inl ?_
    have J := rd_i_push (k := 2) (v := a) I ht ed z ⟨by rw [h0]; decide, by rw [h0]; decide, by rw [h0]; decide, by rw [h0]; decide, by rw [h0]; decide⟩ (Or.inr (Or.inr ⟨rfl, j, hj, ea⟩))
    have J2 := rd_i_pl (p := p + 1) J ht (by omega) (Or.inl h0)
    refine ⟨n, _, w, Q, J2, rd_Gr rfl rfl rfl rfl n9, fun _ => hp, ?_, ?_⟩
    · intro post ra qa ql hx H
      refine br_f (by decide) <| br_f (by decide) <| br_f (by decide) <| br_f (by decide) <| br_f (by decide) <| br_f (by decide) <| br_f (by decide) <| br_f (by decide) <| br_f (by decide) <| br_f (by decide) <| br_f (by decide) <| br_f (by decide) <| br_f (by decide) <| br_f (by decide) <| br_f (by decide) <| br_f (by decide) <| br_f (by decide) <| br_f (by decide) <| br_f (by decide) <| br_f (by decide) <| br_f (by decide) <| br_f (by decide) <| br_f (by decide) <| br_f (by decide) <| br_t rfl <| rd_x_doPutUp (by omega) ed hd epl (fun _ => ?_) (fun y => by omega)
      exact ⟨i8, nm_r (e' := upd (A 5) t (nI (p + 1))) (by rw [ct]; rfl) (H _ (rd_RX_mk hx))⟩
    · intro post ra qa wq am rz ob fr st bl hy H
      refine rd_y_st (d := d) (by omega) epl ed hd (by decide) (by decide) (by decide) (by decide) (by decide) (Or.inl z) ?_
      refine br_f (by decide) <| br_f (by decide) <| br_f (by decide) <| br_f (by decide) <| br_f (by decide) <| br_f (by decide) <| br_f (by decide) <| br_f (by decide) <| br_f (by decide) <| br_f (by decide) <| br_f (by decide) <| br_f (by decide) <| br_f (by decide) <| br_f (by decide) <| br_f (by decide) <| br_f (by decide) <| br_f (by decide) <| br_f (by decide) <| br_f (by decide) <| br_f (by decide) <| br_t rfl <| ?_
      refine br_f (by decide) <| br_f (by decide) <| br_f (by decide) <| br_f (by decide) <| br_f (by decide) <| br_f (by decide) <| br_f (by decide) <| br_f (by decide) <| br_f (by decide) <| br_f (by decide) <| br_f (by decide) <| br_f (by decide) <| br_f (by decide) <| br_f (by decide) <| br_f (by decide) <| br_f (by decide) <| br_f (by decide) <| br_f (by decide) <| br_f (by decide) <| br_f (by decide) <| br_f (by decide) <| br_f (by decide) <| br_f (by decide) <| br_f (by decide) <| br_t rfl <| rd_y_push (by omega) ed z a ?_
      refine br_f (by decide) ⟨i8, nm_r (e' := upd (A 5) t (nI (p + 1))) (by rw [ct, nI_1]; rfl) ?_⟩
      exact H _ (rd_RY_mk (A := rd_sw (rd_sw (rd_sw (rd_sw A  19 (8 * t + d) 2)  20 (8 * t + d) a)  18 t (nI (d + 1)))  5 t (nI (p + 1))) (rd_YL_push I ht ed z (by omega) hy (Or.inl ⟨by decide, rfl, rfl⟩)))
  · refine Or.inr (rd_mkO2 C 13 (by omega) (by omega) ?_ ?_)
    · intro post ra qa ql H
      exact br_f (by decide) <| br_f (by decide) <| br_f (by decide) <| br_f (by decide) <| br_f (by decide) <| br_f (by decide) <| br_f (by decide) <| br_f (by decide) <| br_f (by decide) <| br_f (by decide) <| br_f (by decide) <| br_f (by decide) <| br_f (by decide) <| br_f (by decide) <| br_f (by decide) <| br_f (by decide) <| br_f (by decide) <| br_f (by decide) <| br_f (by decide) <| br_f (by decide) <| br_f (by decide) <| br_f (by decide) <| br_f (by decide) <| br_f (by decide) <| br_t rfl <| rd_x_doPutUp (by omega) ed hd epl (fun y => absurd y z) (fun _ => H)
    · intro post ra qa wq am rz ob fr st bl H
      exact rd_y_stf (by omega) epl (by rw [ed]; congr 1; omega) (by decide) (by decide) (by decide) (by decide) (Or.inr (Or.inr (Or.inr rfl))) H
theorem rd_op21 {j : Nat} (C : rd_C n D t p b' A w Q) (hj : j < 10) (hj0 : 0 < j) (ea : a = nI j) : rd_O2 n D t p 21 a b a b A w Q := by
  obtain ⟨I, ht, h0, hp, n9, epl, hpl, ebo, hbo, hD, hT, hN⟩ := id C
  have hn := I.vN.2
  obtain ⟨d, hd, ed, _⟩ := rd_dpos I ht
  subst ea
  refine rd_mkO2 C j hj0 (by omega) ?_ ?_
  · intro post ra qa ql H
    exact br_f (by decide) <| br_f (by decide) <| br_f (by decide) <| br_f (by decide) <| br_f (by decide) <| br_f (by decide) <| br_f (by decide) <| br_f (by decide) <| br_f (by decide) <| br_f (by decide) <| br_f (by decide) <| br_f (by decide) <| br_f (by decide) <| br_f (by decide) <| br_f (by decide) <| br_f (by decide) <| br_f (by decide) <| br_f (by decide) <| br_f (by decide) <| br_f (by decide) <| br_f (by decide) <| br_f (by decide) <| br_f (by decide) <| br_t rfl <| H
  · intro post ra qa wq am rz ob fr st bl H
    refine rd_y_st (d := d) (by omega) epl ed hd (by decide) (by decide) (by decide) (by decide) (by decide) (Or.inr (by decide)) ?_
    exact br_f (by decide) <| br_f (by decide) <| br_f (by decide) <| br_f (by decide) <| br_f (by decide) <| br_f (by decide) <| br_f (by decide) <| br_f (by decide) <| br_f (by decide) <| br_f (by decide) <| br_f (by decide) <| br_f (by decide) <| br_f (by decide) <| br_f (by decide) <| br_f (by decide) <| br_f (by decide) <| br_f (by decide) <| br_f (by decide) <| br_f (by decide) <| br_t rfl <| H
theorem rd_op25 (C : rd_C n D t p b' A w Q) (a b c e : Int32) : rd_O1 n D t p 25 a b c e A w Q ∨ rd_O2 n D t p 25 a b c e A w Q := by
  obtain ⟨I, ht, h0, hp, n9, epl, hpl, ebo, hbo, hD, hT, hN⟩ := id C
  have hn := I.vN.2
  have ct : (nI t).toNatClampNeg = t := nI_clamp (by omega)
  have i8 : vp_in (nI t) 8 := vp_in_nI (by omega) (by omega)
  obtain ⟨d, hd, ed, _⟩ := rd_dpos I ht
  by_cases z : d = 0
  · refine Or.inl ?_
    subst z
    obtain ⟨B, x, R, J, F, X, Y⟩ := rd_bd0 0 I ht h0 ed n9
    have k : ∀ k, k =  28 ∨ k =  30 ∨ k =  31 ∨ k =  29 → B k = A k := fun k hk => F.1 k (by omega) (by omega) (by omega) (by omega) (by omega) (by omega) (by omega) (by omega) (by omega)
    have nz : B 4 t ≠ 0 := by rcases F.2.2.2.2.2.1 with y | y <;> rw [y] <;> decide
    refine ⟨n, B, x, R, J, ⟨Nat.le_refl _, k _ (by simp), k _ (by simp), k _ (by simp), k _ (by simp), F.2.2.2.1, fun y => absurd y nz⟩, fun y => absurd y nz, ?_, ?_⟩
    · intro post ra qa ql hx H
      refine br_f (by decide) <| br_f (by decide) <| br_f (by decide) <| br_f (by decide) <| br_f (by decide) <| br_f (by decide) <| br_f (by decide) <| br_f (by decide) <| br_f (by decide) <| br_f (by decide) <| br_f (by decide) <| br_f (by decide) <| br_f (by decide) <| br_f (by decide) <| br_f (by decide) <| br_f (by decide) <| br_f (by decide) <| br_f (by decide) <| br_f (by decide) <| br_f (by decide) <| br_f (by decide) <| br_f (by decide) <| br_f (by decide) <| br_f (by decide) <| br_f (by decide) <| br_f (by decide) <| br_f (by decide) <| br_t rfl <| ⟨i8, br_t (by rw [ct, ed]; exact nI_le (a := 0) (b := 0) (Nat.le_refl _) (by omega)) ?_⟩
      refine X _ _ (rd_RX_mk hx) ?_
      rintro u' ⟨ra1, qa1, ql1, rfl, hx1⟩
      exact ⟨i8, i8, nm_r (e' := B 5) (by rw [ct]; exact rd_ue rfl) (H _ (rd_RX_mk hx1))⟩
    · intro post ra qa wq am rz ob fr st bl hy H
      have P : wY_step_160 post (nI t) 25 c e (nI p) (A 26 0) bl (nI w.length) (A 27 0) (A 28 0) (A 29 0) (A 25 0) (A 3) (A 0) (A 1) (A 2) st (A 5) (A 6) (A 11) (A 8) (A 7) rz (A 16) (A 18) (A 19) fr (A 9) ob (A 13) qa wq ra (A 33) am (A 21) (A 22) := by
        refine br_f (by decide) <| br_f (by decide) <| br_f (by decide) <| br_f (by decide) <| br_f (by decide) <| br_f (by decide) <| br_f (by decide) <| br_f (by decide) <| br_f (by decide) <| br_f (by decide) <| br_f (by decide) <| br_f (by decide) <| br_f (by decide) <| br_f (by decide) <| br_f (by decide) <| br_f (by decide) <| br_f (by decide) <| br_f (by decide) <| br_f (by decide) <| br_f (by decide) <| br_f (by decide) <| br_f (by decide) <| br_f (by decide) <| br_t rfl <| ?_
        refine Y 8 (Or.inr rfl) _ _ (rd_RY_mk (rd_YL_D hy)) ?_
        rintro v' ⟨ra1, qa1, wq1, am1, rz1, ob1, fr1, st1, bl1, rfl, hy1⟩
        exact H _ (rd_RY_mk hy1)
      unfold wpY_step
      refine ⟨i8, nm_r (e' := nI p) (by rw [ct]; exact epl) ⟨i8, br_f (by rw [ct, ed]; decide) (br_f (by decide) (br_f (by decide) (br_f (by decide) (br_t rfl ⟨i8, br_t (by rw [ct, ed]; exact nI_le (a := 0) (b := 0) (Nat.le_refl _) (by omega)) (br_t rfl (br_t rfl (br_f (by decide) P)))⟩))))⟩⟩
  · refine Or.inr (rd_mkO2 C 12 (by omega) (by omega) ?_ ?_)
    · intro post ra qa ql H
      exact br_f (by decide) <| br_f (by decide) <| br_f (by decide) <| br_f (by decide) <| br_f (by decide) <| br_f (by decide) <| br_f (by decide) <| br_f (by decide) <| br_f (by decide) <| br_f (by decide) <| br_f (by decide) <| br_f (by decide) <| br_f (by decide) <| br_f (by decide) <| br_f (by decide) <| br_f (by decide) <| br_f (by decide) <| br_f (by decide) <| br_f (by decide) <| br_f (by decide) <| br_f (by decide) <| br_f (by decide) <| br_f (by decide) <| br_f (by decide) <| br_f (by decide) <| br_f (by decide) <| br_f (by decide) <| br_t rfl <| ⟨i8, br_f (by rw [ct, ed]; exact nI_nle (by omega) (by omega)) H⟩
    · intro post ra qa wq am rz ob fr st bl H
      have P : ∀ y, wY_step_24 post (nI t) 25 c e (nI p) y (A 26 0) bl (nI w.length) (A 27 0) (A 28 0) (A 29 0) (A 25 0) (A 3) (A 0) (A 1) (A 2) st (A 5) (A 6) (A 11) (A 8) (A 7) rz (A 16) (A 18) (A 19) fr (A 9) ob (A 13) qa wq ra (A 33) am (A 21) (A 22) := fun y => br_f (by decide) (br_f (by decide) (br_f (by decide) (br_t rfl ⟨i8, br_f (by rw [ct, ed]; exact nI_nle (by omega) (by omega)) (br_f (by decide) (br_f (by decide) H))⟩)))
      unfold wpY_step
      exact ⟨i8, nm_r (e' := nI p) (by rw [ct]; exact epl) ⟨i8, br_c (fun _ => P 1) (fun _ => P 0)⟩⟩
end
end
section
/-! leaving blocks and handlers, delays -/
section
variable {post : SY → Prop} {A : rd_St} {rl : Int32} {ra qa wq am rz ob fr st : Nat → Int32} {bl : Int32} {t p d : Nat} {a b : Int32}
theorem rd_y_st8 (ht : t < 8) (hp : A 5 t = nI p) (hd : A 18 t = nI d) (h8 : d ≤ 8) (P1 : ∀ e, d = e + 1 → A 19 (8 * t + e) = 0 → wY_step_160 post (nI t) 8 a b (nI p) (A 26 0) bl rl (A 27 0) (A 28 0) (A 29 0) (A 25 0) (A 3) (A 0) (A 1) (A 2) st (A 5) (A 6) (A 11) (A 8) (A 7) rz (A 16) (A 18) (A 19) fr (A 9) ob (A 13) qa wq ra (A 33) am (A 21) (A 22)) (P0 : (∀ e, d = e + 1 → A 19 (8 * t + e) ≠ 0) → wpY_raise (fun u => match u with | (f_tasks_1, f_blocks_1, f_readies_1, f_time_1, f_done_1, f_turns_1, f_notes_1, a_length_1, a_ops_1, a_as_1, a_bs_1, a_states_1, a_places_1, a_xs_1, a_limits_1, a_bodies_1, a_ends_1, a_raised_1, a_until_1, a_high_1, a_kinds_1, a_frames_1, a_on_1, a_onBlock_1, a_doomed_1, a_queues_1, a_waiting_1, a_row_1, a_dying_1, a_among_1, a_noteTask_1, a_noteInt_1) => post (f_tasks_1, f_blocks_1, f_readies_1, f_time_1, f_done_1, f_turns_1, f_notes_1, a_length_1, a_ops_1, a_as_1, a_bs_1, a_states_1, a_places_1, a_xs_1, a_limits_1, a_bodies_1, a_ends_1, a_raised_1, a_until_1, a_high_1, a_kinds_1, a_frames_1, a_on_1, a_onBlock_1, a_doomed_1, a_queues_1, a_waiting_1, a_row_1, a_dying_1, a_among_1, a_noteTask_1, a_noteInt_1)) (rd_tY A rl ra qa wq am rz ob fr st bl) (nI t) (nI 12)) : wpY_step post (rd_tY A rl ra qa wq am rz ob fr st bl) (nI t) 8 a b := by
  have ct : (nI t).toNatClampNeg = t := nI_clamp (by omega)
  have i8 : vp_in (nI t) 8 := vp_in_nI (by omega) (by omega)
  have G : ∀ z : Int32, (z = 0 ∨ z = 1) → (z = 1 → d = 8) → wY_step_24 post (nI t) 8 a b (nI p) z (A 26 0) bl rl (A 27 0) (A 28 0) (A 29 0) (A 25 0) (A 3) (A 0) (A 1) (A 2) st (A 5) (A 6) (A 11) (A 8) (A 7) rz (A 16) (A 18) (A 19) fr (A 9) ob (A 13) qa wq ra (A 33) am (A 21) (A 22) := fun z h1 h2 =>
    br_t rfl <| rd_y_isTop ht hd h8 (fun e he k => br_f (by decide) <| br_f (by decide) <| br_f (by decide) <| br_f (by decide) <| rd_y_st127 (Or.inr (by decide)) z h2 (br_f (by decide) (P1 e he k)) h1) (fun k => br_t rfl <| br_f (by decide) <| br_f (by decide) (P0 k))
  unfold wpY_step
  refine ⟨i8, nm_r (e' := nI p) (by rw [ct]; exact hp) ⟨i8, br_c (fun z => G 1 (Or.inr rfl) (fun _ => ?_)) (fun _ => G 0 (Or.inl rfl) (fun y => absurd y (by decide)))⟩⟩
  rw [ct, hd] at z
  exact rd_inj (by omega) (by omega) z
theorem rd_y_st14 (ht : t < 8) (hp : A 5 t = nI p) (hd : A 18 t = nI d) (h8 : d ≤ 8) (P1 : ∀ e, d = e + 1 → A 19 (8 * t + e) = 1 → wY_step_160 post (nI t) 14 a b (nI p) (A 26 0) bl rl (A 27 0) (A 28 0) (A 29 0) (A 25 0) (A 3) (A 0) (A 1) (A 2) st (A 5) (A 6) (A 11) (A 8) (A 7) rz (A 16) (A 18) (A 19) fr (A 9) ob (A 13) qa wq ra (A 33) am (A 21) (A 22)) (P0 : (∀ e, d = e + 1 → A 19 (8 * t + e) ≠ 1) → wpY_raise (fun u => match u with | (f_tasks_1, f_blocks_1, f_readies_1, f_time_1, f_done_1, f_turns_1, f_notes_1, a_length_1, a_ops_1, a_as_1, a_bs_1, a_states_1, a_places_1, a_xs_1, a_limits_1, a_bodies_1, a_ends_1, a_raised_1, a_until_1, a_high_1, a_kinds_1, a_frames_1, a_on_1, a_onBlock_1, a_doomed_1, a_queues_1, a_waiting_1, a_row_1, a_dying_1, a_among_1, a_noteTask_1, a_noteInt_1) => post (f_tasks_1, f_blocks_1, f_readies_1, f_time_1, f_done_1, f_turns_1, f_notes_1, a_length_1, a_ops_1, a_as_1, a_bs_1, a_states_1, a_places_1, a_xs_1, a_limits_1, a_bodies_1, a_ends_1, a_raised_1, a_until_1, a_high_1, a_kinds_1, a_frames_1, a_on_1, a_onBlock_1, a_doomed_1, a_queues_1, a_waiting_1, a_row_1, a_dying_1, a_among_1, a_noteTask_1, a_noteInt_1)) (rd_tY A rl ra qa wq am rz ob fr st bl) (nI t) (nI 12)) : wpY_step post (rd_tY A rl ra qa wq am rz ob fr st bl) (nI t) 14 a b := by
  have ct : (nI t).toNatClampNeg = t := nI_clamp (by omega)
  have i8 : vp_in (nI t) 8 := vp_in_nI (by omega) (by omega)
  have G : ∀ z : Int32, (z = 0 ∨ z = 1) → (z = 1 → d = 8) → wY_step_24 post (nI t) 14 a b (nI p) z (A 26 0) bl rl (A 27 0) (A 28 0) (A 29 0) (A 25 0) (A 3) (A 0) (A 1) (A 2) st (A 5) (A 6) (A 11) (A 8) (A 7) rz (A 16) (A 18) (A 19) fr (A 9) ob (A 13) qa wq ra (A 33) am (A 21) (A 22) := fun z h1 h2 =>
    br_f (by decide) <| br_t rfl <| rd_y_isTop ht hd h8 (fun e he k => br_f (by decide) <| br_f (by decide) <| br_f (by decide) <| rd_y_st127 (Or.inr (by decide)) z h2 (br_f (by decide) (P1 e he k)) h1) (fun k => br_t rfl <| br_f (by decide) <| br_f (by decide) (P0 k))
  unfold wpY_step
  refine ⟨i8, nm_r (e' := nI p) (by rw [ct]; exact hp) ⟨i8, br_c (fun z => G 1 (Or.inr rfl) (fun _ => ?_)) (fun _ => G 0 (Or.inl rfl) (fun y => absurd y (by decide)))⟩⟩
  rw [ct, hd] at z
  exact rd_inj (by omega) (by omega) z
theorem rd_y_st23 (ht : t < 8) (hp : A 5 t = nI p) (hd : A 18 t = nI d) (h8 : d ≤ 8) (P1 : ∀ e, d = e + 1 → A 19 (8 * t + e) = 2 → wY_step_160 post (nI t) 23 a b (nI p) (A 26 0) bl rl (A 27 0) (A 28 0) (A 29 0) (A 25 0) (A 3) (A 0) (A 1) (A 2) st (A 5) (A 6) (A 11) (A 8) (A 7) rz (A 16) (A 18) (A 19) fr (A 9) ob (A 13) qa wq ra (A 33) am (A 21) (A 22)) (P0 : (∀ e, d = e + 1 → A 19 (8 * t + e) ≠ 2) → wpY_raise (fun u => match u with | (f_tasks_1, f_blocks_1, f_readies_1, f_time_1, f_done_1, f_turns_1, f_notes_1, a_length_1, a_ops_1, a_as_1, a_bs_1, a_states_1, a_places_1, a_xs_1, a_limits_1, a_bodies_1, a_ends_1, a_raised_1, a_until_1, a_high_1, a_kinds_1, a_frames_1, a_on_1, a_onBlock_1, a_doomed_1, a_queues_1, a_waiting_1, a_row_1, a_dying_1, a_among_1, a_noteTask_1, a_noteInt_1) => post (f_tasks_1, f_blocks_1, f_readies_1, f_time_1, f_done_1, f_turns_1, f_notes_1, a_length_1, a_ops_1, a_as_1, a_bs_1, a_states_1, a_places_1, a_xs_1, a_limits_1, a_bodies_1, a_ends_1, a_raised_1, a_until_1, a_high_1, a_kinds_1, a_frames_1, a_on_1, a_onBlock_1, a_doomed_1, a_queues_1, a_waiting_1, a_row_1, a_dying_1, a_among_1, a_noteTask_1, a_noteInt_1)) (rd_tY A rl ra qa wq am rz ob fr st bl) (nI t) (nI 12)) : wpY_step post (rd_tY A rl ra qa wq am rz ob fr st bl) (nI t) 23 a b := by
  have ct : (nI t).toNatClampNeg = t := nI_clamp (by omega)
  have i8 : vp_in (nI t) 8 := vp_in_nI (by omega) (by omega)
  have G : ∀ z : Int32, (z = 0 ∨ z = 1) → (z = 1 → d = 8) → wY_step_24 post (nI t) 23 a b (nI p) z (A 26 0) bl rl (A 27 0) (A 28 0) (A 29 0) (A 25 0) (A 3) (A 0) (A 1) (A 2) st (A 5) (A 6) (A 11) (A 8) (A 7) rz (A 16) (A 18) (A 19) fr (A 9) ob (A 13) qa wq ra (A 33) am (A 21) (A 22) := fun z h1 h2 =>
    br_f (by decide) <| br_f (by decide) <| br_t rfl <| rd_y_isTop ht hd h8 (fun e he k => br_f (by decide) <| br_f (by decide) <| rd_y_st127 (Or.inr (by decide)) z h2 (br_f (by decide) (P1 e he k)) h1) (fun k => br_t rfl <| br_f (by decide) <| br_f (by decide) (P0 k))
  unfold wpY_step
  refine ⟨i8, nm_r (e' := nI p) (by rw [ct]; exact hp) ⟨i8, br_c (fun z => G 1 (Or.inr rfl) (fun _ => ?_)) (fun _ => G 0 (Or.inl rfl) (fun y => absurd y (by decide)))⟩⟩
  rw [ct, hd] at z
  exact rd_inj (by omega) (by omega) z
end
section
variable {n D t p b' d : Nat} {a b : Int32} {A : rd_St} {w : List Nat} {Q : Nat → List Nat}
theorem rd_op23 (C : rd_C n D t p b' A w Q) (hp20 : p < 20) : rd_O1 n D t p 23 a b a b A w Q ∨ rd_O2 n D t p 23 a b a b A w Q := by
  obtain ⟨I, ht, h0, hp, n9, epl, hpl, ebo, hbo, hD, hT, hN⟩ := id C
  have hn := I.vN.2
  have ct : (nI t).toNatClampNeg = t := nI_clamp (by omega)
  have i8 : vp_in (nI t) 8 := vp_in_nI (by omega) (by omega)
  obtain ⟨d, hd, ed, _⟩ := rd_dpos I ht
  by_cases z : ∃ e, d = e + 1 ∧ A 19 (8 * t + e) = 2
  · refine Or.inl ?_
    obtain ⟨e, ee, ek⟩ := z
    subst ee
    have J := rd_i_pop I ht ed (by omega) (by rw [h0]; decide) (Or.inl (by rw [ek]; decide))
    have J2 := rd_i_pl (p := p + 1) J ht (by omega) (Or.inl h0)
    refine ⟨n, _, w, Q, J2, rd_Gr rfl rfl rfl rfl n9, fun _ => hp, ?_, ?_⟩
    · intro post ra qa ql hx H
      refine br_f (by decide) <| br_f (by decide) <| br_f (by decide) <| br_f (by decide) <| br_f (by decide) <| br_f (by decide) <| br_f (by decide) <| br_f (by decide) <| br_f (by decide) <| br_f (by decide) <| br_f (by decide) <| br_f (by decide) <| br_f (by decide) <| br_f (by decide) <| br_f (by decide) <| br_f (by decide) <| br_f (by decide) <| br_f (by decide) <| br_f (by decide) <| br_f (by decide) <| br_f (by decide) <| br_f (by decide) <| br_f (by decide) <| br_f (by decide) <| br_f (by decide) <| br_t rfl <| ?_
      unfold wpX_doOver
      refine rd_x_hasOnTop (by omega) ed hd (fun e' he k => br_f (by decide) ⟨i8, i8, nm_r (e' := upd (A 18) t (nI e)) (by rw [ct, ed, nI_pred]) ⟨i8, ?_⟩⟩) (fun k => absurd ek (k e rfl))
      rw [ct, epl, nI_1]
      exact ⟨i8, nm_r (e' := upd (A 5) t (nI (p + 1))) rfl (H _ (rd_RX_mk (A := rd_sw (rd_sw A  18 t (nI e))  5 t (nI (p + 1))) hx))⟩
    · intro post ra qa wq am rz ob fr st bl hy H
      refine rd_y_st23 (by omega) epl ed hd (fun e' he k => ?_) (fun k => absurd ek (k e rfl))
      refine br_f (by decide) <| br_f (by decide) <| br_f (by decide) <| br_f (by decide) <| br_f (by decide) <| br_f (by decide) <| br_f (by decide) <| br_f (by decide) <| br_f (by decide) <| br_f (by decide) <| br_f (by decide) <| br_f (by decide) <| br_f (by decide) <| br_f (by decide) <| br_f (by decide) <| br_f (by decide) <| br_f (by decide) <| br_f (by decide) <| br_f (by decide) <| br_f (by decide) <| br_f (by decide) <| br_t rfl <| ?_
      refine br_f (by decide) <| br_f (by decide) <| br_f (by decide) <| br_f (by decide) <| br_f (by decide) <| br_f (by decide) <| br_f (by decide) <| br_f (by decide) <| br_f (by decide) <| br_f (by decide) <| br_f (by decide) <| br_f (by decide) <| br_f (by decide) <| br_f (by decide) <| br_f (by decide) <| br_f (by decide) <| br_f (by decide) <| br_f (by decide) <| br_f (by decide) <| br_f (by decide) <| br_f (by decide) <| br_f (by decide) <| br_f (by decide) <| br_f (by decide) <| br_f (by decide) <| br_t rfl <| ⟨i8, i8, nm_r (e' := upd (A 18) t (nI e)) (by rw [ct, ed, nI_pred]) ?_⟩
      refine br_f (by decide) ⟨i8, nm_r (e' := upd (A 5) t (nI (p + 1))) (by rw [ct, nI_1]) ?_⟩
      exact H _ (rd_RY_mk (A := rd_sw (rd_sw A  18 t (nI e))  5 t (nI (p + 1))) (rd_YL_pop (rd_YL_D hy) ed (by omega)))
  · have no : ∀ e, d = e + 1 → A 19 (8 * t + e) ≠ 2 := fun e he k => z ⟨e, he, k⟩
    refine Or.inr (rd_mkO2 C 12 (by omega) (by omega) ?_ ?_)
    · intro post ra qa ql H
      refine br_f (by decide) <| br_f (by decide) <| br_f (by decide) <| br_f (by decide) <| br_f (by decide) <| br_f (by decide) <| br_f (by decide) <| br_f (by decide) <| br_f (by decide) <| br_f (by decide) <| br_f (by decide) <| br_f (by decide) <| br_f (by decide) <| br_f (by decide) <| br_f (by decide) <| br_f (by decide) <| br_f (by decide) <| br_f (by decide) <| br_f (by decide) <| br_f (by decide) <| br_f (by decide) <| br_f (by decide) <| br_f (by decide) <| br_f (by decide) <| br_f (by decide) <| br_t rfl <| ?_
      unfold wpX_doOver
      exact rd_x_hasOnTop (by omega) ed hd (fun e he k => absurd k (no e he)) (fun _ => br_t rfl H)
    · intro post ra qa wq am rz ob fr st bl H
      exact rd_y_st23 (by omega) epl ed hd (fun e he k => absurd k (no e he)) (fun _ => H)
theorem rd_op8 (C : rd_C n D t p b' A w Q) (hp20 : p < 20) : rd_O1 n D t p 8 a b a b A w Q ∨ rd_O2 n D t p 8 a b a b A w Q := by
  obtain ⟨I, ht, h0, hp, n9, epl, hpl, ebo, hbo, hD, hT, hN⟩ := id C
  have hn := I.vN.2
  have hDD := I.vD.2.1
  have ct : (nI t).toNatClampNeg = t := nI_clamp (by omega)
  have i8 : vp_in (nI t) 8 := vp_in_nI (by omega) (by omega)
  have k7 : A 4 t ≠ 7 := by rw [h0]; decide
  have k8 : A 4 t ≠ 8 := by rw [h0]; decide
  have k9 : A 4 t ≠ 9 := by rw [h0]; decide
  have wk1 : A 16 t = -1 := rd_wk0 I ht ⟨by rw [h0]; decide, by rw [h0]; decide, by rw [h0]; decide⟩
  have wl8 : w.length ≤ 8 := Nat.le_trans (rd_wlen I) hn
  have wx8 : ∀ x, x ∈ w → x < 8 := fun x hx => Nat.lt_of_lt_of_le ((I.vR.2 x).mp hx).1 hn
  obtain ⟨d, hd, ed, _⟩ := rd_dpos I ht
  by_cases z : ∃ e, d = e + 1 ∧ A 19 (8 * t + e) = 0
  · refine Or.inl ?_
    obtain ⟨e, ee, ek⟩ := z
    subst ee
    have hds : e < (A 18 t).toNatClampNeg := by rw [ed, nI_clamp (by omega)]; omega
    have e1 : A 18 (nI t).toNatClampNeg - 1 = nI e := by rw [ct, ed, nI_pred]
    by_cases hl : rd_lv n (A 9) (A 10) (A 4) t (nI e)
    · have J := rd_i_leav I ht h0 (by omega) ed ek hl (fun _ => ⟨p, hp20, epl⟩)
      have nz : (rd_sw A  4 t 6) 4 t ≠ 0 := by
        show upd (A 4) t 6 t ≠ 0
        rw [rd_us]; decide
      refine ⟨n, _, _, Q, J, ⟨Nat.le_refl _, rfl, rfl, rfl, rfl, fun s hs y => ?_, fun y => absurd y nz⟩, fun y => absurd y nz, ?_, ?_⟩
      · have y : upd (A 4) t 6 s = 9 := y
        by_cases q : s = t
        · rw [q, rd_us] at y; exact absurd y (by decide)
        · rw [rd_un q] at y; exact n9 s hs y
      · intro post ra qa ql hx H
        refine br_f (by decide) <| br_f (by decide) <| br_f (by decide) <| br_f (by decide) <| br_f (by decide) <| br_f (by decide) <| br_f (by decide) <| br_f (by decide) <| br_f (by decide) <| br_f (by decide) <| br_t rfl <| ?_
        unfold wpX_doLeave
        refine rd_x_hasOnTop (by omega) ed hd (fun e' he k => br_f (by decide) ⟨i8, ?_⟩) (fun k => absurd ek (k e rfl))
        rw [e1]
        refine rd_x_hasLiving I.vN (fun _ => br_f (by decide) ?_) (fun y => absurd hl y)
        refine rd_x_waitAs (rd_RX_mk hx) (by omega) wl8 wx8 ?_
        rintro u' ⟨ra1, qa1, ql1, rfl, hx1⟩
        exact ⟨i8, i8, nm_r (e' := A 5) (by rw [ct]; exact rd_ue rfl) (H _ (rd_RX_mk hx1))⟩
      · intro post ra qa wq am rz ob fr st bl hy H
        have lv := rd_lv_bl hn (by omega) ht I.vB I.rdp hy.y6 hy.y7 hy.y8 k9 hds ek
        refine rd_y_st8 (by omega) epl ed hd (fun e' he k => ?_) (fun k => absurd ek (k e rfl))
        refine br_f (by decide) <| br_f (by decide) <| br_f (by decide) <| br_f (by decide) <| br_f (by decide) <| br_f (by decide) <| br_t rfl <| rd_y_top (by omega) ed (by omega) (rd_y_isWaitedFor I.vN hy.y9 (fun _ => br_f (by decide) ?_) (fun y => absurd (lv.mpr hl) y))
        refine rd_y_rest hy.r (by omega) wl8 wx8 (fun ra' gr => ?_)
        rw [rd_sw_eq (A := A) (k :=  16) wk1]
        have hy := rd_YL_D hy
        exact H _ (rd_RY_mk (A := rd_sw A  4 t 6) ⟨gr, hy.y2, hy.y3, rd_y4_cd hy.y4 (Or.inr ⟨k7, k8, k9⟩), hy.y5, hy.y6, hy.y7, rd_y8_cd hy.y8 (by decide) k9 k8, rd_y9_u hy.y9 rfl, hy.y10⟩)
    · have J := rd_i_pop I ht ed (by omega) (by rw [h0]; decide) (Or.inr hl)
      have J2 := rd_i_pl (p := p + 1) J ht (by omega) (Or.inl h0)
      refine ⟨n, _, w, Q, J2, rd_Gr rfl rfl rfl rfl n9, fun _ => hp, ?_, ?_⟩
      · intro post ra qa ql hx H
        refine br_f (by decide) <| br_f (by decide) <| br_f (by decide) <| br_f (by decide) <| br_f (by decide) <| br_f (by decide) <| br_f (by decide) <| br_f (by decide) <| br_f (by decide) <| br_f (by decide) <| br_t rfl <| ?_
        unfold wpX_doLeave
        refine rd_x_hasOnTop (by omega) ed hd (fun e' he k => br_f (by decide) ⟨i8, ?_⟩) (fun k => absurd ek (k e rfl))
        rw [e1]
        refine rd_x_hasLiving I.vN (fun y => absurd y hl) (fun _ => br_t rfl ⟨i8, i8, nm_r (e' := upd (A 18) t (nI e)) (by rw [ct]) ⟨i8, ?_⟩⟩)
        rw [ct, epl, nI_1]
        exact ⟨i8, nm_r (e' := upd (A 5) t (nI (p + 1))) rfl (H _ (rd_RX_mk (A := rd_sw (rd_sw A  18 t (nI e))  5 t (nI (p + 1))) hx))⟩
      · intro post ra qa wq am rz ob fr st bl hy H
        have lv := rd_lv_bl hn (by omega) ht I.vB I.rdp hy.y6 hy.y7 hy.y8 k9 hds ek
        refine rd_y_st8 (by omega) epl ed hd (fun e' he k => ?_) (fun k => absurd ek (k e rfl))
        refine br_f (by decide) <| br_f (by decide) <| br_f (by decide) <| br_f (by decide) <| br_f (by decide) <| br_f (by decide) <| br_t rfl <| rd_y_top (by omega) ed (by omega) (rd_y_isWaitedFor I.vN hy.y9 (fun y => absurd (lv.mp y) hl) (fun _ => br_t rfl ⟨i8, i8, nm_r (e' := upd (A 18) t (nI e)) (by rw [e1, ct]) ?_⟩))
        refine br_f (by decide) ⟨i8, nm_r (e' := upd (A 5) t (nI (p + 1))) (by rw [ct, nI_1]) ?_⟩
        exact H _ (rd_RY_mk (A := rd_sw (rd_sw A  18 t (nI e))  5 t (nI (p + 1))) (rd_YL_pop (rd_YL_D hy) ed (by omega)))
  · have no : ∀ e, d = e + 1 → A 19 (8 * t + e) ≠ 0 := fun e he k => z ⟨e, he, k⟩
    refine Or.inr (rd_mkO2 C 12 (by omega) (by omega) ?_ ?_)
    · intro post ra qa ql H
      refine br_f (by decide) <| br_f (by decide) <| br_f (by decide) <| br_f (by decide) <| br_f (by decide) <| br_f (by decide) <| br_f (by decide) <| br_f (by decide) <| br_f (by decide) <| br_f (by decide) <| br_t rfl <| ?_
      unfold wpX_doLeave
      exact rd_x_hasOnTop (by omega) ed hd (fun e he k => absurd k (no e he)) (fun _ => br_t rfl H)
    · intro post ra qa wq am rz ob fr st bl H
      exact rd_y_st8 (by omega) epl ed hd (fun e he k => absurd k (no e he)) (fun _ => H)
theorem rd_op12 {j : Nat} (C : rd_C n D t p b' A w Q) (hp20 : p < 20) (hj : j < 100) (ea : a = nI j) : rd_O1 n D t p 12 a b a b A w Q := by
  obtain ⟨I, ht, h0, hp, n9, epl, hpl, ebo, hbo, hD, ⟨T, hT, eT⟩, hN⟩ := id C
  have hn := I.vN.2
  have ct : (nI t).toNatClampNeg = t := nI_clamp (by omega)
  have i8 : vp_in (nI t) 8 := vp_in_nI (by omega) (by omega)
  have k7 : A 4 t ≠ 7 := by rw [h0]; decide
  have k8 : A 4 t ≠ 8 := by rw [h0]; decide
  have k9 : A 4 t ≠ 9 := by rw [h0]; decide
  have wl8 : w.length ≤ 8 := Nat.le_trans (rd_wlen I) hn
  have wx8 : ∀ x, x ∈ w → x < 8 := fun x hx => Nat.lt_of_lt_of_le ((I.vR.2 x).mp hx).1 hn
  obtain ⟨d, hd, ed, _⟩ := rd_dpos I ht
  subst ea
  by_cases z : j = 0
  · subst z
    refine rd_o_pl (q := p + 1) C A (by omega) I ⟨rfl, rfl, rfl, rfl, rfl, rfl, rfl, rfl, rfl, rfl, rfl, rfl, rfl⟩ ?_ ?_
    · intro post ra qa ql H
      refine br_f (by decide) <| br_f (by decide) <| br_f (by decide) <| br_f (by decide) <| br_f (by decide) <| br_f (by decide) <| br_f (by decide) <| br_f (by decide) <| br_f (by decide) <| br_f (by decide) <| br_f (by decide) <| br_f (by decide) <| br_f (by decide) <| br_f (by decide) <| br_t rfl <| ?_
      unfold wpX_doDelay
      refine br_t rfl ⟨i8, ?_⟩
      rw [ct, epl, nI_1]
      exact ⟨i8, nm_r (e' := upd (A 5) t (nI (p + 1))) rfl H⟩
    · intro post ra qa wq am rz ob fr st bl H
      refine rd_y_st (d := d) (by omega) epl ed hd (by decide) (by decide) (by decide) (by decide) (by decide) (Or.inr (by decide)) ?_
      refine br_f (by decide) <| br_f (by decide) <| br_f (by decide) <| br_f (by decide) <| br_f (by decide) <| br_f (by decide) <| br_f (by decide) <| br_f (by decide) <| br_f (by decide) <| br_f (by decide) <| br_t rfl <| br_t (nI_le (a := 0) (b := 0) (Nat.le_refl _) (by omega)) ?_
      exact br_f (by decide) ⟨i8, nm_r (e' := upd (A 5) t (nI (p + 1))) (by rw [ct, nI_1]) H⟩
  · have J := rd_i_wait (s := 5) I ht h0 (by omega) ⟨p, hp20, epl⟩ hp (fun y => absurd y (by decide)) (fun y => absurd y (by decide))
    have c5 : (rd_sw A  4 t 5) 4 t = 5 := rd_us
    have J2 : rd_Inv n 8 (D + 1) (rd_sw (rd_sw (rd_sw A  4 t 5)  16 t (nI (T + j)))  17 t (nI (p + 1))) (w.filter (fun x => x != t)) Q := rd_i_wake (x := T + j) J (by omega) ⟨p + 1, by omega, rfl⟩ (Or.inr (Or.inl ⟨c5, by rw [← nI_1]; exact congrArg (· + 1) epl.symm⟩))
    have nz : (rd_sw (rd_sw (rd_sw A  4 t 5)  16 t (nI (T + j)))  17 t (nI (p + 1))) 4 t ≠ 0 := by
      show upd (A 4) t 5 t ≠ 0
      rw [rd_us]; decide
    refine ⟨n, _, _, Q, J2, ⟨Nat.le_refl _, rfl, rfl, rfl, rfl, fun s hs y => ?_, fun y => absurd y nz⟩, fun y => absurd y nz, ?_, ?_⟩
    · have y : upd (A 4) t 5 s = 9 := y
      by_cases q : s = t
      · rw [q, rd_us] at y; exact absurd y (by decide)
      · rw [rd_un q] at y; exact n9 s hs y
    · intro post ra qa ql hx H
      refine br_f (by decide) <| br_f (by decide) <| br_f (by decide) <| br_f (by decide) <| br_f (by decide) <| br_f (by decide) <| br_f (by decide) <| br_f (by decide) <| br_f (by decide) <| br_f (by decide) <| br_f (by decide) <| br_f (by decide) <| br_f (by decide) <| br_f (by decide) <| br_t rfl <| ?_
      unfold wpX_doDelay
      refine br_f (nI_ne0 (by omega) (by omega)) (rd_x_waitAs (rd_RX_mk hx) (by omega) wl8 wx8 ?_)
      rintro u' ⟨ra1, qa1, ql1, rfl, hx1⟩
      refine ⟨i8, rd_x_wakeAfter (A := rd_sw A  4 t 5) (by omega) ⟨i8, i8, nm_r (e' := A 5) (by rw [ct]; exact rd_ue rfl) ?_⟩⟩
      have et : A 27 0 + nI j = nI (T + j) := by rw [eT, nI_add]
      have ep : A 5 (nI t).toNatClampNeg + 1 = nI (p + 1) := by rw [ct, epl, nI_1]
      have H' := H _ (rd_RX_mk hx1)
      rw [← et, ← ep] at H'
      exact H'
    · intro post ra qa wq am rz ob fr st bl hy H
      refine rd_y_st (d := d) (by omega) epl ed hd (by decide) (by decide) (by decide) (by decide) (by decide) (Or.inr (by decide)) ?_
      refine br_f (by decide) <| br_f (by decide) <| br_f (by decide) <| br_f (by decide) <| br_f (by decide) <| br_f (by decide) <| br_f (by decide) <| br_f (by decide) <| br_f (by decide) <| br_f (by decide) <| br_t rfl <| br_f (nI_nle (by omega) (by omega)) ?_
      refine rd_y_rest hy.r (by omega) wl8 wx8 (fun ra' gr => ?_)
      have hy := rd_YL_D hy
      refine ⟨i8, nm_r (e' := upd (A 16) t (nI (T + j))) (by rw [ct]; show upd (upd (A 16) t (-1)) t (A 27 0 + nI j) = _; rw [rd_uu, eT, nI_add]) ?_⟩
      exact H _ (rd_RY_mk (A := rd_sw (rd_sw (rd_sw A  4 t 5)  16 t (nI (T + j)))  17 t (nI (p + 1))) ⟨gr, hy.y2, hy.y3, rd_y4_cd hy.y4 (Or.inr ⟨k7, k8, k9⟩), hy.y5, hy.y6, hy.y7, rd_y8_cd hy.y8 (by decide) k9 k8, rd_y9_u hy.y9 rfl, hy.y10⟩)
end
end
section
/-! a new task, on both sides -/
def rd_tb (fk : Nat → Int32) (t : Nat) : Nat → Int32
  | 0 => -1
  | k + 1 => if fk (8 * t + k) = 0 then nI k else rd_tb fk t k
def rd_tby (fk fr : Nat → Int32) (t : Nat) : Nat → Int32
  | 0 => -1
  | k + 1 => if fk (8 * t + k) = 0 then fr (8 * t + k) else rd_tby fk fr t k
theorem rd_tb_spec (fk fr : Nat → Int32) (t : Nat) : ∀ d, (rd_tb fk t d = -1 ∧ rd_tby fk fr t d = -1) ∨ ∃ l, l < d ∧ rd_tb fk t d = nI l ∧ fk (8 * t + l) = 0 ∧ rd_tby fk fr t d = fr (8 * t + l)
  | 0 => Or.inl ⟨rfl, rfl⟩
  | d + 1 => by
    simp only [rd_tb, rd_tby]
    by_cases h : fk (8 * t + d) = 0
    · rw [if_pos h, if_pos h]; exact Or.inr ⟨d, by omega, rfl, h, rfl⟩
    · rw [if_neg h, if_neg h]
      rcases rd_tb_spec fk fr t d with z | ⟨l, a, b⟩
      · exact Or.inl z
      · exact Or.inr ⟨l, by omega, b⟩
theorem rd_nb0 : vp_nar .boolean 0 = 0 := rfl
theorem rd_nb1 : vp_nar .boolean 1 = 1 := rfl
theorem rd_x_makeTask {A : rd_St} {w : List Nat} {ra qa ql : Nat → Int32} {n : Nat} {b mk bl : Int32} {post : SX → Prop} (hk : A 26 0 = nI n) (h8 : n < 8) (hw : w.length < 8) (hr : rd_LV ra 0 w) (H : ∀ ra', rd_LV ra' 0 (w ++ [n]) → post (rd_tX (rd_new A n b mk bl) (nI (w ++ [n]).length) ra' qa ql)) : wpX_makeTask post (rd_tX A (nI w.length) ra qa ql) b mk bl := by
  have cn : (A 26 0).toNatClampNeg = n := by rw [hk]; exact nI_clamp (by omega)
  have i8 : vp_in (A 26 0) 8 := by rw [hk]; exact vp_in_nI h8 (by omega)
  unfold wpX_makeTask
  refine nm_r (e' := nI (n + 1)) (by rw [hk, nI_1]) ⟨i8, nm_r (e' := upd (A 5) n 0) (by rw [cn]) ⟨i8, nm_r (e' := upd (A 6) n 0) (by rw [cn]) ⟨i8, nm_r (e' := upd (A 7) n (-1)) (by rw [cn]) ⟨i8, nm_r (e' := upd (A 8) n b) (by rw [cn]) ⟨i8, nm_r (e' := upd (A 9) n mk) (by rw [cn]) ⟨i8, nm_r (e' := upd (A 10) n bl) (by rw [cn]) ⟨i8, nm_r (e' := upd (A 11) n 0) (by rw [cn]) ⟨i8, nm_r (e' := upd (A 12) n 0) (by rw [cn]) ⟨i8, nm_r (e' := upd (A 13) n 0) (by rw [cn, rd_nb0]) ⟨i8, nm_r (e' := upd (A 18) n 0) (by rw [cn]) ?_⟩⟩⟩⟩⟩⟩⟩⟩⟩⟩
  rw [hk]
  exact rd_x_mkReady (A := rd_sw (rd_sw (rd_sw (rd_sw (rd_sw (rd_sw (rd_sw (rd_sw (rd_sw (rd_sw (rd_sw A  26 0 (nI (n + 1)))  5 n 0)  6 n 0)  7 n (-1))  8 n b)  9 n mk)  10 n bl)  11 n 0)  12 n 0)  13 n 0)  18 n 0) hr h8 hw (fun ra' h => H ra' h)
theorem rd_y_wakeR {A : rd_St} {w : List Nat} {ra qa wq am rz ob fr st : Nat → Int32} {bl : Int32} {t : Nat} {post : SY → Prop} (hr : rd_LV ra 0 w) (ht : t < 8) (hw : w.length < 8) (H : ∀ ra', rd_LV ra' 0 (w ++ [t]) → post (rd_tY (rd_sw A  16 t (-1)) (nI (w ++ [t]).length) ra' qa wq am rz ob fr (upd st t 0) bl)) : wpY_wake post (rd_tY A (nI w.length) ra qa wq am rz ob fr st bl) (nI t) := by
  have ct : (nI t).toNatClampNeg = t := nI_clamp (by omega)
  have cw : (nI w.length).toNatClampNeg = w.length := nI_clamp (by omega)
  have i8 : vp_in (nI t) 8 := vp_in_nI (by omega) (by omega)
  have h2 : rd_LV (upd ra w.length (nI t)) 0 (w ++ [t]) := by
    have := rd_LV_put (x := t) hr
    rw [Nat.zero_add] at this
    exact this
  unfold wpY_wake
  exact ⟨i8, nm_r (e' := upd st t 0) (by rw [ct]) ⟨i8, nm_r (e' := upd (A 16) t (-1)) (by rw [ct]) ⟨vp_in_nI hw (by omega), nm_r (e' := upd ra w.length (nI t)) (by rw [cw]) (nm_r (rd_len1 w t).symm (H _ h2))⟩⟩⟩
theorem rd_yl_mk {post : SY → Prop} {A : rd_St} {w : List Nat} {ra qa am rz ob fr st : Nat → Int32} {bl : Int32} {n : Nat} (h8 : n < 8) (hw : w.length < 8) (hr : rd_LV ra 0 w) {wq0 : Nat → Int32} (H : ∀ ra' wq', rd_LV ra' 0 (w ++ [n]) → (∀ q, wq' q = if 3 * n ≤ q ∧ q < 3 * n + 3 then 0 else wq0 q) → post (rd_tY (rd_sw A  16 n (-1)) (nI (w ++ [n]).length) ra' qa wq' am rz ob fr (upd (upd st n (-1)) n 0) bl)) : ∀ (e k : Nat) (wq : Nat → Int32), k + e = 3 → (∀ q, wq q = if 3 * n ≤ q ∧ q < 3 * n + k then 0 else wq0 q) → wY_make_145 post (nI n) (A 26 0) bl (nI w.length) (A 27 0) (A 28 0) (A 29 0) (A 25 0) (e + 1) (nI k) (A 3) (A 0) (A 1) (A 2) st (A 5) (A 6) (A 11) (A 8) (A 7) rz (A 16) (A 18) (A 19) fr (A 9) ob (A 13) qa wq ra (A 33) am (A 21) (A 22)
  | 0, k, wq, h1, h2 => by
    have e : k = 3 := by omega
    subst e
    have cn : (nI n).toNatClampNeg = n := nI_clamp (by omega)
    refine br_t (nI_le (a := 3) (b := 3) (by omega) (by omega)) ⟨vp_in_nI h8 (by omega), nm_r (e' := upd st n (-1)) (by rw [cn]) ?_⟩
    exact rd_y_wakeR hr h8 hw (fun ra' h => H ra' wq h h2)
  | e + 1, k, wq, h1, h2 => by
    have ik : 3 * nI n + nI k = nI (3 * n + k) := rd_ix' n k 3 3 rfl
    have ck : (nI (3 * n + k)).toNatClampNeg = 3 * n + k := nI_clamp (by omega)
    refine br_f (nI_ge (b := 3) (by omega) (by omega)) ⟨by rw [ik]; exact vp_in_nI (by omega) (by omega), nm_r (e' := upd wq (3 * n + k) 0) (by rw [ik, ck]) (nm_r (nI_1 k) (rd_yl_mk h8 hw hr H e (k + 1) _ (by omega) (fun q => ?_)))⟩
    rw [rd_up]
    by_cases y : q = 3 * n + k
    · rw [if_pos y, if_pos (by omega)]
    · rw [if_neg y, h2 q]
      by_cases z : 3 * n ≤ q ∧ q < 3 * n + k
      · rw [if_pos z, if_pos (by omega)]
      · rw [if_neg z, if_neg (by omega)]
theorem rd_yl_mk2 {post : SY → Prop} {A : rd_St} {w : List Nat} {ra qa wq am rz fr st : Nat → Int32} {bl : Int32} {n t d : Nat} (ht : t < 8) (h8 : n < 8) (hd : A 18 t = nI d) (hd8 : d ≤ 8) {ob0 : Nat → Int32} (H : ∃ f, wY_make_145 post (nI n) (A 26 0) bl (nI w.length) (A 27 0) (A 28 0) (A 29 0) (A 25 0) f 0 (A 3) (A 0) (A 1) (A 2) st (A 5) (A 6) (A 11) (A 8) (A 7) rz (A 16) (A 18) (A 19) fr (A 9) (upd ob0 n (rd_tby (A 19) fr t d)) (A 13) qa wq ra (A 33) am (A 21) (A 22)) : ∀ (e k : Nat), k + e = d → wY_make_88 post (nI t) (nI n) (A 26 0) bl (nI w.length) (A 27 0) (A 28 0) (A 29 0) (A 25 0) (e + 1) (nI k) (A 3) (A 0) (A 1) (A 2) st (A 5) (A 6) (A 11) (A 8) (A 7) rz (A 16) (A 18) (A 19) fr (A 9) (upd ob0 n (rd_tby (A 19) fr t k)) (A 13) qa wq ra (A 33) am (A 21) (A 22)
  | 0, k, h1 => by
    have e : k = d := by omega
    subst e
    have ct : (nI t).toNatClampNeg = t := nI_clamp (by omega)
    exact br_f (nI_pos (by omega)) ⟨vp_in_nI ht (by omega), br_t (by rw [ct, hd]; exact nI_le (Nat.le_refl _) (by omega)) H⟩
  | e + 1, k, h1 => by
    have ct : (nI t).toNatClampNeg = t := nI_clamp (by omega)
    have cn : (nI n).toNatClampNeg = n := nI_clamp (by omega)
    have ik : 8 * nI t + nI k = nI (8 * t + k) := rd_ix' t k 8 8 rfl
    have ck : (nI (8 * t + k)).toNatClampNeg = 8 * t + k := nI_clamp (by omega)
    have i64 : vp_in (nI (8 * t + k)) 64 := vp_in_nI (by omega) (by omega)
    have r := rd_yl_mk2 (post := post) (w := w) (ra := ra) (qa := qa) (wq := wq) (am := am) (rz := rz) (st := st) (bl := bl) ht h8 hd hd8 H e (k + 1) (by omega)
    refine br_f (nI_pos (by omega)) ⟨vp_in_nI ht (by omega), br_f (by rw [ct, hd]; exact nI_ge (by omega) (by omega)) ?_⟩
    rw [ik, ck]
    refine ⟨i64, br_c (fun z => ⟨i64, vp_in_nI h8 (by omega), nm_r (e' := upd ob0 n (rd_tby (A 19) fr t (k + 1))) (by rw [cn, rd_uu]; simp only [rd_tby]; rw [if_pos z]) (nm_r (nI_1 k) r)⟩) (fun z => nm_r (nI_1 k) ?_)⟩
    have e' : rd_tby (A 19) fr t (k + 1) = rd_tby (A 19) fr t k := by simp only [rd_tby]; rw [if_neg z]
    rw [e'] at r
    exact r
/-- the reference's make, of a task made by m or by none -/
theorem rd_y_make {post : SY → Prop} {A : rd_St} {w : List Nat} {ra qa wq am rz ob fr st : Nat → Int32} {bl : Int32} {n : Nat} {b mk blk : Int32} (hk : A 26 0 = nI n) (h8 : n < 8) (hw : w.length < 8) (hr : rd_LV ra 0 w) (o : Int32) (hm : (mk = -1 ∧ o = -1) ∨ ∃ m d, m < n ∧ mk = nI m ∧ A 18 m = nI d ∧ d ≤ 8 ∧ o = rd_tby (A 19) fr m d) (H : ∀ ra' wq', rd_LV ra' 0 (w ++ [n]) → (∀ q, wq' q = if 3 * n ≤ q ∧ q < 3 * n + 3 then 0 else wq q) → post (rd_tY (rd_new A n b mk blk) (nI (w ++ [n]).length) ra' qa wq' am (upd rz n 0) (upd ob n o) fr (upd (upd st n (-1)) n 0) bl)) : wpY_make post (rd_tY A (nI w.length) ra qa wq am rz ob fr st bl) b mk := by
  have cn : (A 26 0).toNatClampNeg = n := by rw [hk]; exact nI_clamp (by omega)
  have i8 : vp_in (A 26 0) 8 := by rw [hk]; exact vp_in_nI h8 (by omega)
  unfold wpY_make
  refine nm_r (e' := nI (n + 1)) (by rw [hk, nI_1]) ⟨i8, nm_r (e' := upd (A 5) n 0) (by rw [cn]) ⟨i8, nm_r (e' := upd (A 6) n 0) (by rw [cn]) ⟨i8, nm_r (e' := upd (A 11) n 0) (by rw [cn]) ⟨i8, nm_r (e' := upd (A 8) n b) (by rw [cn]) ⟨i8, nm_r (e' := upd (A 7) n (-1)) (by rw [cn]) ⟨i8, nm_r (e' := upd rz n 0) (by rw [cn]) ⟨i8, nm_r (e' := upd (A 18) n 0) (by rw [cn]) ⟨i8, nm_r (e' := upd (A 13) n 0) (by rw [cn, rd_nb0]) ⟨i8, nm_r (e' := upd (A 9) n mk) (by rw [cn]) ⟨i8, nm_r (e' := upd ob n (-1)) (by rw [cn]) ?_⟩⟩⟩⟩⟩⟩⟩⟩⟩⟩
  rw [hk]
  have fin : ∃ f, wY_make_145 post (nI n) ((rd_new A n b mk blk) 26 0) bl (nI w.length) ((rd_new A n b mk blk) 27 0) ((rd_new A n b mk blk) 28 0) ((rd_new A n b mk blk) 29 0) ((rd_new A n b mk blk) 25 0) f 0 ((rd_sa (rd_new A n b mk blk)  16 (A 16)) 3) ((rd_sa (rd_new A n b mk blk)  16 (A 16)) 0) ((rd_sa (rd_new A n b mk blk)  16 (A 16)) 1) ((rd_sa (rd_new A n b mk blk)  16 (A 16)) 2) st ((rd_sa (rd_new A n b mk blk)  16 (A 16)) 5) ((rd_sa (rd_new A n b mk blk)  16 (A 16)) 6) ((rd_sa (rd_new A n b mk blk)  16 (A 16)) 11) ((rd_sa (rd_new A n b mk blk)  16 (A 16)) 8) ((rd_sa (rd_new A n b mk blk)  16 (A 16)) 7) (upd rz n 0) ((rd_sa (rd_new A n b mk blk)  16 (A 16)) 16) ((rd_sa (rd_new A n b mk blk)  16 (A 16)) 18) ((rd_sa (rd_new A n b mk blk)  16 (A 16)) 19) fr ((rd_sa (rd_new A n b mk blk)  16 (A 16)) 9) (upd ob n o) ((rd_sa (rd_new A n b mk blk)  16 (A 16)) 13) qa wq ra ((rd_sa (rd_new A n b mk blk)  16 (A 16)) 33) am ((rd_sa (rd_new A n b mk blk)  16 (A 16)) 21) ((rd_sa (rd_new A n b mk blk)  16 (A 16)) 22) := by
    refine ⟨4, rd_yl_mk (A := rd_sa (rd_new A n b mk blk)  16 (A 16)) h8 hw hr (wq0 := wq) (fun ra' wq' h1 h2 => ?_) 3 0 wq (by omega) (fun q => by rw [if_neg (by omega)])⟩
    exact H ra' wq' h1 h2
  rcases hm with ⟨m1, o1⟩ | ⟨m, d, hmn, em, ed, hd, eo⟩
  · refine ⟨1, ?_⟩
    rw [o1] at fin
    rw [m1]
    rw [m1] at fin
    exact br_t (by decide) fin
  · refine ⟨d + 1, ?_⟩
    rw [em] at fin ⊢
    rw [eo] at fin
    have ed' : (rd_sa (rd_new A n b (nI m) blk)  16 (A 16)) 18 m = nI d := (rd_un (show m ≠ n by omega)).trans ed
    exact rd_yl_mk2 (A := rd_sa (rd_new A n b (nI m) blk)  16 (A 16)) (by omega) h8 ed' hd (ob0 := ob) fin d 0 (by omega)
end
section
/-! TASK and DONE -/
theorem rd_ucm {f : Nat → Int32} {i j : Nat} {x y : Int32} (h : i ≠ j) : upd (upd f i x) j y = upd (upd f j y) i x := by
  funext k
  simp only [rd_up]
  by_cases e : k = i
  · by_cases e2 : k = j
    · omega
    · simp [e, h]
  · by_cases e2 : k = j
    · simp [e2, Ne.symm h]
    · simp [e, e2]
theorem rd_YL_new {ex n e E D : Nat} {A : rd_St} {w : List Nat} {Q : Nat → List Nat} {ra ra' qa wq wq' am rz ob fr st : Nat → Int32} {bl b mk blk o : Int32} (I : rd_Inv n e E A w Q) (h : rd_YL ex n D A w Q ra qa wq am rz ob fr st bl) (h8 : n < 8) (hex : n < ex) (hm : (mk = -1 ∧ blk = -1 ∧ o = -1) ∨ ∃ m d, m < n ∧ mk = nI m ∧ A 4 m ≠ 9 ∧ A 18 m = nI d ∧ d ≤ 8 ∧ blk = rd_tb (A 19) m d ∧ o = rd_tby (A 19) fr m d) (hr : rd_LV ra' 0 (w ++ [n])) (hq : ∀ q, wq' q = if 3 * n ≤ q ∧ q < 3 * n + 3 then 0 else wq q) : rd_YL ex (n + 1) D (rd_new A n b mk blk) (w ++ [n]) Q ra' qa wq' am (upd rz n 0) (upd ob n o) fr (upd (upd st n (-1)) n 0) bl := by
  have c0 : (0 : Int32).toNatClampNeg = 0 := by decide
  have dn : ∀ u, u < n + 1 → ∀ l, l < (upd (A 18) n 0 u).toNatClampNeg → u < n ∧ l < (A 18 u).toNatClampNeg := by
    intro u hu l hl
    by_cases y : u = n
    · rw [y, rd_us, c0] at hl; omega
    · rw [rd_un y] at hl; exact ⟨by omega, hl⟩
  obtain ⟨bb, b1, b2, b3⟩ := h.y6
  refine ⟨hr, ?_, ?_, ?_, ?_, ⟨bb, b1, b2, ?_⟩, ?_, ?_, ?_, h.y10⟩
  · intro q hq24
    rw [hq q]
    by_cases z : 3 * n ≤ q ∧ q < 3 * n + 3
    · rw [if_pos z]; exact ⟨0, by omega, rfl⟩
    · rw [if_neg z]; exact h.y2 q hq24
  · intro q hqn
    rw [hq q]
    by_cases z : 3 * n ≤ q ∧ q < 3 * n + 3
    · rw [if_pos z]
      have e : Q q = [] := by
        cases hQ : Q q with
        | nil => rfl
        | cons c l =>
          have := ((I.vQ q).2 c (by rw [hQ]; simp)).2.2.2
          omega
      rw [e]
      exact ⟨rfl, trivial⟩
    · rw [if_neg z]
      exact h.y3 q (by omega)
  · intro u hu a1 a2 a3
    have a1 : upd (A 4) n 0 u ≠ 7 := a1
    have a2 : upd (A 4) n 0 u ≠ 8 := a2
    have a3 : upd (A 4) n 0 u ≠ 9 := a3
    show upd rz n 0 u = if u = ex then 0 else upd (A 12) n 0 u
    rw [if_neg (by omega)]
    by_cases y : u = n
    · rw [y, rd_us, rd_us]
    · rw [rd_un y] at a1 a2 a3
      rw [rd_un y, rd_un y]
      exact rd_y4_n h.y4 (by omega) (by omega) a1 a2 a3
  · intro u hu l hl
    obtain ⟨g1, g2⟩ := dn u hu l hl
    exact h.y5 u g1 l g2
  · intro u hu l hl
    obtain ⟨g1, g2⟩ := dn u hu l hl
    exact b3 u g1 l g2
  · intro u hu l hl k hk
    obtain ⟨g1, g2⟩ := dn u hu l hl
    obtain ⟨g3, g4⟩ := dn u hu k hk
    exact h.y7 u g1 l g2 k g4
  · intro u hu hc
    have hc : upd (A 4) n 0 u ≠ 8 := hc
    show (upd (A 9) n mk u = -1 → upd ob n o u = -1) ∧ ∀ m, m < n + 1 → upd (A 9) n mk u = nI m → (upd (A 4) n 0 m = 9 → upd ob n o u = -1) ∧ (upd (A 4) n 0 m ≠ 9 → upd (A 10) n blk u = -1 → upd ob n o u = -1) ∧ (upd (A 4) n 0 m ≠ 9 → ∀ l, l < 8 → upd (A 10) n blk u = nI l → upd ob n o u = fr (8 * m + l))
    by_cases y : u = n
    · subst y
      rw [rd_us, rd_us, rd_us]
      rcases hm with ⟨m1, m2, m3⟩ | ⟨m, d, hmn, em, m9, ed, hd, eb, eo⟩
      · refine ⟨fun _ => m3, fun m hm em => absurd (em.symm.trans m1) (rd_nm (by omega))⟩
      · refine ⟨fun z => absurd (em.symm.trans z) (rd_nm (by omega)), fun m' hm' em' => ?_⟩
        have e1 : m' = m := rd_inj (by omega) (by omega) (em'.symm.trans em)
        subst e1
        rw [rd_un (show m' ≠ u by omega)]
        refine ⟨fun z => absurd z m9, fun _ z => ?_, fun _ l hl z => ?_⟩
        · rcases rd_tb_spec (A 19) fr m' d with ⟨x1, x2⟩ | ⟨l, x1, x2, x3, x4⟩
          · rw [eo]; exact x2
          · rw [eb, x2] at z; exact absurd z (rd_nm (by omega))
        · rcases rd_tb_spec (A 19) fr m' d with ⟨x1, x2⟩ | ⟨l', x1, x2, x3, x4⟩
          · rw [eb, x1] at z; exact absurd z.symm (rd_nm (by omega))
          · rw [eb, x2] at z
            have : l' = l := rd_inj (by omega) (by omega) z
            rw [eo, x4, this]
    · rw [rd_un y] at hc
      rw [rd_un y, rd_un y, rd_un y]
      obtain ⟨a1, a2⟩ := h.y8 u (by omega) hc
      refine ⟨a1, fun m hm' em => ?_⟩
      have mn : m < n := by
        rcases I.vM u (by omega) with ⟨_, z⟩ | ⟨m2, z1, z2⟩
        · exact absurd (em.symm.trans z) (rd_nm (by omega))
        · have : m2 = m := rd_inj (by omega) (by omega) (z2.symm.trans em)
          omega
      rw [rd_un (show m ≠ n by omega)]
      exact a2 m mn em
  · intro u
    show upd (upd st n (-1)) n 0 u = rd_cv (upd (A 4) n 0 u)
    rw [rd_uu]
    exact rd_y9_u (t := n) (s := 0) (x := 0) h.y9 rfl u
theorem rd_xl_task {post : Int32 → SX → Prop} {A : rd_St} {rl : Int32} {ra qa ql : Nat → Int32} {t d : Nat} {j : Int32} (ht : t < 8) (hd : A 18 t = nI d) (hd8 : d ≤ 8) (H : wpX_makeTask (fun u => match u with | (f_rowLength_1, f_noteCount_1, f_tasks_1, f_time_1, f_done_1, f_turns_1, f_doneInTurn_1, f_inTurn_1, a_ops_1, a_firsts_1, a_seconds_1, a_lengths_1, a_condition_1, a_place_1, a_xs_1, a_ended_1, a_bodyOf_1, a_master_1, a_masterBlock_1, a_limits_1, a_pending_1, a_doomed_1, a_terminable_1, a_calledQueue_1, a_wakeTime_1, a_wakePlace_1, a_depth_1, a_frameKind_1, a_frameValue_1, a_queue_1, a_queueLength_1, a_row_1, a_noteTask_1, a_noteValue_1, a_fallen_1, a_chosen_1) => (vp_in (nI t) 8 ∧ (post ((a_place_1 (nI t).toNatClampNeg) + 1) (f_rowLength_1, f_noteCount_1, f_tasks_1, f_time_1, f_done_1, f_turns_1, f_doneInTurn_1, f_inTurn_1, a_ops_1, a_firsts_1, a_seconds_1, a_lengths_1, a_condition_1, a_place_1, a_xs_1, a_ended_1, a_bodyOf_1, a_master_1, a_masterBlock_1, a_limits_1, a_pending_1, a_doomed_1, a_terminable_1, a_calledQueue_1, a_wakeTime_1, a_wakePlace_1, a_depth_1, a_frameKind_1, a_frameValue_1, a_queue_1, a_queueLength_1, a_row_1, a_noteTask_1, a_noteValue_1, a_fallen_1, a_chosen_1)))) (rd_tX (rd_sw A  6 t (A 26 0)) rl ra qa ql) j (nI t) (rd_tb (A 19) t d)) : ∀ (e k : Nat), k + e = d → wX_doTask_22 post (nI t) j rl (A 25 0) (A 26 0) (A 27 0) (A 28 0) (A 29 0) (A 30 0) (A 31 0) (A 0) (A 1) (A 2) (A 3) (A 4) (A 5) (A 6) (A 7) (A 8) (A 9) (A 10) (A 11) (A 12) (A 13) (A 14) (A 15) (A 16) (A 17) (A 18) (A 19) (A 20) qa ql ra (A 21) (A 22) (A 32) (A 23) (e + 1) (rd_tb (A 19) t k) (nI k)
  | 0, k, h1 => by
    have e : k = d := by omega
    subst e
    have ct : (nI t).toNatClampNeg = t := nI_clamp (by omega)
    have i8 : vp_in (nI t) 8 := vp_in_nI (by omega) (by omega)
    exact ⟨i8, br_t (by rw [ct, hd]; exact nI_le (Nat.le_refl _) (by omega)) ⟨i8, nm_r (e' := upd (A 6) t (A 26 0)) (by rw [ct]) H⟩⟩
  | e + 1, k, h1 => by
    have ct : (nI t).toNatClampNeg = t := nI_clamp (by omega)
    have i8 : vp_in (nI t) 8 := vp_in_nI (by omega) (by omega)
    have ik : nI t * 8 + nI k = nI (8 * t + k) := rd_ix t k 8 8 rfl
    have ck : (nI (8 * t + k)).toNatClampNeg = 8 * t + k := nI_clamp (by omega)
    have r := rd_xl_task (post := post) ht hd hd8 H e (k + 1) (by omega)
    refine ⟨i8, br_f (by rw [ct, hd]; exact nI_ge (by omega) (by omega)) ?_⟩
    rw [ik, ck]
    refine ⟨vp_in_nI (by omega) (by omega), br_c (fun z => nm_r (nI_1 k) ?_) (fun z => nm_r (nI_1 k) ?_)⟩
    · have e' : rd_tb (A 19) t (k + 1) = nI k := by simp only [rd_tb]; rw [if_pos z]
      rw [e'] at r
      exact r
    · have e' : rd_tb (A 19) t (k + 1) = rd_tb (A 19) t k := by simp only [rd_tb]; rw [if_neg z]
      rw [e'] at r
      exact r
section
variable {n D t p b' d : Nat} {a b : Int32} {A : rd_St} {w : List Nat} {Q : Nat → List Nat}
theorem rd_y_st6 {post : SY → Prop} {rl : Int32} {ra qa wq am rz ob fr st : Nat → Int32} {bl : Int32} (ht : t < 8) (hp : A 5 t = nI p) (hd : A 18 t = nI d) (h8 : d ≤ 8) (P1 : A 26 0 ≠ 8 → wY_step_160 post (nI t) 6 a b (nI p) (A 26 0) bl rl (A 27 0) (A 28 0) (A 29 0) (A 25 0) (A 3) (A 0) (A 1) (A 2) st (A 5) (A 6) (A 11) (A 8) (A 7) rz (A 16) (A 18) (A 19) fr (A 9) ob (A 13) qa wq ra (A 33) am (A 21) (A 22)) (P0 : A 26 0 = 8 → wpY_raise (fun u => match u with | (f_tasks_1, f_blocks_1, f_readies_1, f_time_1, f_done_1, f_turns_1, f_notes_1, a_length_1, a_ops_1, a_as_1, a_bs_1, a_states_1, a_places_1, a_xs_1, a_limits_1, a_bodies_1, a_ends_1, a_raised_1, a_until_1, a_high_1, a_kinds_1, a_frames_1, a_on_1, a_onBlock_1, a_doomed_1, a_queues_1, a_waiting_1, a_row_1, a_dying_1, a_among_1, a_noteTask_1, a_noteInt_1) => post (f_tasks_1, f_blocks_1, f_readies_1, f_time_1, f_done_1, f_turns_1, f_notes_1, a_length_1, a_ops_1, a_as_1, a_bs_1, a_states_1, a_places_1, a_xs_1, a_limits_1, a_bodies_1, a_ends_1, a_raised_1, a_until_1, a_high_1, a_kinds_1, a_frames_1, a_on_1, a_onBlock_1, a_doomed_1, a_queues_1, a_waiting_1, a_row_1, a_dying_1, a_among_1, a_noteTask_1, a_noteInt_1)) (rd_tY A rl ra qa wq am rz ob fr st bl) (nI t) (nI 13)) : wpY_step post (rd_tY A rl ra qa wq am rz ob fr st bl) (nI t) 6 a b := by
  have ct : (nI t).toNatClampNeg = t := nI_clamp (by omega)
  have i8 : vp_in (nI t) 8 := vp_in_nI (by omega) (by omega)
  have G : ∀ z : Int32, (z = 0 ∨ z = 1) → (z = 1 → d = 8) → wY_step_24 post (nI t) 6 a b (nI p) z (A 26 0) bl rl (A 27 0) (A 28 0) (A 29 0) (A 25 0) (A 3) (A 0) (A 1) (A 2) st (A 5) (A 6) (A 11) (A 8) (A 7) rz (A 16) (A 18) (A 19) fr (A 9) ob (A 13) qa wq ra (A 33) am (A 21) (A 22) := fun z h1 h2 =>
    br_f (by decide) (br_f (by decide) (br_f (by decide) (br_f (by decide) (rd_y_st127 (Or.inr (by decide)) z h2 (br_t rfl (br_c (fun y => br_t rfl (P0 y)) (fun y => P1 y))) h1))))
  unfold wpY_step
  refine ⟨i8, nm_r (e' := nI p) (by rw [ct]; exact hp) ⟨i8, br_c (fun z => G 1 (Or.inr rfl) (fun _ => ?_)) (fun _ => G 0 (Or.inl rfl) (fun y => absurd y (by decide)))⟩⟩
  rw [ct, hd] at z
  exact rd_inj (by omega) (by omega) z
theorem rd_op6 {j : Nat} (C : rd_C n D t p b' A w Q) (hp20 : p < 20) (hj : j < 4) (ea : a = nI j) : rd_O1 n D t p 6 a b a b A w Q ∨ rd_O2 n D t p 6 a b a b A w Q := by
  obtain ⟨I, ht, h0, hp, n9, epl, hpl, ebo, hbo, hD, hT, hN⟩ := id C
  have hn := I.vN.2
  have hk := I.vN.1
  have ct : (nI t).toNatClampNeg = t := nI_clamp (by omega)
  have i8 : vp_in (nI t) 8 := vp_in_nI (by omega) (by omega)
  have k9 : A 4 t ≠ 9 := by rw [h0]; decide
  have k8 : A 4 t ≠ 8 := by rw [h0]; decide
  obtain ⟨d, hd, ed, ec⟩ := rd_dpos I ht
  subst ea
  by_cases z : n < 8
  · refine Or.inl ?_
    have tn : t ≠ n := by omega
    have wl : w.length < 8 := by have := rd_wlen I; omega
    have hm : (n = 0 ∧ nI t = -1 ∧ rd_tb (A 19) t d = -1) ∨ ∃ m, m < n ∧ nI t = nI m ∧ A 4 m ≠ 8 ∧ (rd_tb (A 19) t d = -1 ∨ ∃ l, rd_tb (A 19) t d = nI l ∧ l < (A 18 m).toNatClampNeg ∧ A 19 (8 * m + l) = 0) := by
      refine Or.inr ⟨t, ht, rfl, k8, ?_⟩
      rcases rd_tb_spec (A 19) (A 19) t d with ⟨x1, _⟩ | ⟨l, x1, x2, x3, _⟩
      · exact Or.inl x1
      · exact Or.inr ⟨l, x2, by omega, x3⟩
    have J := rd_i_new (b := j) (rd_i_xs (t := t) (x := nI n) I) z (by omega) hm
    have c0 : (rd_new (rd_sw A  6 t (nI n)) n (nI j) (nI t) (rd_tb (A 19) t d)) 4 t = 0 := (rd_un tn).trans h0
    have J2 := rd_i_pl (t := t) (p := p + 1) J (by omega) (by omega) (Or.inl c0)
    refine ⟨n + 1, _, w ++ [n], Q, J2, ⟨by omega, rfl, rfl, rfl, rfl, fun s hs y => ?_, fun _ => rd_hd_app⟩, fun _ => (rd_un tn).trans hp, ?_, ?_⟩
    · have y : upd (A 4) n 0 s = 9 := y
      by_cases q : s = n
      · rw [q, rd_us] at y; exact absurd y (by decide)
      · rw [rd_un q] at y; exact n9 s (by omega) y
    · intro post ra qa ql hx H
      refine br_f (by decide) <| br_f (by decide) <| br_f (by decide) <| br_f (by decide) <| br_f (by decide) <| br_f (by decide) <| br_f (by decide) <| br_f (by decide) <| br_t rfl <| ?_
      unfold wpX_doTask
      refine br_t (by rw [hk]; exact nI_lt (b := 8) z (by omega)) ⟨_, rd_xl_task (by omega) ed hd ?_ d 0 (by omega)⟩
      rw [hk]
      refine rd_x_makeTask (A := rd_sw A  6 t (nI n)) hk z wl hx.1 (fun ra' gr => ⟨i8, ?_⟩)
      have ep : upd (A 5) n 0 (nI t).toNatClampNeg + 1 = nI (p + 1) := by rw [ct, rd_un tn, epl, nI_1]
      refine ⟨i8, nm_r (e' := upd (upd (A 5) n 0) t (nI (p + 1))) ?_ ?_⟩
      · rw [ct]
        have : (rd_new (rd_sw A  6 t (nI n)) n (nI j) (nI t) (rd_tb (A 19) t d)) 5 t + 1 = nI (p + 1) := by
          show upd (A 5) n 0 t + 1 = nI (p + 1)
          rw [rd_un tn, epl, nI_1]
        rw [this]
        rfl
      · exact H _ (rd_RX_mk (A := rd_sw (rd_new (rd_sw A  6 t (nI n)) n (nI j) (nI t) (rd_tb (A 19) t d))  5 t (nI (p + 1))) ⟨gr, hx.2⟩)
    · intro post ra qa wq am rz ob fr st bl hy H
      refine rd_y_st6 (by omega) epl ed hd (fun _ => ?_) (fun y => ?_)
      · refine br_f (by decide) <| br_f (by decide) <| br_f (by decide) <| br_f (by decide) <| br_t rfl <| ?_
        refine br_f (by decide) <| br_f (by decide) <| br_f (by decide) <| br_f (by decide) <| br_f (by decide) <| br_f (by decide) <| br_f (by decide) <| br_f (by decide) <| br_t rfl <| ?_
        refine rd_y_make (blk := rd_tb (A 19) t d) hk z wl hy.r (rd_tby (A 19) fr t d) (Or.inr ⟨t, d, ht, rfl, ed, hd, rfl⟩) (fun ra' wq' g1 g2 => ?_)
        have hy2 := rd_YL_new (b := nI j) I (rd_YL_D hy) z (by omega) (Or.inr ⟨t, d, ht, rfl, k9, ed, hd, rfl, rfl⟩) g1 g2
        have en : nI (n + 1) - 1 = nI n := nI_pred n
        refine ⟨i8, nm_r (e' := upd (upd (A 6) t (nI n)) n 0) ?_ ?_⟩
        · rw [ct]
          show upd (upd (A 6) n 0) t (nI (n + 1) - 1) = _
          rw [en]
          exact rd_ucm (Ne.symm tn)
        · refine br_f (by decide) ⟨i8, nm_r (e' := upd (upd (A 5) n 0) t (nI (p + 1))) (by rw [ct, nI_1]; rfl) ?_⟩
          exact H _ (rd_RY_mk (A := rd_sw (rd_new (rd_sw A  6 t (nI n)) n (nI j) (nI t) (rd_tb (A 19) t d))  5 t (nI (p + 1))) hy2)
      · rw [hk] at y
        have : n = 8 := rd_inj (by omega) (by omega) y
        omega
  · have e8 : n = 8 := by omega
    refine Or.inr (rd_mkO2 C 13 (by omega) (by omega) ?_ ?_)
    · intro post ra qa ql H
      refine br_f (by decide) <| br_f (by decide) <| br_f (by decide) <| br_f (by decide) <| br_f (by decide) <| br_f (by decide) <| br_f (by decide) <| br_f (by decide) <| br_t rfl <| ?_
      unfold wpX_doTask
      exact br_f (by rw [hk]; exact nI_nlt (b := 8) (by omega) (by omega)) H
    · intro post ra qa wq am rz ob fr st bl H
      refine rd_y_st6 (by omega) epl ed hd (fun y => ?_) (fun _ => H)
      exact absurd (by rw [hk, e8]; rfl) y
end
end
section
/-! DONE -/
section
variable {n D t p b' d : Nat} {a b : Int32} {A : rd_St} {w : List Nat} {Q : Nat → List Nat}
theorem rd_op14 (C : rd_C n D t p b' A w Q) (hp20 : p < 20) : rd_O1 n D t p 14 a b a b A w Q ∨ rd_O2 n D t p 14 a b a b A w Q := by
  obtain ⟨I, ht, h0, hp, n9, epl, hpl, ebo, hbo, hD, hT, hN⟩ := id C
  have hn := I.vN.2
  have ct : (nI t).toNatClampNeg = t := nI_clamp (by omega)
  have i8 : vp_in (nI t) 8 := vp_in_nI (by omega) (by omega)
  obtain ⟨d, hd, ed, _⟩ := rd_dpos I ht
  by_cases z : ∃ e, d = e + 1 ∧ A 19 (8 * t + e) = 1
  · refine Or.inl ?_
    obtain ⟨e, ee, ek⟩ := z
    subst ee
    have he8 : e < 8 := by omega
    have hds : e < (A 18 t).toNatClampNeg := by rw [ed, nI_clamp (by omega)]; omega
    obtain ⟨c, hc, ev, c2⟩ : ∃ c, c < n ∧ A 20 (8 * t + e) = nI c ∧ A 4 c = 2 := by
      rcases I.vF t ht e hds with z | ⟨_, z⟩ | ⟨z, _⟩
      · rw [z] at ek; exact absurd ek (by decide)
      · exact z
      · rw [z] at ek; exact absurd ek (by decide)
    have tc : t ≠ c := fun y => by rw [← y, h0] at c2; exact absurd c2 (by decide)
    have cc : (nI c).toNatClampNeg = c := nI_clamp (by omega)
    have ic : vp_in (nI c) 8 := vp_in_nI (by omega) (by omega)
    have q0 : A 4 c ≠ 0 := by rw [c2]; decide
    have q1 : A 4 c ≠ 1 := by rw [c2]; decide
    have q7 : A 4 c ≠ 7 := by rw [c2]; decide
    have q8 : A 4 c ≠ 8 := by rw [c2]; decide
    have q9 : A 4 c ≠ 9 := by rw [c2]; decide
    have nf := rd_nf_pop ht ed he8 I.vU ek ev
    have it : nI t * 8 + upd (A 18) t (nI e) (nI t).toNatClampNeg = nI (8 * t + e) := by rw [ct, rd_us]; exact rd_ix t e 8 8 rfl
    have i64 : vp_in (nI (8 * t + e)) 64 := vp_in_nI (by omega) (by omega)
    have ce : (nI (8 * t + e)).toNatClampNeg = 8 * t + e := nI_clamp (by omega)
    have I1 := rd_i_pop I ht ed he8 (by rw [h0]; decide) (Or.inl (by rw [ek]; decide))
    have I2 : rd_Inv n 8 (D + 1) (rd_sw (rd_sw A  18 t (nI e))  6 c (A 6 t)) w Q := rd_i_xs I1
    obtain ⟨q, hq20, eq⟩ := (I.vA c hc).1 (Or.inr (Or.inl c2))
    have pc : A 12 c = 0 := I.vP c hc (Or.inr (Or.inl c2))
    -- what both sides ask ahead of the release
    have X0 : ∀ (post : SX → Prop) (ra qa ql : Nat → Int32), ((A 13 c = 0 → wpX_makeReady (fun u => match u with | (f_rowLength_1, f_noteCount_1, f_tasks_1, f_time_1, f_done_1, f_turns_1, f_doneInTurn_1, f_inTurn_1, a_ops_1, a_firsts_1, a_seconds_1, a_lengths_1, a_condition_1, a_place_1, a_xs_1, a_ended_1, a_bodyOf_1, a_master_1, a_masterBlock_1, a_limits_1, a_pending_1, a_doomed_1, a_terminable_1, a_calledQueue_1, a_wakeTime_1, a_wakePlace_1, a_depth_1, a_frameKind_1, a_frameValue_1, a_queue_1, a_queueLength_1, a_row_1, a_noteTask_1, a_noteValue_1, a_fallen_1, a_chosen_1) => (vp_in (nI t) 8 ∧ (vp_in (nI t) 8 ∧ ∀ y, y = upd a_place_1 (nI t).toNatClampNeg (a_place_1 (nI t).toNatClampNeg + 1) → post (f_rowLength_1, f_noteCount_1, f_tasks_1, f_time_1, f_done_1, f_turns_1, f_doneInTurn_1, f_inTurn_1, a_ops_1, a_firsts_1, a_seconds_1, a_lengths_1, a_condition_1, y, a_xs_1, a_ended_1, a_bodyOf_1, a_master_1, a_masterBlock_1, a_limits_1, a_pending_1, a_doomed_1, a_terminable_1, a_calledQueue_1, a_wakeTime_1, a_wakePlace_1, a_depth_1, a_frameKind_1, a_frameValue_1, a_queue_1, a_queueLength_1, a_row_1, a_noteTask_1, a_noteValue_1, a_fallen_1, a_chosen_1)))) (rd_tX (rd_sw (rd_sw (rd_sw A  18 t (nI e))  6 c (A 6 t))  5 c (nI (q + 1))) (nI w.length) ra qa ql) (nI c)) ∧ (A 13 c ≠ 0 → wpX_bringDown (fun u => match u with | (f_rowLength_1, f_noteCount_1, f_tasks_1, f_time_1, f_done_1, f_turns_1, f_doneInTurn_1, f_inTurn_1, a_ops_1, a_firsts_1, a_seconds_1, a_lengths_1, a_condition_1, a_place_1, a_xs_1, a_ended_1, a_bodyOf_1, a_master_1, a_masterBlock_1, a_limits_1, a_pending_1, a_doomed_1, a_terminable_1, a_calledQueue_1, a_wakeTime_1, a_wakePlace_1, a_depth_1, a_frameKind_1, a_frameValue_1, a_queue_1, a_queueLength_1, a_row_1, a_noteTask_1, a_noteValue_1, a_fallen_1, a_chosen_1) => (vp_in (nI t) 8 ∧ (vp_in (nI t) 8 ∧ ∀ y, y = upd a_place_1 (nI t).toNatClampNeg (a_place_1 (nI t).toNatClampNeg + 1) → post (f_rowLength_1, f_noteCount_1, f_tasks_1, f_time_1, f_done_1, f_turns_1, f_doneInTurn_1, f_inTurn_1, a_ops_1, a_firsts_1, a_seconds_1, a_lengths_1, a_condition_1, y, a_xs_1, a_ended_1, a_bodyOf_1, a_master_1, a_masterBlock_1, a_limits_1, a_pending_1, a_doomed_1, a_terminable_1, a_calledQueue_1, a_wakeTime_1, a_wakePlace_1, a_depth_1, a_frameKind_1, a_frameValue_1, a_queue_1, a_queueLength_1, a_row_1, a_noteTask_1, a_noteValue_1, a_fallen_1, a_chosen_1)))) (rd_tX (rd_sw (rd_sw A  18 t (nI e))  6 c (A 6 t)) (nI w.length) ra qa ql) (nI c) 14)) → wX_perform_119 post (nI t) (nI (p + 1)) 14 a b (nI w.length) (A 25 0) (A 26 0) (A 27 0) (A 28 0) (A 29 0) (A 30 0) (A 31 0) (A 0) (A 1) (A 2) (A 3) (A 4) (A 5) (A 6) (A 7) (A 8) (A 9) (A 10) (A 11) (A 12) (A 13) (A 14) (A 15) (A 16) (A 17) (A 18) (A 19) (A 20) qa ql ra (A 21) (A 22) (A 32) (A 23) := by
      intro post ra qa ql H
      refine br_f (by decide) <| br_f (by decide) <| br_f (by decide) <| br_f (by decide) <| br_f (by decide) <| br_f (by decide) <| br_f (by decide) <| br_f (by decide) <| br_f (by decide) <| br_f (by decide) <| br_f (by decide) <| br_f (by decide) <| br_f (by decide) <| br_f (by decide) <| br_f (by decide) <| br_f (by decide) <| br_t rfl <| ?_
      unfold wpX_doDone
      refine rd_x_hasOnTop (by omega) ed hd (fun e' he k => br_f (by decide) ⟨i8, i8, nm_r (e' := upd (A 18) t (nI e)) (by rw [ct, ed, nI_pred]) ⟨i8, ?_⟩⟩) (fun k => absurd ek (k e rfl))
      rw [it, ce]
      refine ⟨i64, nm_r (e' := nI c) ev ⟨i8, ic, nm_r (e' := upd (A 6) c (A 6 t)) (by rw [cc, ct]) ⟨ic, ?_⟩⟩⟩
      refine br_c (fun y => ⟨ic, ic, nm_r (e' := upd (A 5) c (nI (q + 1))) (by rw [cc, eq, nI_1]) (H.1 (by rw [cc] at y; exact y))⟩) (fun y => H.2 (by rw [cc] at y; exact y))
    have Y0 : ∀ (post : SY → Prop) (ra qa wq am rz ob fr st : Nat → Int32) (bl : Int32), rd_YL 8 n D A w Q ra qa wq am rz ob fr st bl → (wpY_release (fun u => match u with | (f_tasks_1, f_blocks_1, f_readies_1, f_time_1, f_done_1, f_turns_1, f_notes_1, a_length_1, a_ops_1, a_as_1, a_bs_1, a_states_1, a_places_1, a_xs_1, a_limits_1, a_bodies_1, a_ends_1, a_raised_1, a_until_1, a_high_1, a_kinds_1, a_frames_1, a_on_1, a_onBlock_1, a_doomed_1, a_queues_1, a_waiting_1, a_row_1, a_dying_1, a_among_1, a_noteTask_1, a_noteInt_1) => (wY_step_448 post (nI t) 14 a (nI p) f_tasks_1 f_blocks_1 f_readies_1 f_time_1 f_done_1 f_turns_1 f_notes_1 a_length_1 a_ops_1 a_as_1 a_bs_1 a_states_1 a_places_1 a_xs_1 a_limits_1 a_bodies_1 a_ends_1 a_raised_1 a_until_1 a_high_1 a_kinds_1 a_frames_1 a_on_1 a_onBlock_1 a_doomed_1 a_queues_1 a_waiting_1 a_row_1 a_dying_1 a_among_1 a_noteTask_1 a_noteInt_1)) (rd_tY (rd_sw (rd_sw A  18 t (nI e))  6 c (A 6 t)) (nI w.length) ra qa wq am rz ob fr st bl) (nI c) 0 (nI (q + 1))) → wpY_step post (rd_tY A (nI w.length) ra qa wq am rz ob fr st bl) (nI t) 14 a b := by
      intro post ra qa wq am rz ob fr st bl hy H
      have efr : fr (8 * t + e) = nI c := (hy.y5 t ht e hds (by rw [ek]; decide)).trans ev
      refine rd_y_st14 (by omega) epl ed hd (fun e' he k => ?_) (fun k => absurd ek (k e rfl))
      refine br_f (by decide) <| br_f (by decide) <| br_f (by decide) <| br_f (by decide) <| br_f (by decide) <| br_f (by decide) <| br_f (by decide) <| br_f (by decide) <| br_f (by decide) <| br_f (by decide) <| br_f (by decide) <| br_f (by decide) <| br_t rfl <| ?_
      refine br_f (by decide) <| br_f (by decide) <| br_f (by decide) <| br_f (by decide) <| br_f (by decide) <| br_f (by decide) <| br_f (by decide) <| br_f (by decide) <| br_f (by decide) <| br_f (by decide) <| br_f (by decide) <| br_f (by decide) <| br_f (by decide) <| br_f (by decide) <| br_f (by decide) <| br_f (by decide) <| br_t rfl <| rd_y_top (by omega) ed he8 ?_
      rw [efr]
      refine ⟨i8, i8, nm_r (e' := upd (A 18) t (nI e)) (by rw [ct, ed, nI_pred]) ⟨i8, ic, nm_r (e' := upd (A 6) c (A 6 t)) (by rw [cc, ct]) ⟨ic, ?_⟩⟩⟩
      rw [cc, eq, nI_1]
      exact H
    by_cases hdm : A 13 c = 0
    · have I3 := rd_i_ready I2 hc q0 q8 (rd_vQ_no I.vQ q1) nf
      have I4 := rd_i_pl (t := c) (p := q + 1) I3 hc (by omega) (Or.inl rd_us)
      have c0 : (rd_ready (rd_sw (rd_sw A  18 t (nI e))  6 c (A 6 t)) c) 4 t = 0 := (rd_un tc).trans h0
      have I5 : rd_Inv n 8 (D + 1) (rd_sw (rd_ready (rd_sw (rd_sw (rd_sw A  18 t (nI e))  6 c (A 6 t))  5 c (nI (q + 1))) c)  5 t (nI (p + 1))) (w ++ [c]) Q := rd_i_pl (t := t) (p := p + 1) I4 ht (by omega) (Or.inl c0)
      have wlt : w.length < 8 := Nat.lt_of_lt_of_le (rd_wlen' I hc q0) hn
      have et : upd (A 5) c (nI (q + 1)) t + 1 = nI (p + 1) := by rw [rd_un tc, epl, nI_1]
      refine ⟨n, _, w ++ [c], Q, I5, ⟨Nat.le_refl _, rfl, rfl, rfl, rfl, fun s hs y => ?_, fun _ => rd_hd_app⟩, fun _ => hp, ?_, ?_⟩
      · have y : upd (A 4) c 0 s = 9 := y
        by_cases r : s = c
        · rw [r, rd_us] at y; exact absurd y (by decide)
        · rw [rd_un r] at y; exact n9 s hs y
      · intro post ra qa ql hx H
        refine X0 post ra qa ql ⟨fun _ => ?_, fun y => absurd hdm y⟩
        refine rd_x_makeReady (rd_RX_mk (A := rd_sw (rd_sw (rd_sw A  18 t (nI e))  6 c (A 6 t))  5 c (nI (q + 1))) hx) (by omega) wlt ?_
        rintro u' ⟨ra1, qa1, ql1, rfl, hx1⟩
        refine ⟨i8, i8, nm_r (e' := upd (upd (A 5) c (nI (q + 1))) t (nI (p + 1))) ?_ (H _ (rd_RX_mk hx1))⟩
        rw [ct]
        show upd (upd (A 5) c (nI (q + 1))) t (upd (A 5) c (nI (q + 1)) t + 1) = _
        rw [et]
      · intro post ra qa wq am rz ob fr st bl hy H
        refine Y0 post ra qa wq am rz ob fr st bl hy ?_
        have hy1 := rd_YL_pop (rd_YL_D hy) ed he8
        unfold wpY_release
        refine ⟨ic, br_t (by rw [cc]; exact hdm) ⟨ic, nm_r (e' := upd rz c 0) (by rw [cc]) ⟨ic, nm_r (e' := upd (A 5) c (nI (q + 1))) (by rw [cc]; rfl) ?_⟩⟩⟩
        have y4' : rd_y4 8 n (A 4) (A 12) (upd rz c 0) := by
          have := rd_y4_pe (t := c) (v := 0) hy1.y4 (by omega)
          have e2 : upd (A 12) c 0 = A 12 := rd_ue pc
          have this : rd_y4 8 n (A 4) (upd (A 12) c 0) (upd rz c 0) := this
          rw [e2] at this
          exact this
        refine rd_y_wake (A := rd_sw (rd_sw (rd_sw A  18 t (nI e))  6 c (A 6 t))  5 c (nI (q + 1))) (rd_RY_mk (ex := 8) (D := D + 1) (Q := Q) ⟨hy1.r, hy1.y2, hy1.y3, y4', hy1.y5, hy1.y6, hy1.y7, hy1.y8, hy1.y9, hy1.y10⟩) hn hc wlt q7 q8 q9 ?_
        rintro v' ⟨ra1, qa1, wq1, am1, rz1, ob1, fr1, st1, bl1, rfl, hy2⟩
        exact br_f (by decide) ⟨i8, nm_r (e' := upd (upd (A 5) c (nI (q + 1))) t (nI (p + 1))) (by rw [ct, nI_1]; rfl) (H _ (rd_RY_mk hy2))⟩
    · obtain ⟨B, x, R, J, F, X, Y⟩ := rd_bd (ex := 8) (t := c) 14 I2 hc q7 q8 nf n9 (fun y => by omega)
      have kt := F.2.2.1 t ⟨h0, tc⟩
      have bpl : B 5 t = nI p := kt.2.1.trans epl
      have I5 := rd_i_pl (t := t) (p := p + 1) J ht (by omega) (Or.inl (kt.1.trans h0))
      have k : ∀ k, k =  28 ∨ k =  30 ∨ k =  31 ∨ k =  29 → B k = (rd_sw (rd_sw A  18 t (nI e))  6 c (A 6 t)) k := fun k hk => F.1 k (by omega) (by omega) (by omega) (by omega) (by omega) (by omega) (by omega) (by omega) (by omega)
      refine ⟨n, _, x, R, I5, ⟨Nat.le_refl _, k  28 (by simp), k  30 (by simp), k  31 (by simp), k  29 (by simp), F.2.2.2.1, fun _ => kt.2.2.2.2⟩, fun _ => kt.2.2.1.trans hp, ?_, ?_⟩
      · intro post ra qa ql hx H
        refine X0 post ra qa ql ⟨fun y => absurd y hdm, fun _ => ?_⟩
        refine X _ _ (rd_RX_mk (A := rd_sw (rd_sw A  18 t (nI e))  6 c (A 6 t)) hx) ?_
        rintro u' ⟨ra1, qa1, ql1, rfl, hx1⟩
        exact ⟨i8, i8, nm_r (e' := upd (B 5) t (nI (p + 1))) (by rw [ct, bpl, nI_1]) (H _ (rd_RX_mk hx1))⟩
      · intro post ra qa wq am rz ob fr st bl hy H
        refine Y0 post ra qa wq am rz ob fr st bl hy ?_
        have hy1 := rd_YL_pop (rd_YL_D hy) ed he8
        unfold wpY_release
        refine ⟨ic, br_f (by rw [cc]; exact hdm) ?_⟩
        refine Y _ _ (rd_RY_mk (A := rd_sw (rd_sw A  18 t (nI e))  6 c (A 6 t)) hy1) ?_
        rintro v' ⟨ra1, qa1, wq1, am1, rz1, ob1, fr1, st1, bl1, rfl, hy2⟩
        exact br_f (by decide) ⟨i8, nm_r (e' := upd (B 5) t (nI (p + 1))) (by rw [ct, nI_1]) (H _ (rd_RY_mk (A := rd_sw B  5 t (nI (p + 1))) hy2))⟩
  · have no : ∀ e, d = e + 1 → A 19 (8 * t + e) ≠ 1 := fun e he k => z ⟨e, he, k⟩
    refine Or.inr (rd_mkO2 C 12 (by omega) (by omega) ?_ ?_)
    · intro post ra qa ql H
      refine br_f (by decide) <| br_f (by decide) <| br_f (by decide) <| br_f (by decide) <| br_f (by decide) <| br_f (by decide) <| br_f (by decide) <| br_f (by decide) <| br_f (by decide) <| br_f (by decide) <| br_f (by decide) <| br_f (by decide) <| br_f (by decide) <| br_f (by decide) <| br_f (by decide) <| br_f (by decide) <| br_t rfl <| ?_
      unfold wpX_doDone
      exact rd_x_hasOnTop (by omega) ed hd (fun e he k => absurd k (no e he)) (fun _ => br_t rfl H)
    · intro post ra qa wq am rz ob fr st bl H
      exact rd_y_st14 (by omega) epl ed hd (fun e he k => absurd k (no e he)) (fun _ => H)
end
end
section
/-! meetings; ACCEPT -/
def rd_mt (A : rd_St) (t c d : Nat) : rd_St := rd_sw (rd_sw (rd_sw (rd_sw (rd_sw (rd_sw A  4 c 2)  16 c (-1))  19 (8 * t + d) 1)  20 (8 * t + d) (nI c))  18 t (nI (d + 1)))  6 t (A 6 c)
theorem rd_x_beginMeeting {A : rd_St} {rl : Int32} {ra qa ql : Nat → Int32} {t c d : Nat} {post : SX → Prop} (ht : t < 8) (hc : c < 8) (hd : A 18 t = nI d) (h8 : d < 8) (H : post (rd_tX (rd_mt A t c d) rl ra qa ql)) : wpX_beginMeeting post (rd_tX A rl ra qa ql) (nI t) (nI c) := by
  have ct : (nI t).toNatClampNeg = t := nI_clamp (by omega)
  have cc : (nI c).toNatClampNeg = c := nI_clamp (by omega)
  have it : vp_in (nI t) 8 := vp_in_nI (by omega) (by omega)
  have ic : vp_in (nI c) 8 := vp_in_nI (by omega) (by omega)
  unfold wpX_beginMeeting
  refine ⟨ic, nm_r (e' := upd (A 4) c 2) (by rw [cc]) ⟨ic, nm_r (e' := upd (A 16) c (-1)) (by rw [cc]) ?_⟩⟩
  refine rd_x_putUpR (A := rd_sw (rd_sw A  4 c 2)  16 c (-1)) ht hd h8 ⟨ic, it, nm_r (e' := upd (A 6) t (A 6 c)) (by rw [ct, cc]; rfl) H⟩
theorem rd_i_mt {n E : Nat} {A : rd_St} {w : List Nat} {Q : Nat → List Nat} {t c d : Nat} (hn : n ≤ 8) (I1 : rd_Inv n 8 E (rd_sw (rd_sw A  4 c 2)  16 c (-1)) w Q) (ht : t < n) (hc : c < n) (tc : t ≠ c) (hd : A 18 t = nI d) (h8 : d < 8) (ht0 : A 4 t = 0) (nf : rd_nf n (A 18) (A 19) (A 20) c) : rd_Inv n 8 E (rd_mt A t c d) w Q := by
  have k : (rd_sw (rd_sw A  4 c 2)  16 c (-1)) 4 t = 0 := (rd_un tc).trans ht0
  exact rd_i_xs (rd_i_push (k := 1) (v := nI c) I1 ht hd h8 ⟨by rw [k]; decide, by rw [k]; decide, by rw [k]; decide, by rw [k]; decide, by rw [k]; decide⟩ (Or.inr (Or.inl ⟨rfl, c, hc, rfl, rd_us, nf⟩)))
/-- the reference's meet -/
theorem rd_y_meet {post : SY → Prop} {n e E D : Nat} {A : rd_St} {w : List Nat} {Q : Nat → List Nat} {ra qa wq am rz ob fr st : Nat → Int32} {bl : Int32} {t c d : Nat} {q : Int32} (I : rd_Inv n e E A w Q) (I1 : rd_Inv n 8 E (rd_sw (rd_sw A  4 c 2)  16 c (-1)) (w.filter (fun x => x != c)) (rd_fq Q c)) (hy : rd_YL 8 n D A w Q ra qa wq am rz ob fr st bl) (hDD : D ≤ 500) (ht : t < n) (hc : c < n) (k7 : A 4 c ≠ 7) (k8 : A 4 c ≠ 8) (k9 : A 4 c ≠ 9) (hd : A 18 t = nI d) (h8 : d < 8) (H : ∀ ra' qa' wq', rd_YL 8 n (D + 1) (rd_sw (rd_mt A t c d)  5 t q) (w.filter (fun x => x != c)) (rd_fq Q c) ra' qa' wq' am rz ob (upd fr (8 * t + d) (nI c)) (upd st c 2) bl → post (rd_tY (rd_sw (rd_mt A t c d)  5 t q) (nI (w.filter (fun x => x != c)).length) ra' qa' wq' am rz ob (upd fr (8 * t + d) (nI c)) (upd st c 2) bl)) : wpY_meet post (rd_tY A (nI w.length) ra qa wq am rz ob fr st bl) (nI t) (nI c) q := by
  have hn := I.vN.2
  have ct : (nI t).toNatClampNeg = t := nI_clamp (by omega)
  have cc : (nI c).toNatClampNeg = c := nI_clamp (by omega)
  have it : vp_in (nI t) 8 := vp_in_nI (by omega) (by omega)
  have ic : vp_in (nI c) 8 := vp_in_nI (by omega) (by omega)
  unfold wpY_meet
  refine rd_y_leaveQueues hn (by omega) (fun q => Nat.le_trans (rd_qlen I) hn) (fun q x hx => Nat.lt_of_lt_of_le ((I.vQ q).2 x hx).1 hn) hy.y2 hy.y3 (fun qa' wq' g2 g3 => ?_)
  refine rd_y_rest hy.r (by omega) (Nat.le_trans (rd_wlen I) hn) (fun x hx => Nat.lt_of_lt_of_le ((I.vR.2 x).mp hx).1 hn) (fun ra' gr => ?_)
  have hy1 : rd_YL 8 n D (rd_sw (rd_sw A  4 c 2)  16 c (-1)) (w.filter (fun x => x != c)) (rd_fq Q c) ra' qa' wq' am rz ob fr (upd st c 2) bl := ⟨gr, g2, g3, rd_y4_cd hy.y4 (Or.inr ⟨k7, k8, k9⟩), hy.y5, hy.y6, hy.y7, rd_y8_cd hy.y8 (by decide) k9 k8, rd_y9_u hy.y9 rfl, hy.y10⟩
  have hy2 := rd_YL_push (k := 1) (v := nI c) (f := nI c) I1 ht hd h8 hDD hy1 (Or.inl ⟨by decide, rfl, rfl⟩)
  refine rd_y_push (A := rd_sw (rd_sw A  4 c 2)  16 c (-1)) (by omega) hd h8 (nI c) ?_
  exact ⟨ic, it, nm_r (e' := upd (A 6) t (A 6 c)) (by rw [ct, cc]; rfl) ⟨it, nm_r (e' := upd (A 5) t q) (by rw [ct]; rfl) (H ra' qa' wq' hy2)⟩⟩
/-- the first of a queue: a caller -/
theorem rd_first {n e E : Nat} {A : rd_St} {w : List Nat} {Q : Nat → List Nat} {q c : Nat} {L : List Nat} (I : rd_Inv n e E A w Q) (hq : Q q = c :: L) : c < n ∧ A 4 c = 1 ∧ A 15 c = nI q ∧ q < 3 * n := (I.vQ q).2 c (by rw [hq]; simp)
theorem rd_x_meetFirst {n e E : Nat} {A : rd_St} {w : List Nat} {Q : Nat → List Nat} {u : SX} {t q c d : Nat} {L : List Nat} {post : SX → Prop} (I : rd_Inv n e E A w Q) (hu : rd_RX A w Q u) (ht : t < n) (hq : Q q = c :: L) (hd : A 18 t = nI d) (h8 : d < 8) (H : ∀ u', rd_RX (rd_mt A t c d) w (rd_fq Q c) u' → post u') : wpX_meetFirstOf post u (nI t) (nI q) := by
  have hn := I.vN.2
  obtain ⟨hc, c1, ccq, hq3⟩ := rd_first I hq
  obtain ⟨ra, qa, ql, rfl, hx⟩ := hu
  have i8 : nI q * 8 = nI (8 * q) := by
    have := rd_ix q 0 8 8 rfl
    rw [nI_0, Int32.add_zero] at this
    exact this
  have hl := (hx.2 q (by omega)).2
  rw [hq] at hl
  unfold wpX_meetFirstOf
  refine ⟨by rw [i8]; exact vp_in_nI (by omega) (by omega), nm_r (e' := nI c) (by rw [i8, nI_clamp (by omega)]; exact hl.1) ?_⟩
  refine rd_x_leaveQueue (rd_RX_mk hx) (by omega) (show q < 24 by omega) ccq (fun p => Nat.le_trans (rd_qlen I) hn) (fun x hx => Nat.lt_of_lt_of_le ((I.vQ q).2 x hx).1 hn) ?_
  rw [rd_dq_fq hn I.vQ ccq (by omega)]
  rintro u' ⟨ra1, qa1, ql1, rfl, hx1⟩
  refine rd_x_beginMeeting (by omega) (by omega) hd h8 ?_
  exact H _ (rd_RX_mk hx1)
section
variable {n D t p b' d : Nat} {a b : Int32} {A : rd_St} {w : List Nat} {Q : Nat → List Nat}
/-- a meeting with the first of a queue: the outcome, on both sides, the task going on at q -/
theorem rd_o_meet {op : Int32} {k c q : Nat} {L : List Nat} (C : rd_C n D t p b' A w Q) (hq : Q k = c :: L) (ed : A 18 t = nI d) (h8 : d < 8) (hq21 : q ≤ 21) (X : ∀ (post : SX → Prop) (ra qa ql : Nat → Int32), rd_XL w Q ra qa ql → (∀ P2 : SX → Prop, (∀ u', rd_RX (rd_mt A t c d) w (rd_fq Q c) u' → P2 u') → wpX_meetFirstOf P2 (rd_tX A (nI w.length) ra qa ql) (nI t) (nI k)) → (∀ u', rd_RX (rd_sw (rd_mt A t c d)  5 t (nI q)) w (rd_fq Q c) u' → post u') → wX_perform_119 post (nI t) (nI (p + 1)) op a b (nI w.length) (A 25 0) (A 26 0) (A 27 0) (A 28 0) (A 29 0) (A 30 0) (A 31 0) (A 0) (A 1) (A 2) (A 3) (A 4) (A 5) (A 6) (A 7) (A 8) (A 9) (A 10) (A 11) (A 12) (A 13) (A 14) (A 15) (A 16) (A 17) (A 18) (A 19) (A 20) qa ql ra (A 21) (A 22) (A 32) (A 23)) (Y : ∀ (post : SY → Prop) (ra qa wq am rz ob fr st : Nat → Int32) (bl : Int32), rd_YL 8 n D A w Q ra qa wq am rz ob fr st bl → wpY_meet (fun u => match u with | (f_tasks_1, f_blocks_1, f_readies_1, f_time_1, f_done_1, f_turns_1, f_notes_1, a_length_1, a_ops_1, a_as_1, a_bs_1, a_states_1, a_places_1, a_xs_1, a_limits_1, a_bodies_1, a_ends_1, a_raised_1, a_until_1, a_high_1, a_kinds_1, a_frames_1, a_on_1, a_onBlock_1, a_doomed_1, a_queues_1, a_waiting_1, a_row_1, a_dying_1, a_among_1, a_noteTask_1, a_noteInt_1) => post (f_tasks_1, f_blocks_1, f_readies_1, f_time_1, f_done_1, f_turns_1, f_notes_1, a_length_1, a_ops_1, a_as_1, a_bs_1, a_states_1, a_places_1, a_xs_1, a_limits_1, a_bodies_1, a_ends_1, a_raised_1, a_until_1, a_high_1, a_kinds_1, a_frames_1, a_on_1, a_onBlock_1, a_doomed_1, a_queues_1, a_waiting_1, a_row_1, a_dying_1, a_among_1, a_noteTask_1, a_noteInt_1)) (rd_tY A (nI w.length) ra qa wq am rz ob fr st bl) (nI t) (nI c) (nI q) → wpY_step post (rd_tY A (nI w.length) ra qa wq am rz ob fr st bl) (nI t) op a b) : rd_O1 n D t p op a b a b A w Q := by
  obtain ⟨I, ht, h0, hp, n9, epl, hpl, ebo, hbo, hD, hT, hN⟩ := id C
  have hn := I.vN.2
  obtain ⟨hc, c1, ccq, hk⟩ := rd_first I hq
  have tc : t ≠ c := fun y => by rw [← y, h0] at c1; exact absurd c1 (by decide)
  have k0 : A 4 c ≠ 0 := by rw [c1]; decide
  have k2 : A 4 c ≠ 2 := by rw [c1]; decide
  have k7 : A 4 c ≠ 7 := by rw [c1]; decide
  have k8 : A 4 c ≠ 8 := by rw [c1]; decide
  have k9 : A 4 c ≠ 9 := by rw [c1]; decide
  have wf : w.filter (fun x => x != c) = w := rd_fl_not (fun y => k0 ((I.vR.2 c).mp y).2)
  have I1 := rd_i_serve I hc c1
  have I2 := rd_i_mt hn I1 ht hc tc ed h8 h0 (rd_nf_of hn I.vF hc k2)
  have c0 : (rd_mt A t c d) 4 t = 0 := (rd_un tc).trans h0
  have I3 := rd_i_pl (t := t) (p := q) I2 ht hq21 (Or.inl c0)
  refine ⟨n, _, w, rd_fq Q c, I3, ⟨Nat.le_refl _, rfl, rfl, rfl, rfl, fun s hs y => ?_, fun _ => id⟩, fun _ => hp, ?_, ?_⟩
  · have y : upd (A 4) c 2 s = 9 := y
    by_cases r : s = c
    · rw [r, rd_us] at y; exact absurd y (by decide)
    · rw [rd_un r] at y; exact n9 s hs y
  · intro post ra qa ql hx H
    exact X post ra qa ql hx (fun P2 h => rd_x_meetFirst I (rd_RX_mk hx) ht hq ed h8 h) H
  · intro post ra qa wq am rz ob fr st bl hy H
    refine Y post ra qa wq am rz ob fr st bl hy ?_
    refine rd_y_meet I (by rw [wf]; exact I1) hy (by omega) ht hc k7 k8 k9 ed h8 (fun ra' qa' wq' hy2 => ?_)
    rw [wf] at hy2 ⊢
    exact H _ (rd_RY_mk hy2)
theorem rd_op13 {j : Nat} (C : rd_C n D t p b' A w Q) (hp20 : p < 20) (hj : j < 3) (ea : a = nI j) : rd_O1 n D t p 13 a b a b A w Q ∨ rd_O2 n D t p 13 a b a b A w Q := by
  obtain ⟨I, ht, h0, hp, n9, epl, hpl, ebo, hbo, hD, hT, hN⟩ := id C
  have hn := I.vN.2
  have ct : (nI t).toNatClampNeg = t := nI_clamp (by omega)
  have i8 : vp_in (nI t) 8 := vp_in_nI (by omega) (by omega)
  have k7 : A 4 t ≠ 7 := by rw [h0]; decide
  have k8 : A 4 t ≠ 8 := by rw [h0]; decide
  have k9 : A 4 t ≠ 9 := by rw [h0]; decide
  have wk1 : A 16 t = -1 := rd_wk0 I ht ⟨by rw [h0]; decide, by rw [h0]; decide, by rw [h0]; decide⟩
  have wl8 : w.length ≤ 8 := Nat.le_trans (rd_wlen I) hn
  have wx8 : ∀ x, x ∈ w → x < 8 := fun x hx => Nat.lt_of_lt_of_le ((I.vR.2 x).mp hx).1 hn
  have iq : nI t * 3 + nI j = nI (3 * t + j) := rd_ix t j 3 3 rfl
  have iq' : 3 * nI t + nI j = nI (3 * t + j) := rd_ix' t j 3 3 rfl
  have cq : (nI (3 * t + j)).toNatClampNeg = 3 * t + j := nI_clamp (by omega)
  have i24 : vp_in (nI (3 * t + j)) 24 := vp_in_nI (by omega) (by omega)
  obtain ⟨d, hd, ed, _⟩ := rd_dpos I ht
  subst ea
  by_cases z : d < 8
  · refine Or.inl ?_
    cases hQ : Q (3 * t + j) with
    | nil =>
      have J := rd_i_wait (s := 3) I ht h0 (by omega) ⟨p, hp20, epl⟩ hp (fun _ => ⟨d, z, ed⟩) (fun y => absurd y (by decide))
      have nz : (rd_sw A  4 t 3) 4 t ≠ 0 := by
        show upd (A 4) t 3 t ≠ 0
        rw [rd_us]; decide
      refine ⟨n, rd_sw A  4 t 3, _, Q, J, ⟨Nat.le_refl _, rfl, rfl, rfl, rfl, fun s hs y => ?_, fun y => absurd y nz⟩, fun y => absurd y nz, ?_, ?_⟩
      · have y : upd (A 4) t 3 s = 9 := y
        by_cases r : s = t
        · rw [r, rd_us] at y; exact absurd y (by decide)
        · rw [rd_un r] at y; exact n9 s hs y
      · intro post ra qa ql hx H
        have e0 := (hx.2 (3 * t + j) (by omega)).1
        rw [hQ] at e0
        refine br_f (by decide) <| br_f (by decide) <| br_f (by decide) <| br_f (by decide) <| br_f (by decide) <| br_f (by decide) <| br_f (by decide) <| br_f (by decide) <| br_f (by decide) <| br_f (by decide) <| br_f (by decide) <| br_f (by decide) <| br_f (by decide) <| br_f (by decide) <| br_f (by decide) <| br_t rfl <| ?_
        unfold wpX_doAccept
        refine ⟨i8, br_t (by rw [ct, ed]; exact nI_lt (b := 8) z (by omega)) (nm_r iq ⟨i24, br_t (by rw [cq]; exact e0) (rd_x_waitAs (rd_RX_mk hx) (by omega) wl8 wx8 ?_)⟩)⟩
        rintro u' ⟨ra1, qa1, ql1, rfl, hx1⟩
        exact ⟨i8, i8, nm_r (e' := A 5) (by rw [ct]; exact rd_ue rfl) (H _ (rd_RX_mk hx1))⟩
      · intro post ra qa wq am rz ob fr st bl hy H
        have e0 := (hy.y3 (3 * t + j) (by omega)).1
        rw [hQ] at e0
        refine rd_y_st (d := d) (by omega) epl ed hd (by decide) (by decide) (by decide) (by decide) (by decide) (Or.inl z) ?_
        refine br_f (by decide) <| br_f (by decide) <| br_f (by decide) <| br_f (by decide) <| br_f (by decide) <| br_f (by decide) <| br_f (by decide) <| br_f (by decide) <| br_f (by decide) <| br_f (by decide) <| br_f (by decide) <| br_t rfl <| ⟨by rw [iq']; exact i24, br_t (by rw [iq', cq]; exact e0) ?_⟩
        refine rd_y_rest hy.r (by omega) wl8 wx8 (fun ra' gr => ?_)
        rw [rd_sw_eq (A := A) (k :=  16) wk1]
        have hy := rd_YL_D hy
        exact H _ (rd_RY_mk (A := rd_sw A  4 t 3) ⟨gr, hy.y2, hy.y3, rd_y4_cd hy.y4 (Or.inr ⟨k7, k8, k9⟩), hy.y5, hy.y6, hy.y7, rd_y8_cd hy.y8 (by decide) k9 k8, rd_y9_u hy.y9 rfl, hy.y10⟩)
    | cons c L =>
      refine rd_o_meet (q := p + 1) C hQ ed z (by omega) ?_ ?_
      · intro post ra qa ql hx K H
        have e0 := (hx.2 (3 * t + j) (by omega)).1
        have hl8 := rd_qlen (q := 3 * t + j) I
        rw [hQ] at e0 hl8
        refine br_f (by decide) <| br_f (by decide) <| br_f (by decide) <| br_f (by decide) <| br_f (by decide) <| br_f (by decide) <| br_f (by decide) <| br_f (by decide) <| br_f (by decide) <| br_f (by decide) <| br_f (by decide) <| br_f (by decide) <| br_f (by decide) <| br_f (by decide) <| br_f (by decide) <| br_t rfl <| ?_
        unfold wpX_doAccept
        refine ⟨i8, br_t (by rw [ct, ed]; exact nI_lt (b := 8) z (by omega)) (nm_r iq ⟨i24, br_f (by rw [cq, e0]; exact nI_ne0 (by simp) (by omega)) (K _ ?_)⟩)⟩
        rintro u' ⟨ra1, qa1, ql1, rfl, hx1⟩
        exact ⟨i8, i8, nm_r (e' := upd (A 5) t (nI (p + 1))) (by rw [ct]; show upd (A 5) t (A 5 t + 1) = _; rw [epl, nI_1]) (H _ (rd_RX_mk (A := rd_sw (rd_mt A t c d)  5 t (nI (p + 1))) hx1))⟩
      · intro post ra qa wq am rz ob fr st bl hy P
        obtain ⟨e0, e1⟩ := hy.y3 (3 * t + j) (by omega)
        have hl8 := rd_qlen (q := 3 * t + j) I
        rw [hQ] at e0 e1 hl8
        have i8' : 8 * nI (3 * t + j) = nI (8 * (3 * t + j)) := by
          have := rd_ix' (3 * t + j) 0 8 8 rfl
          rw [nI_0, Int32.add_zero] at this
          exact this
        refine rd_y_st (d := d) (by omega) epl ed hd (by decide) (by decide) (by decide) (by decide) (by decide) (Or.inl z) ?_
        refine br_f (by decide) <| br_f (by decide) <| br_f (by decide) <| br_f (by decide) <| br_f (by decide) <| br_f (by decide) <| br_f (by decide) <| br_f (by decide) <| br_f (by decide) <| br_f (by decide) <| br_f (by decide) <| br_t rfl <| ⟨by rw [iq']; exact i24, br_f (by rw [iq', cq, e0]; exact nI_ne0 (by simp) (by omega)) ?_⟩
        rw [iq', i8', nI_clamp (show 8 * (3 * t + j) < 2 ^ 31 by omega), e1.1, nI_1]
        exact ⟨vp_in_nI (by omega) (by omega), P⟩
  · refine Or.inr (rd_mkO2 C 13 (by omega) (by omega) ?_ ?_)
    · intro post ra qa ql H
      refine br_f (by decide) <| br_f (by decide) <| br_f (by decide) <| br_f (by decide) <| br_f (by decide) <| br_f (by decide) <| br_f (by decide) <| br_f (by decide) <| br_f (by decide) <| br_f (by decide) <| br_f (by decide) <| br_f (by decide) <| br_f (by decide) <| br_f (by decide) <| br_f (by decide) <| br_t rfl <| ?_
      unfold wpX_doAccept
      exact ⟨i8, br_f (by rw [ct, ed]; exact nI_nlt (b := 8) (by omega) (by omega)) H⟩
    · intro post ra qa wq am rz ob fr st bl H
      exact rd_y_stf (by omega) epl (by rw [ed]; congr 1; omega) (by decide) (by decide) (by decide) (by decide) (Or.inr (Or.inl rfl)) H
end
end
section
/-! alternatives, on both sides -/
def rd_opn (op x : Int32) : Bool := decide (op = 16 ∨ (op = 17 ∧ x ≠ 0))
theorem rd_opn_t {op x : Int32} : rd_opn op x = true ↔ (op = 16 ∨ (op = 17 ∧ x ≠ 0)) := by
  unfold rd_opn
  exact decide_eq_true_iff
theorem rd_opn_f {op x : Int32} : rd_opn op x = false ↔ ¬ (op = 16 ∨ (op = 17 ∧ x ≠ 0)) := by
  unfold rd_opn
  exact decide_eq_false_iff_not
/-- where a task stands: its body, its place, the body's length -/
def rd_at (A : rd_St) (t b p L : Nat) : Prop := A 8 t = nI b ∧ b < 4 ∧ A 5 t = nI p ∧ p ≤ 21 ∧ A 3 b = nI L ∧ L ≤ 20
section
variable {A : rd_St} {t b p L : Nat}
theorem rd_at_op (h : rd_at A t b p L) (i : Nat) : (i < L → rd_op (A 0) (A 3) b i = A 0 (20 * b + i)) ∧ (¬ i < L → rd_op (A 0) (A 3) b i = 25) := by
  obtain ⟨h1, h2, h3, h4, h5, h6⟩ := h
  have e : (A 3 b).toNatClampNeg = L := by rw [h5]; exact nI_clamp (by omega)
  exact ⟨fun z => rd_op_i (by rw [e]; exact z), fun z => rd_op_o (by rw [e]; exact z)⟩
theorem rd_at_in (h : rd_at A t b p L) {i : Nat} (z : 16 ≤ rd_op (A 0) (A 3) b i ∧ rd_op (A 0) (A 3) b i ≤ 20) : i < L := by
  apply Classical.byContradiction
  intro y
  rw [(rd_at_op h i).2 y] at z
  exact absurd z (by decide)
variable {rl : Int32} {ra qa wq am rz ob fr st ql : Nat → Int32} {bl : Int32}
theorem rd_y_opAt {post : Int32 → Prop} (h : rd_at A t b p L) (ht : t < 8) {i : Nat} (hi : i < 1000) (P : post (rd_op (A 0) (A 3) b i)) : wpY_opAt post (rd_tY A rl ra qa wq am rz ob fr st bl) (nI t) (nI i) := by
  have h' := rd_at_op h i
  obtain ⟨h1, h2, h3, h4, h5, h6⟩ := h
  have ct : (nI t).toNatClampNeg = t := nI_clamp (by omega)
  have cb : (nI b).toNatClampNeg = b := nI_clamp (by omega)
  have i8 : vp_in (nI t) 8 := vp_in_nI ht (by omega)
  unfold wpY_opAt
  refine ⟨i8, ?_⟩
  rw [ct, h1, cb, h5, rd_ix' b i 20 20 rfl]
  refine ⟨vp_in_nI h2 (by omega), ?_⟩
  by_cases z : i < L
  · rw [h'.1 z] at P
    refine br_f (nI_ge z (by omega)) ⟨i8, vp_in_nI (by omega) (by omega), ?_⟩
    rw [nI_clamp (by omega)]
    exact P
  · rw [h'.2 z] at P
    exact br_t (nI_le (by omega) (by omega)) P
theorem rd_y_aAt {post : Int32 → Prop} (h : rd_at A t b p L) (ht : t < 8) {i : Nat} (hi : i < 20) (P : post (A 1 (20 * b + i))) : wpY_aAt post (rd_tY A rl ra qa wq am rz ob fr st bl) (nI t) (nI i) := by
  obtain ⟨h1, h2, h3, h4, h5, h6⟩ := h
  have ct : (nI t).toNatClampNeg = t := nI_clamp (by omega)
  unfold wpY_aAt
  refine ⟨vp_in_nI ht (by omega), ?_⟩
  rw [ct, h1, rd_ix' b i 20 20 rfl, nI_clamp (by omega)]
  exact ⟨vp_in_nI (by omega) (by omega), P⟩
theorem rd_y_isOpen {post : Int32 → Prop} (h : rd_at A t b p L) (ht : t < 8) {i : Nat} (hi : i < 1000) (H1 : rd_opn (rd_op (A 0) (A 3) b i) (A 6 t) = true → post 1) (H0 : rd_opn (rd_op (A 0) (A 3) b i) (A 6 t) = false → post 0) : wpY_isOpen post (rd_tY A rl ra qa wq am rz ob fr st bl) (nI t) (nI i) := by
  have ct : (nI t).toNatClampNeg = t := nI_clamp (by omega)
  unfold wpY_isOpen
  refine rd_y_opAt h ht hi (br_c (fun z => H1 (rd_opn_t.mpr (Or.inl z))) (fun z => rd_y_opAt h ht hi (br_c (fun y => ⟨vp_in_nI ht (by omega), ?_⟩) (fun y => H0 (rd_opn_f.mpr ?_)))))
  · rw [ct]
    exact br_c (fun x => H0 (rd_opn_f.mpr (by rintro (q | q); exact z q; exact q.2 x))) (fun x => H1 (rd_opn_t.mpr (Or.inr ⟨y, x⟩)))
  · rintro (q | q)
    · exact z q
    · exact y q.1
theorem rd_lt16 {x : Int32} : ¬ x < 16 ↔ 16 ≤ x := Int32.not_lt
theorem rd_gt20 {x : Int32} : ¬ 20 < x ↔ x ≤ 20 := Int32.not_lt
/-- the first of ELSE, AFTER, TERMINATE -/
theorem rd_yl_oth {post : Int32 → Prop} (h : rd_at A t b p L) (ht : t < 8) : ∀ (d i : Nat), 21 ≤ i + d → i + d < 500 → (rd_scan (rd_op (A 0) (A 3) b) (fun i => decide (18 ≤ rd_op (A 0) (A 3) b i)) d i = none → post (-1)) → (∀ k, rd_scan (rd_op (A 0) (A 3) b) (fun i => decide (18 ≤ rd_op (A 0) (A 3) b i)) d i = some k → post (nI k)) → wY_other_9 post (nI t) (A 26 0) bl rl (A 27 0) (A 28 0) (A 29 0) (A 25 0) (A 3) (A 0) (A 1) (A 2) st (A 5) (A 6) (A 11) (A 8) (A 7) rz (A 16) (A 18) (A 19) fr (A 9) ob (A 13) qa wq ra (A 33) am (A 21) (A 22) (d + 1) (nI i) := by
  intro d
  induction d with
  | zero =>
    intro i h1 h2 H0 H1
    have e : rd_op (A 0) (A 3) b i = 25 := (rd_at_op h i).2 (by have := h.2.2.2.2.2; omega)
    rw [wY_other_9]
    refine rd_y_opAt (i := i) h ht (by omega) ?_
    rw [e]
    refine br_f (by decide) (rd_y_opAt (i := i) h ht (by omega) ?_)
    rw [e]
    exact br_t (by decide) (H0 rfl)
  | succ d ih =>
    intro i h1 h2 H0 H1
    by_cases z : 16 ≤ rd_op (A 0) (A 3) b i ∧ rd_op (A 0) (A 3) b i ≤ 20
    · rw [wY_other_9]
      refine rd_y_opAt (i := i) h ht (by omega) (br_f (rd_lt16.mpr z.1) (rd_y_opAt (i := i) h ht (by omega) (br_f (rd_gt20.mpr z.2) (rd_y_opAt (i := i) h ht (by omega) ?_))))
      by_cases y : 18 ≤ rd_op (A 0) (A 3) b i
      · exact br_f (Int32.not_lt.mpr y) (H1 i (rd_scan_s _ _ d i z (by simpa using y)))
      · have e := rd_scan_n (rd_op (A 0) (A 3) b) (fun i => decide (18 ≤ rd_op (A 0) (A 3) b i)) d i z (by simpa using y)
        rw [e] at H0 H1
        exact br_t (Int32.not_le.mp y) (nm_r (nI_1 i) (ih (i + 1) (by omega) (by omega) H0 H1))
    · have e := rd_scan_no (rd_op (A 0) (A 3) b) (fun i => decide (18 ≤ rd_op (A 0) (A 3) b i)) (d + 1) i z
      rw [wY_other_9]
      refine rd_y_opAt (i := i) h ht (by omega) (br_c (fun _ => H0 e) (fun y => rd_y_opAt (i := i) h ht (by omega) (br_c (fun _ => H0 e) (fun x => ?_))))
      exact absurd ⟨rd_lt16.mp y, rd_gt20.mp x⟩ z
theorem rd_y_other {post : Int32 → Prop} (h : rd_at A t b p L) (ht : t < 8) (H0 : rd_oth (A 0) (A 3) b p = none → post (-1)) (H1 : ∀ k, rd_oth (A 0) (A 3) b p = some k → post (nI k)) : wpY_other post (rd_tY A rl ra qa wq am rz ob fr st bl) (nI t) := by
  have ct : (nI t).toNatClampNeg = t := nI_clamp (by omega)
  have hp := h.2.2.2.1
  unfold wpY_other
  exact ⟨vp_in_nI ht (by omega), nm_r (e' := nI (p + 1)) (by rw [ct, h.2.2.1, nI_1]) ⟨_, rd_yl_oth h ht 21 (p + 1) (by omega) (by omega) H0 H1⟩⟩
theorem rd_yl_hop {post : Int32 → Prop} (h : rd_at A t b p L) (ht : t < 8) : ∀ (d i : Nat), 21 ≤ i + d → i + d < 500 → (rd_scan (rd_op (A 0) (A 3) b) (fun i => rd_opn (rd_op (A 0) (A 3) b i) (A 6 t)) d i = none → post 0) → (∀ k, rd_scan (rd_op (A 0) (A 3) b) (fun i => rd_opn (rd_op (A 0) (A 3) b i) (A 6 t)) d i = some k → post 1) → wY_hasOpen_9 post (nI t) (A 26 0) bl rl (A 27 0) (A 28 0) (A 29 0) (A 25 0) (A 3) (A 0) (A 1) (A 2) st (A 5) (A 6) (A 11) (A 8) (A 7) rz (A 16) (A 18) (A 19) fr (A 9) ob (A 13) qa wq ra (A 33) am (A 21) (A 22) (d + 1) (nI i) := by
  intro d
  induction d with
  | zero =>
    intro i h1 h2 H0 H1
    have e : rd_op (A 0) (A 3) b i = 25 := (rd_at_op h i).2 (by have := h.2.2.2.2.2; omega)
    rw [wY_hasOpen_9]
    refine rd_y_opAt (i := i) h ht (by omega) ?_
    rw [e]
    refine br_f (by decide) (rd_y_opAt (i := i) h ht (by omega) ?_)
    rw [e]
    exact br_t (by decide) (H0 rfl)
  | succ d ih =>
    intro i h1 h2 H0 H1
    by_cases z : 16 ≤ rd_op (A 0) (A 3) b i ∧ rd_op (A 0) (A 3) b i ≤ 20
    · rw [wY_hasOpen_9]
      refine rd_y_opAt (i := i) h ht (by omega) (br_f (rd_lt16.mpr z.1) (rd_y_opAt (i := i) h ht (by omega) (br_f (rd_gt20.mpr z.2) (rd_y_isOpen (i := i) h ht (by omega) (fun y => br_f (by decide) (H1 i (rd_scan_s _ _ d i z y))) (fun y => br_t rfl (nm_r (nI_1 i) ?_))))))
      have e := rd_scan_n (rd_op (A 0) (A 3) b) (fun i => rd_opn (rd_op (A 0) (A 3) b i) (A 6 t)) d i z y
      rw [e] at H0 H1
      exact ih (i + 1) (by omega) (by omega) H0 H1
    · have e := rd_scan_no (rd_op (A 0) (A 3) b) (fun i => rd_opn (rd_op (A 0) (A 3) b i) (A 6 t)) (d + 1) i z
      rw [wY_hasOpen_9]
      refine rd_y_opAt (i := i) h ht (by omega) (br_c (fun _ => H0 e) (fun y => rd_y_opAt (i := i) h ht (by omega) (br_c (fun _ => H0 e) (fun x => ?_))))
      exact absurd ⟨rd_lt16.mp y, rd_gt20.mp x⟩ z
theorem rd_y_hasOpen {post : Int32 → Prop} (h : rd_at A t b p L) (ht : t < 8) (H0 : rd_scan (rd_op (A 0) (A 3) b) (fun i => rd_opn (rd_op (A 0) (A 3) b i) (A 6 t)) 21 (p + 1) = none → post 0) (H1 : ∀ k, rd_scan (rd_op (A 0) (A 3) b) (fun i => rd_opn (rd_op (A 0) (A 3) b i) (A 6 t)) 21 (p + 1) = some k → post 1) : wpY_hasOpen post (rd_tY A rl ra qa wq am rz ob fr st bl) (nI t) := by
  have ct : (nI t).toNatClampNeg = t := nI_clamp (by omega)
  have hp := h.2.2.2.1
  unfold wpY_hasOpen
  exact ⟨vp_in_nI ht (by omega), nm_r (e' := nI (p + 1)) (by rw [ct, h.2.2.1, nI_1]) ⟨_, rd_yl_hop h ht 21 (p + 1) (by omega) (by omega) H0 H1⟩⟩
/-- an alternative of an entry, or (with S) one whose queue has some -/
theorem rd_yl_alt {post : Int32 → Prop} (h : rd_at A t b p L) (ht : t < 8) (x : Int32) (S : Nat → Bool) (hS : ∀ i, rd_opn (rd_op (A 0) (A 3) b i) (A 6 t) = true → i < 20 → ∀ (P1 P0 : Prop), (S i = true → P1) → (S i = false → P0) → ((0 ≤ x → ((A 1 (20 * b + i) = x → P1) ∧ (¬ A 1 (20 * b + i) = x → P0))) ∧ (¬ 0 ≤ x → (vp_in (3 * nI t + A 1 (20 * b + i)) 24 ∧ ((wq (3 * nI t + A 1 (20 * b + i)).toNatClampNeg ≤ 0 → P0) ∧ (¬ wq (3 * nI t + A 1 (20 * b + i)).toNatClampNeg ≤ 0 → P1)))))) : ∀ (d i : Nat), 21 ≤ i + d → i + d < 500 → (rd_scan (rd_op (A 0) (A 3) b) (fun i => rd_opn (rd_op (A 0) (A 3) b i) (A 6 t) && S i) d i = none → post (-1)) → (∀ k, rd_scan (rd_op (A 0) (A 3) b) (fun i => rd_opn (rd_op (A 0) (A 3) b i) (A 6 t) && S i) d i = some k → post (nI k)) → wY_alternative_9 post (nI t) x (A 26 0) bl rl (A 27 0) (A 28 0) (A 29 0) (A 25 0) (A 3) (A 0) (A 1) (A 2) st (A 5) (A 6) (A 11) (A 8) (A 7) rz (A 16) (A 18) (A 19) fr (A 9) ob (A 13) qa wq ra (A 33) am (A 21) (A 22) (d + 1) (nI i) := by
  intro d
  induction d with
  | zero =>
    intro i h1 h2 H0 H1
    have e : rd_op (A 0) (A 3) b i = 25 := (rd_at_op h i).2 (by have := h.2.2.2.2.2; omega)
    rw [wY_alternative_9]
    refine rd_y_opAt (i := i) h ht (by omega) ?_
    rw [e]
    refine br_f (by decide) (rd_y_opAt (i := i) h ht (by omega) ?_)
    rw [e]
    exact br_t (by decide) (H0 rfl)
  | succ d ih =>
    intro i h1 h2 H0 H1
    by_cases z : 16 ≤ rd_op (A 0) (A 3) b i ∧ rd_op (A 0) (A 3) b i ≤ 20
    · have hiL := rd_at_in h z
      have i20 : i < 20 := by have := h.2.2.2.2.2; omega
      have nxt : (rd_opn (rd_op (A 0) (A 3) b i) (A 6 t) && S i) = false → wY_alternative_9 post (nI t) x (A 26 0) bl rl (A 27 0) (A 28 0) (A 29 0) (A 25 0) (A 3) (A 0) (A 1) (A 2) st (A 5) (A 6) (A 11) (A 8) (A 7) rz (A 16) (A 18) (A 19) fr (A 9) ob (A 13) qa wq ra (A 33) am (A 21) (A 22) (d + 1) (nI (i + 1)) := by
        intro y
        have e := rd_scan_n (rd_op (A 0) (A 3) b) (fun i => rd_opn (rd_op (A 0) (A 3) b i) (A 6 t) && S i) d i z y
        rw [e] at H0 H1
        exact ih (i + 1) (by omega) (by omega) H0 H1
      rw [wY_alternative_9]
      refine rd_y_opAt (i := i) h ht (by omega) (br_f (rd_lt16.mpr z.1) (rd_y_opAt (i := i) h ht (by omega) (br_f (rd_gt20.mpr z.2) (rd_y_isOpen (i := i) h ht (by omega) (fun y => br_f (by decide) (rd_y_aAt (i := i) h ht i20 ?_)) (fun y => br_t rfl (nm_r (nI_1 i) (nxt (by rw [y]; rfl))))))))
      have key := hS i y i20 (post (nI i)) (wY_alternative_9 post (nI t) x (A 26 0) bl rl (A 27 0) (A 28 0) (A 29 0) (A 25 0) (A 3) (A 0) (A 1) (A 2) st (A 5) (A 6) (A 11) (A 8) (A 7) rz (A 16) (A 18) (A 19) fr (A 9) ob (A 13) qa wq ra (A 33) am (A 21) (A 22) (d + 1) (nI (i + 1))) (fun q => H1 i (rd_scan_s _ _ d i z (by rw [y, q]; rfl))) (fun q => nxt (by rw [y, q]; rfl))
      exact ⟨fun g => ⟨fun g1 => (key.1 g).1 g1, fun g1 => nm_r (nI_1 i) ((key.1 g).2 g1)⟩, fun g => ⟨(key.2 g).1, fun g1 => nm_r (nI_1 i) ((key.2 g).2.1 g1), fun g1 => (key.2 g).2.2 g1⟩⟩
    · have e := rd_scan_no (rd_op (A 0) (A 3) b) (fun i => rd_opn (rd_op (A 0) (A 3) b i) (A 6 t) && S i) (d + 1) i z
      rw [wY_alternative_9]
      refine rd_y_opAt (i := i) h ht (by omega) (br_c (fun _ => H0 e) (fun y => rd_y_opAt (i := i) h ht (by omega) (br_c (fun _ => H0 e) (fun x => ?_))))
      exact absurd ⟨rd_lt16.mp y, rd_gt20.mp x⟩ z
end
end
section
/-! alternatives: the component -/
theorem rd_x_within {post : Int32 → Prop} {u : SX} {a lo hi : Int32} (H1 : lo ≤ a → a ≤ hi → post 1) (H0 : ¬ (lo ≤ a ∧ a ≤ hi) → post 0) : wpX_within post u a lo hi := by
  obtain ⟨_, _, _, _, _, _, _, _, _, _, _, _, _, _, _, _, _, _, _, _, _, _, _, _, _, _, _, _, _, _, _, _, _, _, _, _⟩ := u
  unfold wpX_within
  exact br_c (fun z => H0 (fun y => absurd z (Int32.not_lt.mpr y.1))) (fun z => br_c (fun y => H0 (fun x => absurd y (Int32.not_lt.mpr x.2))) (fun y => H1 (Int32.not_lt.mp z) (Int32.not_lt.mp y)))
section
variable {A : rd_St} {t b p L : Nat} {rl : Int32} {ra qa ql : Nat → Int32}
/-- e is where the alternatives from k on end -/
def rd_eo (A : rd_St) (b L k e : Nat) : Prop := e ≤ 20 ∧ (k ≤ L → k ≤ e) ∧ ∀ i, k ≤ i → (∀ j, k ≤ j → j < i → 16 ≤ rd_op (A 0) (A 3) b j ∧ rd_op (A 0) (A 3) b j ≤ 20) → (e ≤ i ↔ ¬ (16 ≤ rd_op (A 0) (A 3) b i ∧ rd_op (A 0) (A 3) b i ≤ 20))
theorem rd_xl_eo {post : Int32 → Prop} (h : rd_at A t b p L) : ∀ (d k : Nat), L ≤ k + d → k + d < 500 → (∀ e, rd_eo A b L k e → post (nI e)) → wX_endOfAlternatives_32 post (nI (20 * b)) (nI L) rl (A 25 0) (A 26 0) (A 27 0) (A 28 0) (A 29 0) (A 30 0) (A 31 0) (A 0) (A 1) (A 2) (A 3) (A 4) (A 5) (A 6) (A 7) (A 8) (A 9) (A 10) (A 11) (A 12) (A 13) (A 14) (A 15) (A 16) (A 17) (A 18) (A 19) (A 20) qa ql ra (A 21) (A 22) (A 32) (A 23) (d + 1) (nI k)
  | d, k, h1, h2, H => by
    have hL := h.2.2.2.2.2
    have hb := h.2.1
    by_cases z : L ≤ k
    · refine br_t (nI_le z (by omega)) (H L ⟨hL, fun y => by omega, fun i hi _ => ⟨fun _ y => ?_, fun _ => by omega⟩⟩)
      have := rd_at_in h y
      omega
    · cases d with
      | zero => omega
      | succ d =>
        have ik : nI (20 * b) + nI k = nI (20 * b + k) := nI_add _ _
        have ck : (nI (20 * b + k)).toNatClampNeg = 20 * b + k := nI_clamp (by omega)
        have eo := (rd_at_op h k).1 (by omega)
        refine br_f (nI_ge (by omega) (by omega)) ?_
        rw [ik, ck, ← eo]
        refine ⟨vp_in_nI (by omega) (by omega), rd_x_within (fun y1 y2 => br_f (by decide) (nm_r (nI_1 k) (rd_xl_eo h d (k + 1) (by omega) (by omega) (fun e he => H e ⟨he.1, fun _ => by have := he.2.1 (by omega); omega, fun i hi hj => ?_⟩)))) (fun y => br_t rfl (H k ⟨by omega, fun _ => Nat.le_refl _, fun i hi hj => ?_⟩))⟩
        · by_cases x : i = k
          · subst x
            have := he.2.1 (by omega)
            exact ⟨fun q => by omega, fun q => absurd ⟨y1, y2⟩ q⟩
          · exact he.2.2 i (by omega) (fun j a1 a2 => hj j (by omega) a2)
        · have x : i = k := by
            apply Classical.byContradiction
            intro x
            exact y (hj k (Nat.le_refl _) (by omega))
          subst x
          exact ⟨fun _ => y, fun _ => Nat.le_refl _⟩
theorem rd_x_eo {post : Int32 → Prop} (h : rd_at A t b p L) (ht : t < 8) (H : ∀ e, rd_eo A b L (p + 1) e → post (nI e)) : wpX_endOfAlternatives post (rd_tX A rl ra qa ql) (nI t) := by
  have ct : (nI t).toNatClampNeg = t := nI_clamp (by omega)
  have i8 : vp_in (nI t) 8 := vp_in_nI ht (by omega)
  obtain ⟨h1, h2, h3, h4, h5, h6⟩ := id h
  have cb : (nI b).toNatClampNeg = b := nI_clamp (by omega)
  have e20 : nI b * 20 = nI (20 * b) := by
    have := rd_ix b 0 20 20 rfl
    rw [nI_0, Int32.add_zero] at this
    exact this
  unfold wpX_endOfAlternatives
  refine ⟨i8, nm_r (e' := nI (20 * b)) (by rw [ct, h1, e20]) ⟨i8, by rw [ct, h1]; exact vp_in_nI h2 (by omega), nm_r (e' := nI L) (by rw [ct, h1, cb]; exact h5) ⟨i8, nm_r (e' := nI (p + 1)) (by rw [ct, h3, nI_1]) ⟨_, rd_xl_eo h 21 (p + 1) (by omega) (by omega) H⟩⟩⟩⟩
theorem rd_x_isOpen {post : Int32 → Prop} (h : rd_at A t b p L) (ht : t < 8) {i : Nat} (hi : i < L) (H1 : rd_opn (rd_op (A 0) (A 3) b i) (A 6 t) = true → post 1) (H0 : rd_opn (rd_op (A 0) (A 3) b i) (A 6 t) = false → post 0) : wpX_isOpen post (rd_tX A rl ra qa ql) (nI t) (nI i) := by
  have ct : (nI t).toNatClampNeg = t := nI_clamp (by omega)
  have i8 : vp_in (nI t) 8 := vp_in_nI ht (by omega)
  have eo := (rd_at_op h i).1 hi
  obtain ⟨h1, h2, h3, h4, h5, h6⟩ := id h
  have ii : nI b * 20 + nI i = nI (20 * b + i) := rd_ix b i 20 20 rfl
  unfold wpX_isOpen
  refine ⟨i8, ?_⟩
  rw [ct, h1, ii, nI_clamp (by omega), ← eo]
  refine ⟨vp_in_nI (by omega) (by omega), nm_e (br_c (fun z => H1 (rd_opn_t.mpr (Or.inl z))) (fun z => br_c (fun y => ⟨i8, br_c (fun x => H0 (rd_opn_f.mpr ?_)) (fun x => H1 (rd_opn_t.mpr (Or.inr ⟨y, x⟩)))⟩) (fun y => H0 (rd_opn_f.mpr ?_))))⟩
  · rintro (q | q)
    · exact z q
    · exact q.2 x
  · rintro (q | q)
    · exact z q
    · exact y q.1
/-- the scan for a call of an entry -/
def rd_sc (A : rd_St) (t b : Nat) (x : Int32) : Nat → Nat → Option Nat := rd_scan (rd_op (A 0) (A 3) b) (fun i => rd_opn (rd_op (A 0) (A 3) b i) (A 6 t) && decide (A 1 (20 * b + i) = x))
theorem rd_xl_pm {post : Int32 → Prop} {x : Int32} {e k0 : Nat} (h : rd_at A t b p L) (ht : t < 8) (he : rd_eo A b L k0 e) : ∀ (d k : Nat), 21 ≤ k + d → k + d < 500 → k0 ≤ k → (∀ j, k0 ≤ j → j < k → 16 ≤ rd_op (A 0) (A 3) b j ∧ rd_op (A 0) (A 3) b j ≤ 20) → (rd_sc A t b x d k = none → post (-1)) → (∀ i, rd_sc A t b x d k = some i → post (A 2 (20 * b + i))) → wX_placeToMeet_73 post (nI t) x (nI (20 * b)) (nI e) rl (A 25 0) (A 26 0) (A 27 0) (A 28 0) (A 29 0) (A 30 0) (A 31 0) (A 0) (A 1) (A 2) (A 3) (A 4) (A 5) (A 6) (A 7) (A 8) (A 9) (A 10) (A 11) (A 12) (A 13) (A 14) (A 15) (A 16) (A 17) (A 18) (A 19) (A 20) qa ql ra (A 21) (A 22) (A 32) (A 23) (d + 1) (nI k) := by
  intro d
  induction d with
  | zero =>
    intro k h1 h2 h3 h4 H0 H1
    have := he.1
    exact br_t (nI_le (by omega) (by omega)) (H0 rfl)
  | succ d ih =>
    intro k h1 h2 h3 h4 H0 H1
    have hb := h.2.1
    have hL := h.2.2.2.2.2
    by_cases z : 16 ≤ rd_op (A 0) (A 3) b k ∧ rd_op (A 0) (A 3) b k ≤ 20
    · have hk := rd_at_in h z
      have he1 := he.1
      have ek : ¬ e ≤ k := fun y => (he.2.2 k h3 h4).mp y z
      have ik : nI (20 * b) + nI k = nI (20 * b + k) := nI_add _ _
      have ck : (nI (20 * b + k)).toNatClampNeg = 20 * b + k := nI_clamp (by omega)
      have i80 : vp_in (nI (20 * b + k)) 80 := vp_in_nI (by omega) (by omega)
      have nxt : (rd_opn (rd_op (A 0) (A 3) b k) (A 6 t) && decide (A 1 (20 * b + k) = x)) = false → wX_placeToMeet_73 post (nI t) x (nI (20 * b)) (nI e) rl (A 25 0) (A 26 0) (A 27 0) (A 28 0) (A 29 0) (A 30 0) (A 31 0) (A 0) (A 1) (A 2) (A 3) (A 4) (A 5) (A 6) (A 7) (A 8) (A 9) (A 10) (A 11) (A 12) (A 13) (A 14) (A 15) (A 16) (A 17) (A 18) (A 19) (A 20) qa ql ra (A 21) (A 22) (A 32) (A 23) (d + 1) (nI (k + 1)) := by
        intro y
        have e' : rd_sc A t b x (d + 1) k = rd_sc A t b x d (k + 1) := rd_scan_n _ _ d k z y
        rw [e'] at H0 H1
        refine ih (k + 1) (by omega) (by omega) (by omega) (fun j a1 a2 => ?_) H0 H1
        by_cases q : j = k
        · rw [q]; exact z
        · exact h4 j a1 (by omega)
      refine br_f (nI_ge (by omega) (by omega)) ?_
      rw [ik, ck]
      refine ⟨i80, br_c (fun y => rd_x_isOpen (i := k) h ht hk (fun q => br_f (by decide) ⟨i80, H1 k (rd_scan_s _ _ d k z (by rw [q]; simpa using y))⟩) (fun q => br_t rfl (nm_r (nI_1 k) (nxt (by rw [q]; rfl))))) (fun y => nm_r (nI_1 k) (nxt ?_))⟩
      rw [decide_eq_false y]
      exact Bool.and_false _
    · have ek : e ≤ k := (he.2.2 k h3 h4).mpr z
      exact br_t (nI_le ek (by omega)) (H0 (rd_scan_no _ _ (d + 1) k z))
/-- where a called task goes on; -1: it does not wait for such a call -/
theorem rd_x_pm {post : Int32 → Prop} {x : Int32} (h : rd_at A t b p L) (ht : t < 8) (H3 : A 4 t = 3 → p < 20 → (A 1 (20 * b + p) = x → post (nI (p + 1))) ∧ (A 1 (20 * b + p) ≠ x → post (-1))) (h3 : A 4 t = 3 → p < 20) (H4 : A 4 t = 4 → (rd_sc A t b x 21 (p + 1) = none → post (-1)) ∧ (∀ i, rd_sc A t b x 21 (p + 1) = some i → post (A 2 (20 * b + i)))) (H0 : A 4 t ≠ 3 → A 4 t ≠ 4 → post (-1)) : wpX_placeToMeet post (rd_tX A rl ra qa ql) (nI t) x := by
  have ct : (nI t).toNatClampNeg = t := nI_clamp (by omega)
  have i8 : vp_in (nI t) 8 := vp_in_nI ht (by omega)
  obtain ⟨h1, h2, h3', h4, h5, h6⟩ := id h
  have e20 : nI b * 20 = nI (20 * b) := by
    have := rd_ix b 0 20 20 rfl
    rw [nI_0, Int32.add_zero] at this
    exact this
  unfold wpX_placeToMeet
  refine ⟨i8, nm_r (e' := nI p) (by rw [ct]; exact h3') ⟨i8, nm_r (e' := nI (20 * b)) (by rw [ct, h1, e20]) ⟨i8, ?_⟩⟩⟩
  rw [ct]
  refine br_c (fun z => ?_) (fun z => ⟨i8, br_c (fun y => ?_) (fun y => H0 z y)⟩)
  · have hp := h3 z
    have ip : nI (20 * b) + nI p = nI (20 * b + p) := nI_add _ _
    rw [ip, nI_clamp (by omega), nI_1]
    exact ⟨vp_in_nI (by omega) (by omega), br_c (fun y => (H3 z hp).1 y) (fun y => (H3 z hp).2 y)⟩
  · refine rd_x_eo h ht (fun e he => nm_r (nI_1 p) ⟨_, rd_xl_pm h ht he 21 (p + 1) (by omega) (by omega) (Nat.le_refl _) (fun j a1 a2 => by omega) (H4 y).1 (H4 y).2⟩)
end
end
section
/-! CALL and LATE -/
theorem rd_at_of {n e E t : Nat} {A : rd_St} {w : List Nat} {Q : Nat → List Nat} (I : rd_Inv n e E A w Q) (ht : t < n) : ∃ b p L, rd_at A t b p L := by
  obtain ⟨b, hb, eb⟩ := I.rbo t ht
  obtain ⟨p, hp, ep⟩ := I.rpl t ht
  obtain ⟨L, hL, eL⟩ := I.vG.1 b (by omega)
  exact ⟨b, p, L, eb, by omega, ep, hp, eL, hL⟩
theorem rd_mt_cd {A : rd_St} {t c d : Nat} : rd_mt (rd_sw A  4 c 2) t c d = rd_mt A t c d := by
  unfold rd_mt
  rw [rd_sw_sw]
  rfl
theorem rd_XL_enq {w : List Nat} {Q : Nat → List Nat} {ra qa ql : Nat → Int32} {k t : Nat} (h : rd_XL w Q ra qa ql) (hQ : ∀ q, (Q q).length ≤ 8) (hk : k < 24) (hl : (Q k).length < 8) : rd_XL w (rd_pq Q k t) ra (upd qa (8 * k + (Q k).length) (nI t)) (upd ql k (nI ((Q k).length + 1))) := by
  refine ⟨h.1, fun q hq => ?_⟩
  unfold rd_pq
  by_cases e : q = k
  · subst e
    rw [if_pos rfl, rd_us]
    exact ⟨by simp, rd_LV_put (h.2 q hq).2⟩
  · rw [if_neg e, rd_un e]
    refine ⟨(h.2 q hq).1, rd_LV_fr (h.2 q hq).2 (fun i a b => rd_un ?_)⟩
    have := hQ q
    omega
theorem rd_y3_enq {n : Nat} {Q : Nat → List Nat} {wq qa : Nat → Int32} {k t : Nat} (h : rd_y3 n Q wq qa) (hQ : ∀ q, (Q q).length ≤ 8) (hk : k < 3 * n) (hl : (Q k).length < 8) : rd_y3 n (rd_pq Q k t) (upd wq k (nI ((Q k).length + 1))) (upd qa (8 * k + (Q k).length) (nI t)) := by
  intro q hq
  unfold rd_pq
  by_cases e : q = k
  · subst e
    rw [if_pos rfl, rd_us]
    exact ⟨by simp, rd_LV_put (h q hq).2⟩
  · rw [if_neg e, rd_un e]
    refine ⟨(h q hq).1, rd_LV_fr (h q hq).2 (fun i a b => rd_un ?_)⟩
    have := hQ q
    omega
section
variable {n D t p b' d : Nat} {a b : Int32} {A : rd_St} {w : List Nat} {Q : Nat → List Nat}
/-- the reference's call, for an entry of a task that is there: at -1 or at a place -/
theorem rd_y_call {post : SY → Prop} {ra qa wq am rz ob fr st : Nat → Int32} {bl : Int32} {s j bb pp L : Nat} {late : Int32} (I : rd_Inv n 8 (D + 1) A w Q) (hy : rd_YL 8 n D A w Q ra qa wq am rz ob fr st bl) (hs : s < n) (hj : j < 3) (h7 : A 4 s ≠ 7) (h8 : A 4 s ≠ 8) (h : rd_at A s bb pp L) (x : Int32) (hx : (A 4 s = 3 → (A 1 (20 * bb + pp) = nI j → x = nI (pp + 1)) ∧ (A 1 (20 * bb + pp) ≠ nI j → x = -1)) ∧ (A 4 s = 4 → (rd_sc A s bb (nI j) 21 (pp + 1) = none → x = -1) ∧ (∀ i, rd_sc A s bb (nI j) 21 (pp + 1) = some i → x = A 2 (20 * bb + i))) ∧ (A 4 s ≠ 3 → A 4 s ≠ 4 → x = -1)) (P : wY_call_122 post (nI t) (nI s) (nI j) late x (A 26 0) bl (nI w.length) (A 27 0) (A 28 0) (A 29 0) (A 25 0) (A 3) (A 0) (A 1) (A 2) st (A 5) (A 6) (A 11) (A 8) (A 7) rz (A 16) (A 18) (A 19) fr (A 9) ob (A 13) qa wq ra (A 33) am (A 21) (A 22)) : wpY_call post (rd_tY A (nI w.length) ra qa wq am rz ob fr st bl) (nI t) (nI s) (nI j) late := by
  have hn := I.vN.2
  have cs : (nI s).toNatClampNeg = s := nI_clamp (by omega)
  have i8 : vp_in (nI s) 8 := vp_in_nI (by omega) (by omega)
  have es : ∀ v : Int32, v ≠ -1 → v ≠ 9 → (st (nI s).toNatClampNeg = v ↔ A 4 s = v) := by
    intro v v1 v2
    rw [cs, hy.y9 s]
    exact rd_cv_eq v1 v2
  obtain ⟨g1, g2, g3, g4, g5, g6⟩ := id h
  have fin : A 4 s ≠ 4 → wY_call_76 post (nI t) (nI s) (nI j) late x (A 26 0) bl (nI w.length) (A 27 0) (A 28 0) (A 29 0) (A 25 0) (A 3) (A 0) (A 1) (A 2) st (A 5) (A 6) (A 11) (A 8) (A 7) rz (A 16) (A 18) (A 19) fr (A 9) ob (A 13) qa wq ra (A 33) am (A 21) (A 22) := fun n4 => ⟨i8, br_f (fun y => n4 ((es 4 (by decide) (by decide)).mp y)) (br_t (by decide) P)⟩
  unfold wpY_call
  refine br_f (by rw [I.vN.1]; exact nI_ge (by omega) (by omega)) ⟨i8, br_f (fun y => h7 ((es 7 (by decide) (by decide)).mp y)) ⟨i8, br_f (fun y => h8 ((es 8 (by decide) (by decide)).mp y)) ⟨i8, ?_⟩⟩⟩
  by_cases k3 : A 4 s = 3
  · have hp20 : pp < 20 := by
      obtain ⟨p', a1, a2⟩ := (I.vA s hs).1 (Or.inr (Or.inr (Or.inl k3)))
      have := rd_inj (by omega) (by omega) (g3.symm.trans a2)
      omega
    have n4 : A 4 s ≠ 4 := by rw [k3]; decide
    refine br_t ((es 3 (by decide) (by decide)).mpr k3) ⟨i8, ?_⟩
    rw [cs, g3]
    refine rd_y_aAt h (by omega) hp20 (br_c (fun z => ⟨i8, nm_r (e' := x) ?_ (fin n4)⟩) (fun z => ?_))
    · rw [(hx.1 k3).1 z, nI_1]
    · have := (hx.1 k3).2 z
      rw [this] at fin
      exact fin n4
  · refine br_f (fun y => k3 ((es 3 (by decide) (by decide)).mp y)) ?_
    by_cases k4 : A 4 s = 4
    · refine ⟨i8, br_t ((es 4 (by decide) (by decide)).mpr k4) ?_⟩
      unfold wpY_alternative
      refine ⟨i8, nm_r (e' := nI (pp + 1)) (by rw [cs, g3, nI_1]) ⟨_, rd_yl_alt h (by omega) (nI j) (fun i => decide (A 1 (20 * bb + i) = nI j)) (fun i _ _ P1 P0 f1 f0 => ⟨fun _ => ⟨fun z => f1 (by simpa using z), fun z => f0 (by simpa using z)⟩, fun z => absurd (nI_pos' (by omega)) z⟩) 21 (pp + 1) (by omega) (by omega) (fun z => ?_) (fun i z => ?_)⟩⟩
      · have := (hx.2.1 k4).1 z
        rw [this] at P
        exact br_t (by decide) P
      · have := (hx.2.1 k4).2 i z
        have zi := rd_scan_some _ _ _ _ _ z
        have i20 : i < 20 := by have := rd_at_in h zi.2.2.1; omega
        have ii : 20 * A 8 (nI s).toNatClampNeg + nI i = nI (20 * bb + i) := by rw [cs, g1]; exact rd_ix' bb i 20 20 rfl
        refine br_f (nI_pos (by omega)) ⟨i8, ?_⟩
        rw [ii, nI_clamp (by omega), ← this]
        exact ⟨vp_in_nI (by omega) (by omega), nm_e P⟩
    · have := hx.2.2 k3 k4
      rw [this] at fin
      exact fin k4
/-- a call, in time or not (late is 0 or 1) -/
theorem rd_o_call {op late : Int32} {s j : Nat} (C : rd_C n D t p b' A w Q) (hp20 : p < 20) (hs8 : s < 8) (hj : j < 3) (hl : late = 0 ∨ late = 1) (X : ∀ (post : SX → Prop) (ra qa ql : Nat → Int32), wpX_doCall (fun r u => match u with | (f_rowLength_1, f_noteCount_1, f_tasks_1, f_time_1, f_done_1, f_turns_1, f_doneInTurn_1, f_inTurn_1, a_ops_1, a_firsts_1, a_seconds_1, a_lengths_1, a_condition_1, a_place_1, a_xs_1, a_ended_1, a_bodyOf_1, a_master_1, a_masterBlock_1, a_limits_1, a_pending_1, a_doomed_1, a_terminable_1, a_calledQueue_1, a_wakeTime_1, a_wakePlace_1, a_depth_1, a_frameKind_1, a_frameValue_1, a_queue_1, a_queueLength_1, a_row_1, a_noteTask_1, a_noteValue_1, a_fallen_1, a_chosen_1) => (vp_in (nI t) 8 ∧ ∀ y, y = upd a_place_1 (nI t).toNatClampNeg r → post (f_rowLength_1, f_noteCount_1, f_tasks_1, f_time_1, f_done_1, f_turns_1, f_doneInTurn_1, f_inTurn_1, a_ops_1, a_firsts_1, a_seconds_1, a_lengths_1, a_condition_1, y, a_xs_1, a_ended_1, a_bodyOf_1, a_master_1, a_masterBlock_1, a_limits_1, a_pending_1, a_doomed_1, a_terminable_1, a_calledQueue_1, a_wakeTime_1, a_wakePlace_1, a_depth_1, a_frameKind_1, a_frameValue_1, a_queue_1, a_queueLength_1, a_row_1, a_noteTask_1, a_noteValue_1, a_fallen_1, a_chosen_1))) (rd_tX A (nI w.length) ra qa ql) (nI t) (nI s) (nI j) late → wX_perform_119 post (nI t) (nI (p + 1)) op a b (nI w.length) (A 25 0) (A 26 0) (A 27 0) (A 28 0) (A 29 0) (A 30 0) (A 31 0) (A 0) (A 1) (A 2) (A 3) (A 4) (A 5) (A 6) (A 7) (A 8) (A 9) (A 10) (A 11) (A 12) (A 13) (A 14) (A 15) (A 16) (A 17) (A 18) (A 19) (A 20) qa ql ra (A 21) (A 22) (A 32) (A 23)) (Y : ∀ (post : SY → Prop) (ra qa wq am rz ob fr st : Nat → Int32) (bl : Int32), wpY_call (fun u => match u with | (f_tasks_1, f_blocks_1, f_readies_1, f_time_1, f_done_1, f_turns_1, f_notes_1, a_length_1, a_ops_1, a_as_1, a_bs_1, a_states_1, a_places_1, a_xs_1, a_limits_1, a_bodies_1, a_ends_1, a_raised_1, a_until_1, a_high_1, a_kinds_1, a_frames_1, a_on_1, a_onBlock_1, a_doomed_1, a_queues_1, a_waiting_1, a_row_1, a_dying_1, a_among_1, a_noteTask_1, a_noteInt_1) => post (f_tasks_1, f_blocks_1, f_readies_1, f_time_1, f_done_1, f_turns_1, f_notes_1, a_length_1, a_ops_1, a_as_1, a_bs_1, a_states_1, a_places_1, a_xs_1, a_limits_1, a_bodies_1, a_ends_1, a_raised_1, a_until_1, a_high_1, a_kinds_1, a_frames_1, a_on_1, a_onBlock_1, a_doomed_1, a_queues_1, a_waiting_1, a_row_1, a_dying_1, a_among_1, a_noteTask_1, a_noteInt_1)) (rd_tY A (nI w.length) ra qa wq am rz ob fr st bl) (nI t) (nI s) (nI j) late → wpY_step post (rd_tY A (nI w.length) ra qa wq am rz ob fr st bl) (nI t) op a b) : rd_O1 n D t p op a b a b A w Q ∨ rd_O2 n D t p op a b a b A w Q := by
  obtain ⟨I, ht, h0, hp, n9, epl, hpl, ebo, hbo, hD, ⟨T, hT, eT⟩, hN⟩ := id C
  have hn := I.vN.2
  have ct : (nI t).toNatClampNeg = t := nI_clamp (by omega)
  have i8 : vp_in (nI t) 8 := vp_in_nI (by omega) (by omega)
  have cs : (nI s).toNatClampNeg = s := nI_clamp (by omega)
  have i8s : vp_in (nI s) 8 := vp_in_nI (by omega) (by omega)
  have k7 : A 4 t ≠ 7 := by rw [h0]; decide
  have k8 : A 4 t ≠ 8 := by rw [h0]; decide
  have k9 : A 4 t ≠ 9 := by rw [h0]; decide
  have k1 : A 4 t ≠ 1 := by rw [h0]; decide
  have wk1 : A 16 t = -1 := rd_wk0 I ht ⟨by rw [h0]; decide, by rw [h0]; decide, by rw [h0]; decide⟩
  have wl8 : w.length ≤ 8 := Nat.le_trans (rd_wlen I) hn
  have wx8 : ∀ x, x ∈ w → x < 8 := fun x hx => Nat.lt_of_lt_of_le ((I.vR.2 x).mp hx).1 hn
  have nq := rd_vQ_no I.vQ k1
  by_cases there : s < n ∧ A 4 s ≠ 7 ∧ A 4 s ≠ 8
  · refine Or.inl ?_
    have there' := there
    obtain ⟨hs, s7, s8⟩ := there
    obtain ⟨bb, pp, L, hat⟩ := rd_at_of I hs
    obtain ⟨g1, g2, g3, g4, g5, g6⟩ := id hat
    have s3p : A 4 s = 3 → pp < 20 := by
      intro k3
      obtain ⟨p', a1, a2⟩ := (I.vA s hs).1 (Or.inr (Or.inr (Or.inl k3)))
      have := rd_inj (by omega) (by omega) (g3.symm.trans a2)
      omega
    -- the answer of both sides' looks
    have look : ∃ x : Int32, (x = -1 ∨ ∃ q, q ≤ 21 ∧ x = nI q ∧ (A 4 s = 3 ∨ A 4 s = 4)) ∧ (A 4 s = 3 → (A 1 (20 * bb + pp) = nI j → x = nI (pp + 1)) ∧ (A 1 (20 * bb + pp) ≠ nI j → x = -1)) ∧ (A 4 s = 4 → (rd_sc A s bb (nI j) 21 (pp + 1) = none → x = -1) ∧ (∀ i, rd_sc A s bb (nI j) 21 (pp + 1) = some i → x = A 2 (20 * bb + i))) ∧ (A 4 s ≠ 3 → A 4 s ≠ 4 → x = -1) := by
      by_cases k3 : A 4 s = 3
      · have n4 : A 4 s ≠ 4 := by rw [k3]; decide
        by_cases z : A 1 (20 * bb + pp) = nI j
        · exact ⟨nI (pp + 1), Or.inr ⟨pp + 1, by have := s3p k3; omega, rfl, Or.inl k3⟩, fun _ => ⟨fun _ => rfl, fun y => absurd z y⟩, fun y => absurd y n4, fun y => absurd k3 y⟩
        · exact ⟨-1, Or.inl rfl, fun _ => ⟨fun y => absurd y z, fun _ => rfl⟩, fun y => absurd y n4, fun y => absurd k3 y⟩
      · by_cases k4 : A 4 s = 4
        · cases hsc : rd_sc A s bb (nI j) 21 (pp + 1) with
          | none => exact ⟨-1, Or.inl rfl, fun y => absurd y k3, fun _ => ⟨fun _ => rfl, fun i y => by simp at y⟩, fun _ y => absurd k4 y⟩
          | some i =>
            have zi := rd_scan_some _ _ _ _ _ hsc
            have iL := rd_at_in hat zi.2.2.1
            have ef := (rd_at_op hat i).1 iL
            have fit := I.vG.2 (20 * bb + i) (by omega)
            have op1 : A 0 (20 * bb + i) = 16 ∨ A 0 (20 * bb + i) = 17 := by
              have := zi.2.2.2
              simp only [Bool.and_eq_true] at this
              have := rd_opn_t.mp this.1
              rw [ef] at this
              rcases this with y | y
              · exact Or.inl y
              · exact Or.inr y.1
            obtain ⟨_, q, hq, eq⟩ := fit.2.2.2.2.2.2.2.1 op1
            exact ⟨A 2 (20 * bb + i), Or.inr ⟨q, by omega, eq, Or.inr k4⟩, fun y => absurd y k3, fun _ => ⟨fun y => by simp at y, fun i' y => by simp at y; rw [y]⟩, fun _ y => absurd k4 y⟩
        · exact ⟨-1, Or.inl rfl, fun y => absurd y k3, fun y => absurd y k4, fun _ _ => rfl⟩
    obtain ⟨x, hx, hx3, hx4, hx0⟩ := look
    have pm : ∀ {rl : Int32} {ra qa ql : Nat → Int32} {post : Int32 → Prop}, post x → wpX_placeToMeet post (rd_tX A rl ra qa ql) (nI s) (nI j) := by
      intro rl ra qa ql post fin
      refine rd_x_pm hat hs8 (fun k3 _ => ⟨fun y => ?_, fun y => ?_⟩) s3p (fun k4 => ⟨fun y => ?_, fun i y => ?_⟩) (fun k3 k4 => ?_)
      · rw [← (hx3 k3).1 y]; exact fin
      · rw [← (hx3 k3).2 y]; exact fin
      · rw [← (hx4 k4).1 y]; exact fin
      · rw [← (hx4 k4).2 i y]; exact fin
      · rw [← hx0 k3 k4]; exact fin
    have Y1 : ∀ (post : SY → Prop) (ra qa wq am rz ob fr st : Nat → Int32) (bl : Int32), rd_YL 8 n D A w Q ra qa wq am rz ob fr st bl → wY_call_122 (fun u => match u with | (f_tasks_1, f_blocks_1, f_readies_1, f_time_1, f_done_1, f_turns_1, f_notes_1, a_length_1, a_ops_1, a_as_1, a_bs_1, a_states_1, a_places_1, a_xs_1, a_limits_1, a_bodies_1, a_ends_1, a_raised_1, a_until_1, a_high_1, a_kinds_1, a_frames_1, a_on_1, a_onBlock_1, a_doomed_1, a_queues_1, a_waiting_1, a_row_1, a_dying_1, a_among_1, a_noteTask_1, a_noteInt_1) => post (f_tasks_1, f_blocks_1, f_readies_1, f_time_1, f_done_1, f_turns_1, f_notes_1, a_length_1, a_ops_1, a_as_1, a_bs_1, a_states_1, a_places_1, a_xs_1, a_limits_1, a_bodies_1, a_ends_1, a_raised_1, a_until_1, a_high_1, a_kinds_1, a_frames_1, a_on_1, a_onBlock_1, a_doomed_1, a_queues_1, a_waiting_1, a_row_1, a_dying_1, a_among_1, a_noteTask_1, a_noteInt_1)) (nI t) (nI s) (nI j) late x (A 26 0) bl (nI w.length) (A 27 0) (A 28 0) (A 29 0) (A 25 0) (A 3) (A 0) (A 1) (A 2) st (A 5) (A 6) (A 11) (A 8) (A 7) rz (A 16) (A 18) (A 19) fr (A 9) ob (A 13) qa wq ra (A 33) am (A 21) (A 22) → wpY_step post (rd_tY A (nI w.length) ra qa wq am rz ob fr st bl) (nI t) op a b := fun post ra qa wq am rz ob fr st bl hy P => Y post ra qa wq am rz ob fr st bl (rd_y_call I hy hs hj s7 s8 hat x ⟨hx3, hx4, hx0⟩ P)
    rcases hx with xe | ⟨q, hq, xe, s34⟩
    · -- no meeting at once
      subst xe
      have c85 : (late = 0 ∨ A 11 t ≠ 0) ∨ (late ≠ 0 ∧ A 11 t = 0) := by
        by_cases y : late = 0
        · exact Or.inl (Or.inl y)
        · by_cases z : A 11 t = 0
          · exact Or.inr ⟨y, z⟩
          · exact Or.inl (Or.inr z)
      rcases c85 with c85 | ⟨l1, l0⟩
      · -- into the queue
        have hk : 3 * s + j < 3 * n := by omega
        have ik : nI s * 3 + nI j = nI (3 * s + j) := rd_ix s j 3 3 rfl
        have ik' : 3 * nI s + nI j = nI (3 * s + j) := rd_ix' s j 3 3 rfl
        have ck : (nI (3 * s + j)).toNatClampNeg = 3 * s + j := nI_clamp (by omega)
        have i24 : vp_in (nI (3 * s + j)) 24 := vp_in_nI (by omega) (by omega)
        have hQ8 : ∀ q, (Q q).length ≤ 8 := fun q => Nat.le_trans (rd_qlen I) hn
        have hlen : (Q (3 * s + j)).length < 8 := Nat.lt_of_lt_of_le (rd_qlen' I ht (nq _)) hn
        have im : nI (3 * s + j) * 8 + nI (Q (3 * s + j)).length = nI (8 * (3 * s + j) + (Q (3 * s + j)).length) := rd_ix _ _ 8 8 rfl
        have im' : 8 * nI (3 * s + j) + nI (Q (3 * s + j)).length = nI (8 * (3 * s + j) + (Q (3 * s + j)).length) := rd_ix' _ _ 8 8 rfl
        have cm : (nI (8 * (3 * s + j) + (Q (3 * s + j)).length)).toNatClampNeg = 8 * (3 * s + j) + (Q (3 * s + j)).length := nI_clamp (by omega)
        have i192 : vp_in (nI (8 * (3 * s + j) + (Q (3 * s + j)).length)) 192 := vp_in_nI (by omega) (by omega)
        obtain ⟨lim, hlim, elim⟩ := I.rli t ht
        have I1 : rd_Inv n 8 (D + 1) (rd_sw A  15 t (nI (3 * s + j))) w Q := rd_i_cq I k1
        have I2 : rd_Inv n 8 (D + 1) (rd_sw (rd_sw A  15 t (nI (3 * s + j)))  4 t 1) (w.filter (fun x => x != t)) Q := rd_i_wait (s := 1) I1 ht h0 (by omega) ⟨p, hp20, epl⟩ hp (fun y => absurd y (by decide)) (fun _ => ⟨3 * s + j, hk, rd_us⟩)
        have I3 := rd_i_enq (k := 3 * s + j) I2 ht rd_us nq hk rd_us
        have nz : ∀ B : rd_St, B 4 = upd (A 4) t 1 → B 4 t ≠ 0 := by
          intro B e
          rw [e, rd_us]; decide
        have n9' : ∀ B : rd_St, B 4 = upd (A 4) t 1 → ∀ r, r < n → B 4 r ≠ 9 := by
          intro B e r hr y
          rw [e] at y
          by_cases z : r = t
          · rw [z, rd_us] at y; exact absurd y (by decide)
          · rw [rd_un z] at y; exact n9 r hr y
        -- the component up to the wait
        have X2 : ∀ (post : SX → Prop) (ra qa ql : Nat → Int32), rd_XL w Q ra qa ql → (∀ u', rd_RX (rd_sw (rd_sw A  15 t (nI (3 * s + j)))  4 t 1) (w.filter (fun x => x != t)) (rd_pq Q (3 * s + j) t) u' → (match u' with | (f_rowLength_1, f_noteCount_1, f_tasks_1, f_time_1, f_done_1, f_turns_1, f_doneInTurn_1, f_inTurn_1, a_ops_1, a_firsts_1, a_seconds_1, a_lengths_1, a_condition_1, a_place_1, a_xs_1, a_ended_1, a_bodyOf_1, a_master_1, a_masterBlock_1, a_limits_1, a_pending_1, a_doomed_1, a_terminable_1, a_calledQueue_1, a_wakeTime_1, a_wakePlace_1, a_depth_1, a_frameKind_1, a_frameValue_1, a_queue_1, a_queueLength_1, a_row_1, a_noteTask_1, a_noteValue_1, a_fallen_1, a_chosen_1) => ((late = 0 → (vp_in (nI t) 8 ∧ ∀ y, y = upd a_place_1 (nI t).toNatClampNeg (nI p) → post (f_rowLength_1, f_noteCount_1, f_tasks_1, f_time_1, f_done_1, f_turns_1, f_doneInTurn_1, f_inTurn_1, a_ops_1, a_firsts_1, a_seconds_1, a_lengths_1, a_condition_1, y, a_xs_1, a_ended_1, a_bodyOf_1, a_master_1, a_masterBlock_1, a_limits_1, a_pending_1, a_doomed_1, a_terminable_1, a_calledQueue_1, a_wakeTime_1, a_wakePlace_1, a_depth_1, a_frameKind_1, a_frameValue_1, a_queue_1, a_queueLength_1, a_row_1, a_noteTask_1, a_noteValue_1, a_fallen_1, a_chosen_1))) ∧ (¬ late = 0 → (vp_in (nI t) 8 ∧ wpX_wakeAfter (fun u => match u with | (f_rowLength_2, f_noteCount_2, f_tasks_2, f_time_2, f_done_2, f_turns_2, f_doneInTurn_2, f_inTurn_2, a_ops_2, a_firsts_2, a_seconds_2, a_lengths_2, a_condition_2, a_place_2, a_xs_2, a_ended_2, a_bodyOf_2, a_master_2, a_masterBlock_2, a_limits_2, a_pending_2, a_doomed_2, a_terminable_2, a_calledQueue_2, a_wakeTime_2, a_wakePlace_2, a_depth_2, a_frameKind_2, a_frameValue_2, a_queue_2, a_queueLength_2, a_row_2, a_noteTask_2, a_noteValue_2, a_fallen_2, a_chosen_2) => (vp_in (nI t) 8 ∧ ∀ y, y = upd a_place_2 (nI t).toNatClampNeg (nI p) → post (f_rowLength_2, f_noteCount_2, f_tasks_2, f_time_2, f_done_2, f_turns_2, f_doneInTurn_2, f_inTurn_2, a_ops_2, a_firsts_2, a_seconds_2, a_lengths_2, a_condition_2, y, a_xs_2, a_ended_2, a_bodyOf_2, a_master_2, a_masterBlock_2, a_limits_2, a_pending_2, a_doomed_2, a_terminable_2, a_calledQueue_2, a_wakeTime_2, a_wakePlace_2, a_depth_2, a_frameKind_2, a_frameValue_2, a_queue_2, a_queueLength_2, a_row_2, a_noteTask_2, a_noteValue_2, a_fallen_2, a_chosen_2))) (f_rowLength_1, f_noteCount_1, f_tasks_1, f_time_1, f_done_1, f_turns_1, f_doneInTurn_1, f_inTurn_1, a_ops_1, a_firsts_1, a_seconds_1, a_lengths_1, a_condition_1, a_place_1, a_xs_1, a_ended_1, a_bodyOf_1, a_master_1, a_masterBlock_1, a_limits_1, a_pending_1, a_doomed_1, a_terminable_1, a_calledQueue_1, a_wakeTime_1, a_wakePlace_1, a_depth_1, a_frameKind_1, a_frameValue_1, a_queue_1, a_queueLength_1, a_row_1, a_noteTask_1, a_noteValue_1, a_fallen_1, a_chosen_1) (nI t) (a_limits_1 (nI t).toNatClampNeg) (nI p + 2)))))) → wX_perform_119 post (nI t) (nI (p + 1)) op a b (nI w.length) (A 25 0) (A 26 0) (A 27 0) (A 28 0) (A 29 0) (A 30 0) (A 31 0) (A 0) (A 1) (A 2) (A 3) (A 4) (A 5) (A 6) (A 7) (A 8) (A 9) (A 10) (A 11) (A 12) (A 13) (A 14) (A 15) (A 16) (A 17) (A 18) (A 19) (A 20) qa ql ra (A 21) (A 22) (A 32) (A 23) := by
          intro post ra qa ql hx H
          have e0 := (hx.2 (3 * s + j) (by omega)).1
          refine X post ra qa ql ?_
          unfold wpX_doCall
          have fin : ∀ K : Int32 → SX → Prop, (∀ u', rd_RX (rd_sw (rd_sw A  15 t (nI (3 * s + j)))  4 t 1) (w.filter (fun x => x != t)) (rd_pq Q (3 * s + j) t) u' → (match u' with | (f_rowLength_1, f_noteCount_1, f_tasks_1, f_time_1, f_done_1, f_turns_1, f_doneInTurn_1, f_inTurn_1, a_ops_1, a_firsts_1, a_seconds_1, a_lengths_1, a_condition_1, a_place_1, a_xs_1, a_ended_1, a_bodyOf_1, a_master_1, a_masterBlock_1, a_limits_1, a_pending_1, a_doomed_1, a_terminable_1, a_calledQueue_1, a_wakeTime_1, a_wakePlace_1, a_depth_1, a_frameKind_1, a_frameValue_1, a_queue_1, a_queueLength_1, a_row_1, a_noteTask_1, a_noteValue_1, a_fallen_1, a_chosen_1) => ((late = 0 → K (nI p) (f_rowLength_1, f_noteCount_1, f_tasks_1, f_time_1, f_done_1, f_turns_1, f_doneInTurn_1, f_inTurn_1, a_ops_1, a_firsts_1, a_seconds_1, a_lengths_1, a_condition_1, a_place_1, a_xs_1, a_ended_1, a_bodyOf_1, a_master_1, a_masterBlock_1, a_limits_1, a_pending_1, a_doomed_1, a_terminable_1, a_calledQueue_1, a_wakeTime_1, a_wakePlace_1, a_depth_1, a_frameKind_1, a_frameValue_1, a_queue_1, a_queueLength_1, a_row_1, a_noteTask_1, a_noteValue_1, a_fallen_1, a_chosen_1)) ∧ (¬ late = 0 → (vp_in (nI t) 8 ∧ wpX_wakeAfter (fun u => match u with | (f_rowLength_2, f_noteCount_2, f_tasks_2, f_time_2, f_done_2, f_turns_2, f_doneInTurn_2, f_inTurn_2, a_ops_2, a_firsts_2, a_seconds_2, a_lengths_2, a_condition_2, a_place_2, a_xs_2, a_ended_2, a_bodyOf_2, a_master_2, a_masterBlock_2, a_limits_2, a_pending_2, a_doomed_2, a_terminable_2, a_calledQueue_2, a_wakeTime_2, a_wakePlace_2, a_depth_2, a_frameKind_2, a_frameValue_2, a_queue_2, a_queueLength_2, a_row_2, a_noteTask_2, a_noteValue_2, a_fallen_2, a_chosen_2) => K (nI p) (f_rowLength_2, f_noteCount_2, f_tasks_2, f_time_2, f_done_2, f_turns_2, f_doneInTurn_2, f_inTurn_2, a_ops_2, a_firsts_2, a_seconds_2, a_lengths_2, a_condition_2, a_place_2, a_xs_2, a_ended_2, a_bodyOf_2, a_master_2, a_masterBlock_2, a_limits_2, a_pending_2, a_doomed_2, a_terminable_2, a_calledQueue_2, a_wakeTime_2, a_wakePlace_2, a_depth_2, a_frameKind_2, a_frameValue_2, a_queue_2, a_queueLength_2, a_row_2, a_noteTask_2, a_noteValue_2, a_fallen_2, a_chosen_2)) (f_rowLength_1, f_noteCount_1, f_tasks_1, f_time_1, f_done_1, f_turns_1, f_doneInTurn_1, f_inTurn_1, a_ops_1, a_firsts_1, a_seconds_1, a_lengths_1, a_condition_1, a_place_1, a_xs_1, a_ended_1, a_bodyOf_1, a_master_1, a_masterBlock_1, a_limits_1, a_pending_1, a_doomed_1, a_terminable_1, a_calledQueue_1, a_wakeTime_1, a_wakePlace_1, a_depth_1, a_frameKind_1, a_frameValue_1, a_queue_1, a_queueLength_1, a_row_1, a_noteTask_1, a_noteValue_1, a_fallen_1, a_chosen_1) (nI t) (a_limits_1 (nI t).toNatClampNeg) (nI p + 2)))))) → wX_doCall_85 K (nI t) (nI s) (nI j) late (nI p) (nI w.length) (A 25 0) (A 26 0) (A 27 0) (A 28 0) (A 29 0) (A 30 0) (A 31 0) (A 0) (A 1) (A 2) (A 3) (A 4) (A 5) (A 6) (A 7) (A 8) (A 9) (A 10) (A 11) (A 12) (A 13) (A 14) (A 15) (A 16) (A 17) (A 18) (A 19) (A 20) qa ql ra (A 21) (A 22) (A 32) (A 23) := by
            intro K HK
            refine nm_r ik ⟨i24, ?_⟩
            rw [ck, e0, im]
            refine ⟨i192, nm_r (e' := upd qa (8 * (3 * s + j) + (Q (3 * s + j)).length) (nI t)) (by rw [cm]) ⟨i24, i24, nm_r (e' := upd ql (3 * s + j) (nI ((Q (3 * s + j)).length + 1))) (by rw [nI_1]) ⟨i8, nm_r (e' := upd (A 15) t (nI (3 * s + j))) (by rw [ct]) ?_⟩⟩⟩
            refine rd_x_waitAs (rd_RX_mk (A := rd_sw A  15 t (nI (3 * s + j))) (rd_XL_enq hx hQ8 (by omega) hlen)) (by omega) wl8 wx8 ?_
            intro u' hu'
            have := HK u' hu'
            obtain ⟨ra1, qa1, ql1, rfl, hx1⟩ := hu'
            exact this
          refine ⟨i8, nm_r (e' := nI p) (by rw [ct]; exact epl) (rd_x_isThere I.vN hs8 (fun _ _ _ => br_f (by decide) (pm (br_t rfl (br_c (fun _ => fin _ ?_) (fun y => ⟨i8, br_f ?_ (fin _ ?_)⟩))))) (fun y => absurd there' y))⟩
          · intro u' hu'
            have := H u' hu'
            obtain ⟨ra1, qa1, ql1, rfl, hx1⟩ := hu'
            exact this
          · rw [ct]
            rcases c85 with z | z
            · exact absurd z y
            · exact z
          · intro u' hu'
            have := H u' hu'
            obtain ⟨ra1, qa1, ql1, rfl, hx1⟩ := hu'
            exact this
        -- the reference up to the end
        have Y2 : ∀ (post : SY → Prop) (ra qa wq am rz ob fr st : Nat → Int32) (bl : Int32) (B : rd_St) (z : Int32), rd_YL 8 n D A w Q ra qa wq am rz ob fr st bl → B = rd_sa (rd_sw (rd_sw A  15 t (nI (3 * s + j)))  4 t 1)  16 (upd (A 16) t z) → ((late = 0 → z = -1) ∧ (late ≠ 0 → z = nI (T + lim))) → (∀ v', rd_RY 8 n (D + 1) B (w.filter (fun x => x != t)) (rd_pq Q (3 * s + j) t) v' → post v') → wpY_step post (rd_tY A (nI w.length) ra qa wq am rz ob fr st bl) (nI t) op a b := by
          intro post ra qa wq am rz ob fr st bl B z hy eB hz H
          have e0 := (hy.y3 (3 * s + j) hk).1
          have hyD := rd_YL_D hy
          refine Y1 post ra qa wq am rz ob fr st bl hy ?_
          have e201 : ∀ (ra' : Nat → Int32), rd_LV ra' 0 (w.filter (fun x => x != t)) → wY_call_201 (fun u => match u with | (f_tasks_1, f_blocks_1, f_readies_1, f_time_1, f_done_1, f_turns_1, f_notes_1, a_length_1, a_ops_1, a_as_1, a_bs_1, a_states_1, a_places_1, a_xs_1, a_limits_1, a_bodies_1, a_ends_1, a_raised_1, a_until_1, a_high_1, a_kinds_1, a_frames_1, a_on_1, a_onBlock_1, a_doomed_1, a_queues_1, a_waiting_1, a_row_1, a_dying_1, a_among_1, a_noteTask_1, a_noteInt_1) => post (f_tasks_1, f_blocks_1, f_readies_1, f_time_1, f_done_1, f_turns_1, f_notes_1, a_length_1, a_ops_1, a_as_1, a_bs_1, a_states_1, a_places_1, a_xs_1, a_limits_1, a_bodies_1, a_ends_1, a_raised_1, a_until_1, a_high_1, a_kinds_1, a_frames_1, a_on_1, a_onBlock_1, a_doomed_1, a_queues_1, a_waiting_1, a_row_1, a_dying_1, a_among_1, a_noteTask_1, a_noteInt_1)) (nI t) (nI s) (nI j) z (nI t) ((rd_sw A  16 t (-1)) 26 0) bl (nI (w.filter (fun x => x != t)).length) ((rd_sw A  16 t (-1)) 27 0) ((rd_sw A  16 t (-1)) 28 0) ((rd_sw A  16 t (-1)) 29 0) ((rd_sw A  16 t (-1)) 25 0) ((rd_sw A  16 t (-1)) 3) ((rd_sw A  16 t (-1)) 0) ((rd_sw A  16 t (-1)) 1) ((rd_sw A  16 t (-1)) 2) (upd st t 1) ((rd_sw A  16 t (-1)) 5) ((rd_sw A  16 t (-1)) 6) ((rd_sw A  16 t (-1)) 11) ((rd_sw A  16 t (-1)) 8) ((rd_sw A  16 t (-1)) 7) rz ((rd_sw A  16 t (-1)) 16) ((rd_sw A  16 t (-1)) 18) ((rd_sw A  16 t (-1)) 19) fr ((rd_sw A  16 t (-1)) 9) ob ((rd_sw A  16 t (-1)) 13) qa wq ra' ((rd_sw A  16 t (-1)) 33) am ((rd_sw A  16 t (-1)) 21) ((rd_sw A  16 t (-1)) 22) := by
            intro ra' gr
            refine ⟨i8, nm_r (e' := upd (A 16) t z) (by rw [ct]; exact rd_uu) (nm_r ik' ⟨i24, ?_⟩)⟩
            rw [ck, e0, im']
            refine ⟨i192, nm_r (e' := upd qa (8 * (3 * s + j) + (Q (3 * s + j)).length) (nI t)) (by rw [cm]) ⟨i24, i24, nm_r (e' := upd wq (3 * s + j) (nI ((Q (3 * s + j)).length + 1))) (by rw [nI_1]) ?_⟩⟩
            subst eB
            exact H _ (rd_RY_mk (A := rd_sa (rd_sw (rd_sw A  15 t (nI (3 * s + j)))  4 t 1)  16 (upd (A 16) t z)) ⟨gr, rd_rng_u hyD.y2 (by omega), rd_y3_enq hyD.y3 hQ8 hk hlen, rd_y4_cd hyD.y4 (Or.inr ⟨k7, k8, k9⟩), hyD.y5, hyD.y6, hyD.y7, rd_y8_cd hyD.y8 (by decide) k9 k8, rd_y9_u hyD.y9 rfl, hyD.y10⟩)
          have e170 : wY_call_170 (fun u => match u with | (f_tasks_1, f_blocks_1, f_readies_1, f_time_1, f_done_1, f_turns_1, f_notes_1, a_length_1, a_ops_1, a_as_1, a_bs_1, a_states_1, a_places_1, a_xs_1, a_limits_1, a_bodies_1, a_ends_1, a_raised_1, a_until_1, a_high_1, a_kinds_1, a_frames_1, a_on_1, a_onBlock_1, a_doomed_1, a_queues_1, a_waiting_1, a_row_1, a_dying_1, a_among_1, a_noteTask_1, a_noteInt_1) => post (f_tasks_1, f_blocks_1, f_readies_1, f_time_1, f_done_1, f_turns_1, f_notes_1, a_length_1, a_ops_1, a_as_1, a_bs_1, a_states_1, a_places_1, a_xs_1, a_limits_1, a_bodies_1, a_ends_1, a_raised_1, a_until_1, a_high_1, a_kinds_1, a_frames_1, a_on_1, a_onBlock_1, a_doomed_1, a_queues_1, a_waiting_1, a_row_1, a_dying_1, a_among_1, a_noteTask_1, a_noteInt_1)) (nI t) (nI s) (nI j) late (A 26 0) bl (nI w.length) (A 27 0) (A 28 0) (A 29 0) (A 25 0) (A 3) (A 0) (A 1) (A 2) st (A 5) (A 6) (A 11) (A 8) (A 7) rz (A 16) (A 18) (A 19) fr (A 9) ob (A 13) qa wq ra (A 33) am (A 21) (A 22) := by
            refine rd_y_rest hy.r (by omega) wl8 wx8 (fun ra' gr => br_c (fun y => ?_) (fun y => ⟨i8, ?_⟩))
            · have := e201 ra' gr
              rw [hz.1 y] at this
              exact this
            · have := e201 ra' gr
              rw [hz.2 y] at this
              have e2 : A 27 0 + A 11 (nI t).toNatClampNeg = nI (T + lim) := by rw [ct, eT, elim, nI_add]
              rw [← e2] at this
              exact this
          refine br_t (by decide) (br_c (fun _ => e170) (fun y => ⟨i8, br_f ?_ e170⟩))
          rw [ct]
          rcases c85 with q | q
          · exact absurd q y
          · exact q
        rcases hl with l0 | l1
        · refine ⟨n, _, _, _, I3, ⟨Nat.le_refl _, rfl, rfl, rfl, rfl, n9' _ rfl, fun y => absurd y (nz _ rfl)⟩, fun y => absurd y (nz _ rfl), ?_, ?_⟩
          · intro post ra qa ql hx H
            refine X2 post ra qa ql hx ?_
            rintro u' ⟨ra1, qa1, ql1, rfl, hx1⟩
            exact br_t l0 ⟨i8, nm_r (e' := A 5) (by rw [ct]; exact rd_ue epl) (H _ (rd_RX_mk hx1))⟩
          · intro post ra qa wq am rz ob fr st bl hy H
            refine Y2 post ra qa wq am rz ob fr st bl _ (-1) hy rfl ⟨fun _ => rfl, fun y => absurd l0 y⟩ ?_
            rw [rd_ue wk1]
            rintro v' ⟨ra1, qa1, wq1, am1, rz1, ob1, fr1, st1, bl1, rfl, hy1⟩
            exact H _ (rd_RY_mk hy1)
        · have c1 : (rd_sw (rd_sw A  15 t (nI (3 * s + j)))  4 t 1) 4 t = 1 := rd_us
          have I4 : rd_Inv n 8 (D + 1) (rd_sw (rd_sw (rd_sw (rd_sw A  15 t (nI (3 * s + j)))  4 t 1)  16 t (nI (T + lim)))  17 t (nI (p + 2))) (w.filter (fun x => x != t)) (rd_pq Q (3 * s + j) t) := rd_i_wake (x := T + lim) I3 (by omega) ⟨p + 2, by omega, rfl⟩ (Or.inl ⟨c1, by
            show nI (p + 2) = A 5 t + 2
            rw [epl]
            exact (nI_add p 2).symm⟩)
          have ln0 : late ≠ 0 := by rw [l1]; decide
          refine ⟨n, _, _, _, I4, ⟨Nat.le_refl _, rfl, rfl, rfl, rfl, n9' _ rfl, fun y => absurd y (nz _ rfl)⟩, fun y => absurd y (nz _ rfl), ?_, ?_⟩
          · intro post ra qa ql hx H
            refine X2 post ra qa ql hx ?_
            rintro u' ⟨ra1, qa1, ql1, rfl, hx1⟩
            refine br_f ln0 ⟨i8, rd_x_wakeAfter (A := rd_sw (rd_sw A  15 t (nI (3 * s + j)))  4 t 1) (by omega) ⟨i8, nm_r (e' := A 5) (by rw [ct]; exact rd_ue epl) ?_⟩⟩
            have e2 : A 27 0 + A 11 (nI t).toNatClampNeg = nI (T + lim) := by rw [ct, eT, elim, nI_add]
            have e3 : nI p + 2 = nI (p + 2) := nI_add p 2
            have H' := H _ (rd_RX_mk hx1)
            rw [← e2, ← e3] at H'
            exact H'
          · intro post ra qa wq am rz ob fr st bl hy H
            refine Y2 post ra qa wq am rz ob fr st bl _ (nI (T + lim)) hy rfl ⟨fun y => absurd y ln0, fun _ => rfl⟩ ?_
            rintro v' ⟨ra1, qa1, wq1, am1, rz1, ob1, fr1, st1, bl1, rfl, hy1⟩
            exact H _ (rd_RY_mk (A := rd_sw (rd_sw (rd_sw (rd_sw A  15 t (nI (3 * s + j)))  4 t 1)  16 t (nI (T + lim)))  17 t (nI (p + 2))) hy1)
      · refine rd_o_ply (q := p + 2) C A (by omega) I ⟨rfl, rfl, rfl, rfl, rfl, rfl, rfl, rfl, rfl, rfl, rfl, rfl, rfl⟩ ?_ ?_
        · intro post ra qa ql _ H
          refine X post ra qa ql ?_
          unfold wpX_doCall
          refine ⟨i8, nm_r (e' := nI p) (by rw [ct]; exact epl) (rd_x_isThere I.vN hs8 (fun _ _ _ => br_f (by decide) (pm (br_t rfl (br_f l1 ⟨i8, br_t (by rw [ct]; exact l0) ⟨i8, nm_r (e' := upd (A 5) t (nI (p + 2))) ?_ H⟩⟩)))) (fun y => absurd there' y))⟩
          have : nI p + 2 = nI (p + 2) := nI_add p 2
          rw [ct, this]
        · intro post ra qa wq am rz ob fr st bl hy H
          refine Y1 post ra qa wq am rz ob fr st bl hy (br_t (by decide) (br_f l1 ⟨i8, br_t (by rw [ct]; exact l0) ⟨i8, i8, nm_r (e' := upd (A 5) t (nI (p + 2))) ?_ H⟩⟩))
          have : nI p + 2 = nI (p + 2) := nI_add p 2
          rw [ct, epl, this]
    · -- the meeting begins
      subst xe
      have st' : s ≠ t := fun y => by
        rw [y, h0] at s34
        exact absurd s34 (by decide)
      have ts : t ≠ s := fun y => st' y.symm
      have q0 : A 4 s ≠ 0 := by rcases s34 with y | y <;> rw [y] <;> decide
      have q1 : A 4 s ≠ 1 := by rcases s34 with y | y <;> rw [y] <;> decide
      have q2 : A 4 s ≠ 2 := by rcases s34 with y | y <;> rw [y] <;> decide
      have q9 : A 4 s ≠ 9 := by rcases s34 with y | y <;> rw [y] <;> decide
      obtain ⟨d, hd, ed⟩ := (I.vE s hs).2 s34
      have I1 : rd_Inv n 8 (D + 1) (rd_sw A  4 t 2) (w.filter (fun x => x != t)) Q := rd_i_wait (s := 2) I ht h0 (by omega) ⟨p, hp20, epl⟩ hp (fun y => absurd y (by decide)) (fun y => absurd y (by decide))
      have ewk : rd_sw (rd_sw A  4 t 2)  16 t (-1) = rd_sw A  4 t 2 := rd_sw_eq (A := rd_sw A  4 t 2) (k :=  16) wk1
      have efq : rd_fq Q t = Q := rd_fq_no nq
      have I1' : rd_Inv n 8 (D + 1) (rd_sw (rd_sw A  4 t 2)  16 t (-1)) (w.filter (fun x => x != t)) (rd_fq Q t) := by
        rw [ewk, efq]; exact I1
      have c2s : (rd_sw (rd_sw A  4 t 2)  16 t (-1)) 4 s = A 4 s := rd_un st'
      have I2 := rd_i_ready I1' hs (by rw [c2s]; exact q0) (by rw [c2s]; exact s8) (by rw [efq]; exact rd_vQ_no I.vQ q1) (rd_nf_of hn I.vF hs q2)
      have z0 : (rd_ready (rd_sw (rd_sw A  4 t 2)  16 t (-1)) s) 4 s = 0 := rd_us
      have z2 : (rd_ready (rd_sw (rd_sw A  4 t 2)  16 t (-1)) s) 4 t = 2 := (rd_un ts).trans rd_us
      have I3 := rd_i_push (k := 1) (v := nI t) I2 hs ed hd ⟨by rw [z0]; decide, by rw [z0]; decide, by rw [z0]; decide, by rw [z0]; decide, by rw [z0]; decide⟩ (Or.inr (Or.inl ⟨rfl, t, ht, rfl, z2, rd_nf_of hn I.vF ht (by rw [h0]; decide : A 4 t ≠ 2)⟩))
      have I4 := rd_i_xs (t := s) (x := A 6 t) I3
      have I5 : rd_Inv n 8 (D + 1) (rd_ready (rd_sw (rd_mt A s t d)  5 s (nI q)) s) (w.filter (fun x => x != t) ++ [s]) (rd_fq Q t) := rd_i_pl (t := s) (p := q) I4 hs hq (Or.inl z0)
      rw [efq] at I5
      have wl1 : (w.filter (fun x => x != t)).length < 8 := Nat.lt_of_lt_of_le (rd_wlen' I1 hs (show (rd_sw A  4 t 2) 4 s ≠ 0 from (by rw [show (rd_sw A  4 t 2) 4 s = A 4 s from rd_un st']; exact q0))) hn
      have nz : (rd_ready (rd_sw (rd_mt A s t d)  5 s (nI q)) s) 4 t ≠ 0 := by
        have : (rd_ready (rd_sw (rd_mt A s t d)  5 s (nI q)) s) 4 t = 2 := (rd_un ts).trans rd_us
        rw [this]; decide
      refine ⟨n, _, _, Q, I5, ⟨Nat.le_refl _, rfl, rfl, rfl, rfl, fun r hr y => ?_, fun y => absurd y nz⟩, fun y => absurd y nz, ?_, ?_⟩
      · have y : upd (upd (A 4) t 2) s 0 r = 9 := y
        by_cases z : r = s
        · rw [z, rd_us] at y; exact absurd y (by decide)
        · rw [rd_un z] at y
          by_cases z' : r = t
          · rw [z', rd_us] at y; exact absurd y (by decide)
          · rw [rd_un z'] at y; exact n9 r hr y
      · intro post ra qa ql hx H
        refine X post ra qa ql ?_
        unfold wpX_doCall
        refine ⟨i8, nm_r (e' := nI p) (by rw [ct]; exact epl) (rd_x_isThere I.vN hs8 (fun _ _ _ => br_f (by decide) (pm (br_f (rd_nm (by omega)) (rd_x_waitAs (rd_RX_mk hx) (by omega) wl8 wx8 ?_)))) (fun y => absurd there' y))⟩
        rintro u' ⟨ra1, qa1, ql1, rfl, hx1⟩
        refine rd_x_beginMeeting (A := rd_sw A  4 t 2) hs8 (by omega) ed hd ?_
        rw [rd_mt_cd]
        refine ⟨i8s, nm_r (e' := upd (A 5) s (nI q)) (by rw [cs]; rfl) ?_⟩
        refine rd_x_makeReady (rd_RX_mk (A := rd_sw (rd_mt A s t d)  5 s (nI q)) hx1) hs8 wl1 ?_
        rintro u' ⟨ra2, qa2, ql2, rfl, hx2⟩
        exact ⟨i8, nm_r (e' := upd (A 5) s (nI q)) (by rw [ct]; exact rd_ue ((rd_un ts).trans epl)) (H _ (rd_RX_mk hx2))⟩
      · intro post ra qa wq am rz ob fr st bl hy H
        refine Y1 post ra qa wq am rz ob fr st bl hy (br_f (nI_pos (by omega)) ?_)
        refine rd_y_meet I I1' hy (by omega) hs ht k7 k8 k9 ed hd (fun ra' qa' wq' hy2 => ?_)
        have cs' : (rd_sw (rd_mt A s t d)  5 s (nI q)) 4 s = A 4 s := rd_un st'
        refine rd_y_wake (rd_RY_mk hy2) hn hs wl1 (by rw [cs']; exact s7) (by rw [cs']; exact s8) (by rw [cs']; exact q9) ?_
        rw [efq]
        rintro v' ⟨ra1, qa1, wq1, am1, rz1, ob1, fr1, st1, bl1, rfl, hy1⟩
        exact H _ (rd_RY_mk hy1)
  · refine Or.inr (rd_mkO2y C 11 (by omega) (by omega) ?_ ?_)
    · intro post ra qa ql _ H
      refine X post ra qa ql ?_
      unfold wpX_doCall
      exact ⟨i8, nm_r (e' := nI p) (by rw [ct]; exact epl) (rd_x_isThere I.vN hs8 (fun a1 a2 a3 => absurd ⟨a1, a2, a3⟩ there) (fun _ => br_t rfl H))⟩
    · intro post ra qa wq am rz ob fr st bl hy H
      refine Y post ra qa wq am rz ob fr st bl ?_
      have P : wY_call_30 (fun u => match u with | (f_tasks_1, f_blocks_1, f_readies_1, f_time_1, f_done_1, f_turns_1, f_notes_1, a_length_1, a_ops_1, a_as_1, a_bs_1, a_states_1, a_places_1, a_xs_1, a_limits_1, a_bodies_1, a_ends_1, a_raised_1, a_until_1, a_high_1, a_kinds_1, a_frames_1, a_on_1, a_onBlock_1, a_doomed_1, a_queues_1, a_waiting_1, a_row_1, a_dying_1, a_among_1, a_noteTask_1, a_noteInt_1) => post (f_tasks_1, f_blocks_1, f_readies_1, f_time_1, f_done_1, f_turns_1, f_notes_1, a_length_1, a_ops_1, a_as_1, a_bs_1, a_states_1, a_places_1, a_xs_1, a_limits_1, a_bodies_1, a_ends_1, a_raised_1, a_until_1, a_high_1, a_kinds_1, a_frames_1, a_on_1, a_onBlock_1, a_doomed_1, a_queues_1, a_waiting_1, a_row_1, a_dying_1, a_among_1, a_noteTask_1, a_noteInt_1)) (nI t) (A 26 0) bl (nI w.length) (A 27 0) (A 28 0) (A 29 0) (A 25 0) (A 3) (A 0) (A 1) (A 2) st (A 5) (A 6) (A 11) (A 8) (A 7) rz (A 16) (A 18) (A 19) fr (A 9) ob (A 13) qa wq ra (A 33) am (A 21) (A 22) := H
      unfold wpY_call
      by_cases hs : s < n
      · refine br_f (by rw [I.vN.1]; exact nI_ge hs (by omega)) ⟨i8s, ?_⟩
        rw [cs, hy.y9 s]
        by_cases h7 : A 4 s = 7
        · exact br_t (by rw [h7]; rfl) P
        · refine br_f (fun y => h7 ((rd_cv_eq (by decide) (by decide)).mp y)) ⟨i8s, ?_⟩
          by_cases h8 : A 4 s = 8
          · exact br_t (by rw [h8]; rfl) P
          · exact absurd ⟨hs, h7, h8⟩ there
      · exact br_t (by rw [I.vN.1]; exact nI_le (by omega) (by omega)) P
theorem rd_op9 {s j : Nat} (C : rd_C n D t p b' A w Q) (hp20 : p < 20) (hs : s < 8) (hj : j < 3) (ea : a = nI s) (eb : b = nI j) : rd_O1 n D t p 9 a b a b A w Q ∨ rd_O2 n D t p 9 a b a b A w Q := by
  obtain ⟨I, ht, h0, hp, n9, epl, hpl, ebo, hbo, hD, hT, hN⟩ := id C
  have hn := I.vN.2
  have ct : (nI t).toNatClampNeg = t := nI_clamp (by omega)
  have i8 : vp_in (nI t) 8 := vp_in_nI (by omega) (by omega)
  obtain ⟨d, hd, ed, _⟩ := rd_dpos I ht
  subst ea
  subst eb
  refine rd_o_call (late := 0) C hp20 hs hj (Or.inl rfl) ?_ ?_
  · intro post ra qa ql H
    exact br_f (by decide) <| br_f (by decide) <| br_f (by decide) <| br_f (by decide) <| br_f (by decide) <| br_f (by decide) <| br_f (by decide) <| br_f (by decide) <| br_f (by decide) <| br_f (by decide) <| br_f (by decide) <| br_t rfl <| H
  · intro post ra qa wq am rz ob fr st bl H
    refine rd_y_st (d := d) (by omega) epl ed hd (by decide) (by decide) (by decide) (by decide) (by decide) (Or.inr (by decide)) ?_
    exact br_f (by decide) <| br_f (by decide) <| br_f (by decide) <| br_f (by decide) <| br_f (by decide) <| br_f (by decide) <| br_f (by decide) <| br_t rfl <| ⟨i8, nm_r (e' := A 5) (by rw [ct]; exact rd_ue epl) (br_f (by decide) H)⟩
theorem rd_op11 {s j : Nat} (C : rd_C n D t p b' A w Q) (hp20 : p < 20) (hs : s < 8) (hj : j < 3) (ea : a = nI s) (eb : b = nI j) : rd_O1 n D t p 11 a b a b A w Q ∨ rd_O2 n D t p 11 a b a b A w Q := by
  obtain ⟨I, ht, h0, hp, n9, epl, hpl, ebo, hbo, hD, hT, hN⟩ := id C
  have hn := I.vN.2
  have ct : (nI t).toNatClampNeg = t := nI_clamp (by omega)
  have i8 : vp_in (nI t) 8 := vp_in_nI (by omega) (by omega)
  obtain ⟨d, hd, ed, _⟩ := rd_dpos I ht
  subst ea
  subst eb
  refine rd_o_call (late := 1) C hp20 hs hj (Or.inr rfl) ?_ ?_
  · intro post ra qa ql H
    exact br_f (by decide) <| br_f (by decide) <| br_f (by decide) <| br_f (by decide) <| br_f (by decide) <| br_f (by decide) <| br_f (by decide) <| br_f (by decide) <| br_f (by decide) <| br_f (by decide) <| br_f (by decide) <| br_f (by decide) <| br_f (by decide) <| br_t rfl <| H
  · intro post ra qa wq am rz ob fr st bl H
    refine rd_y_st (d := d) (by omega) epl ed hd (by decide) (by decide) (by decide) (by decide) (by decide) (Or.inr (by decide)) ?_
    exact br_f (by decide) <| br_f (by decide) <| br_f (by decide) <| br_f (by decide) <| br_f (by decide) <| br_f (by decide) <| br_f (by decide) <| br_f (by decide) <| br_f (by decide) <| br_t rfl <| ⟨i8, nm_r (e' := A 5) (by rw [ct]; exact rd_ue epl) (br_t rfl H)⟩
end
end
section
/-! SELECT -/
section
variable {A : rd_St} {t b p L : Nat} {Q : Nat → List Nat}
def rd_sS (A : rd_St) (t b : Nat) (Q : Nat → List Nat) (i : Nat) : Bool := !(Q (3 * t + (A 1 (20 * b + i)).toNatClampNeg)).isEmpty
def rd_SA (A : rd_St) (t b : Nat) (Q : Nat → List Nat) : Nat → Nat → Option Nat := rd_scan (rd_op (A 0) (A 3) b) (fun i => rd_opn (rd_op (A 0) (A 3) b i) (A 6 t) && rd_sS A t b Q i)
def rd_SO (A : rd_St) (b : Nat) : Nat → Nat → Option Nat := rd_scan (rd_op (A 0) (A 3) b) (fun i => decide (18 ≤ rd_op (A 0) (A 3) b i))
def rd_SH (A : rd_St) (t b : Nat) : Nat → Nat → Option Nat := rd_scan (rd_op (A 0) (A 3) b) (fun i => rd_opn (rd_op (A 0) (A 3) b i) (A 6 t))
def rd_ov (b : Nat) : Option Nat → Int32
  | none => -1
  | some i => nI (20 * b + i)
/-- an alternative that is unbarred: WHEN or IFX, with an entry and a place -/
theorem rd_alt (h : rd_at A t b p L) (hG : rd_vG (A 0) (A 1) (A 2) (A 3)) {i : Nat} (hi : i < L) (ho : rd_opn (rd_op (A 0) (A 3) b i) (A 6 t) = true) : (∃ j, j < 3 ∧ A 1 (20 * b + i) = nI j) ∧ (∃ q, q ≤ 20 ∧ A 2 (20 * b + i) = nI q) ∧ ¬ 18 ≤ rd_op (A 0) (A 3) b i := by
  have ef := (rd_at_op h i).1 hi
  have fit := hG.2 (20 * b + i) (by have := h.2.1; have := h.2.2.2.2.2; omega)
  have op1 : A 0 (20 * b + i) = 16 ∨ A 0 (20 * b + i) = 17 := by
    have := rd_opn_t.mp ho
    rw [ef] at this
    rcases this with y | y
    · exact Or.inl y
    · exact Or.inr y.1
  obtain ⟨a, c⟩ := fit.2.2.2.2.2.2.2.1 op1
  refine ⟨a, c, ?_⟩
  rw [ef]
  rcases op1 with y | y <;> rw [y] <;> decide
theorem rd_xl_sel {post : Int32 → SX → Prop} {w : List Nat} {ra qa ql : Nat → Int32} {e k0 : Nat} (h : rd_at A t b p L) (ht : t < 8) (hG : rd_vG (A 0) (A 1) (A 2) (A 3)) (hx : rd_XL w Q ra qa ql) (hQ : ∀ q, (Q q).length ≤ 8) (he : rd_eo A b L k0 e) : ∀ (d k : Nat) (x4 x5 : Int32), 21 ≤ k + d → k + d < 500 → k0 ≤ k → (∀ j, k0 ≤ j → j < k → 16 ≤ rd_op (A 0) (A 3) b j ∧ rd_op (A 0) (A 3) b j ≤ 20) → (∀ i j, rd_SA A t b Q d k = some i → A 1 (20 * b + i) = nI j → j < 3 → i < 20 → wpX_meetFirstOf (fun u => match u with | (f_rowLength_1, f_noteCount_1, f_tasks_1, f_time_1, f_done_1, f_turns_1, f_doneInTurn_1, f_inTurn_1, a_ops_1, a_firsts_1, a_seconds_1, a_lengths_1, a_condition_1, a_place_1, a_xs_1, a_ended_1, a_bodyOf_1, a_master_1, a_masterBlock_1, a_limits_1, a_pending_1, a_doomed_1, a_terminable_1, a_calledQueue_1, a_wakeTime_1, a_wakePlace_1, a_depth_1, a_frameKind_1, a_frameValue_1, a_queue_1, a_queueLength_1, a_row_1, a_noteTask_1, a_noteValue_1, a_fallen_1, a_chosen_1) => (vp_in (nI (20 * b + i)) 80 ∧ post (a_seconds_1 (20 * b + i)) (f_rowLength_1, f_noteCount_1, f_tasks_1, f_time_1, f_done_1, f_turns_1, f_doneInTurn_1, f_inTurn_1, a_ops_1, a_firsts_1, a_seconds_1, a_lengths_1, a_condition_1, a_place_1, a_xs_1, a_ended_1, a_bodyOf_1, a_master_1, a_masterBlock_1, a_limits_1, a_pending_1, a_doomed_1, a_terminable_1, a_calledQueue_1, a_wakeTime_1, a_wakePlace_1, a_depth_1, a_frameKind_1, a_frameValue_1, a_queue_1, a_queueLength_1, a_row_1, a_noteTask_1, a_noteValue_1, a_fallen_1, a_chosen_1))) (rd_tX A (nI w.length) ra qa ql) (nI t) (nI (3 * t + j))) → (rd_SA A t b Q d k = none → ∀ o, o = (if x5 = -1 then rd_ov b (rd_SO A b d k) else x5) → ((o = -1 → x4 = 0 → rd_SH A t b d k = none → wpX_fail (fun r u => match u with | (f_rowLength_1, f_noteCount_1, f_tasks_1, f_time_1, f_done_1, f_turns_1, f_doneInTurn_1, f_inTurn_1, a_ops_1, a_firsts_1, a_seconds_1, a_lengths_1, a_condition_1, a_place_1, a_xs_1, a_ended_1, a_bodyOf_1, a_master_1, a_masterBlock_1, a_limits_1, a_pending_1, a_doomed_1, a_terminable_1, a_calledQueue_1, a_wakeTime_1, a_wakePlace_1, a_depth_1, a_frameKind_1, a_frameValue_1, a_queue_1, a_queueLength_1, a_row_1, a_noteTask_1, a_noteValue_1, a_fallen_1, a_chosen_1) => post r (f_rowLength_1, f_noteCount_1, f_tasks_1, f_time_1, f_done_1, f_turns_1, f_doneInTurn_1, f_inTurn_1, a_ops_1, a_firsts_1, a_seconds_1, a_lengths_1, a_condition_1, a_place_1, a_xs_1, a_ended_1, a_bodyOf_1, a_master_1, a_masterBlock_1, a_limits_1, a_pending_1, a_doomed_1, a_terminable_1, a_calledQueue_1, a_wakeTime_1, a_wakePlace_1, a_depth_1, a_frameKind_1, a_frameValue_1, a_queue_1, a_queueLength_1, a_row_1, a_noteTask_1, a_noteValue_1, a_fallen_1, a_chosen_1)) (rd_tX A (nI w.length) ra qa ql) (nI t) 12) ∧ (¬ (o = -1 ∧ x4 = 0 ∧ rd_SH A t b d k = none) → wX_doSelect_166 post (nI t) o (nI w.length) (A 25 0) (A 26 0) (A 27 0) (A 28 0) (A 29 0) (A 30 0) (A 31 0) (A 0) (A 1) (A 2) (A 3) (A 4) (A 5) (A 6) (A 7) (A 8) (A 9) (A 10) (A 11) (A 12) (A 13) (A 14) (A 15) (A 16) (A 17) (A 18) (A 19) (A 20) qa ql ra (A 21) (A 22) (A 32) (A 23)))) → wX_doSelect_51 post (nI t) (nI (20 * b)) (nI e) (nI w.length) (A 25 0) (A 26 0) (A 27 0) (A 28 0) (A 29 0) (A 30 0) (A 31 0) (A 0) (A 1) (A 2) (A 3) (A 4) (A 5) (A 6) (A 7) (A 8) (A 9) (A 10) (A 11) (A 12) (A 13) (A 14) (A 15) (A 16) (A 17) (A 18) (A 19) (A 20) qa ql ra (A 21) (A 22) (A 32) (A 23) (d + 1) x4 x5 (nI k) := by
  intro d
  induction d with
  | zero =>
    intro k x4 x5 h1 h2 h3 h4 HA HN
    have := he.1
    have o0 : (if x5 = -1 then rd_ov b (rd_SO A b 0 k) else x5) = x5 := by
      by_cases y : x5 = -1
      · rw [if_pos y, y]; rfl
      · rw [if_neg y]
    have H := HN rfl x5 o0.symm
    refine br_t (nI_le (by omega) (by omega)) (br_c (fun y => br_c (fun z => H.1 y z rfl) (fun z => H.2 (fun q => z q.2.1))) (fun y => H.2 (fun q => y q.1)))
  | succ d ih =>
    intro k x4 x5 h1 h2 h3 h4 HA HN
    have hb := h.2.1
    have hL := h.2.2.2.2.2
    by_cases z : 16 ≤ rd_op (A 0) (A 3) b k ∧ rd_op (A 0) (A 3) b k ≤ 20
    · have hk := rd_at_in h z
      have he1 := he.1
      have ef := (rd_at_op h k).1 hk
      have ek : ¬ e ≤ k := fun y => (he.2.2 k h3 h4).mp y z
      have ik : nI (20 * b) + nI k = nI (20 * b + k) := nI_add _ _
      have ck : (nI (20 * b + k)).toNatClampNeg = 20 * b + k := nI_clamp (by omega)
      have i80 : vp_in (nI (20 * b + k)) 80 := vp_in_nI (by omega) (by omega)
      have h4' : ∀ j, k0 ≤ j → j < k + 1 → 16 ≤ rd_op (A 0) (A 3) b j ∧ rd_op (A 0) (A 3) b j ≤ 20 := by
        intro j a1 a2
        by_cases q : j = k
        · rw [q]; exact z
        · exact h4 j a1 (by omega)
      refine br_f (nI_ge (by omega) (by omega)) (rd_x_isOpen (i := k) h ht hk (fun q => br_f (by decide) ?_) (fun q => br_t rfl ?_))
      · -- unbarred
        obtain ⟨⟨j, hj, ej⟩, _, n18⟩ := rd_alt h hG hk q
        have ej' : (A 1 (20 * b + k)).toNatClampNeg = j := by rw [ej]; exact nI_clamp (by omega)
        have iq : nI t * 3 + nI j = nI (3 * t + j) := rd_ix t j 3 3 rfl
        have cq : (nI (3 * t + j)).toNatClampNeg = 3 * t + j := nI_clamp (by omega)
        have e0 := (hx.2 (3 * t + j) (by omega)).1
        have eSO : rd_SO A b (d + 1) k = rd_SO A b d (k + 1) := rd_scan_n _ _ d k z (by simpa using n18)
        have eSH : rd_SH A t b (d + 1) k = some k := rd_scan_s _ _ d k z q
        rw [ik, ck, ej]
        refine ⟨i80, nm_r iq ⟨vp_in_nI (by omega) (by omega), ?_⟩⟩
        rw [cq, e0]
        cases hq : Q (3 * t + j) with
        | nil =>
          have eS : rd_sS A t b Q k = false := by unfold rd_sS; rw [ej', hq]; rfl
          have eSA : rd_SA A t b Q (d + 1) k = rd_SA A t b Q d (k + 1) := rd_scan_n _ _ d k z (by rw [q, eS]; rfl)
          rw [eSA] at HA HN
          rw [eSO, eSH] at HN
          refine br_t (nI_le (a := 0) (b := 0) (Nat.le_refl _) (by omega)) (nm_r (nI_1 k) (ih (k + 1) 1 x5 (by omega) (by omega) (by omega) h4' HA (fun y o ho => ⟨fun _ g => absurd g (by decide), fun _ => (HN y o ho).2 (fun g => by simp at g)⟩)))
        | cons c l =>
          have eS : rd_sS A t b Q k = true := by unfold rd_sS; rw [ej', hq]; rfl
          have eSA : rd_SA A t b Q (d + 1) k = some k := rd_scan_s _ _ d k z (by rw [q, eS]; rfl)
          have hle := hQ (3 * t + j)
          rw [hq] at hle
          exact br_f (nI_ge (a := 0) (by simp) (by omega)) (HA k j eSA ej hj (by omega))
      · -- not unbarred
        have eSA : rd_SA A t b Q (d + 1) k = rd_SA A t b Q d (k + 1) := rd_scan_n _ _ d k z (by rw [q]; rfl)
        have eSH : rd_SH A t b (d + 1) k = rd_SH A t b d (k + 1) := rd_scan_n _ _ d k z q
        rw [eSA] at HA HN
        rw [eSH] at HN
        by_cases y : x5 = -1
        · refine br_t y ?_
          rw [ik, ck, ← ef]
          refine ⟨i80, ?_⟩
          by_cases x : 18 ≤ rd_op (A 0) (A 3) b k
          · have eSO : rd_SO A b (d + 1) k = some k := rd_scan_s _ _ d k z (by simpa using x)
            rw [eSO, if_pos y] at HN
            refine br_f (Int32.not_lt.mpr x) (nm_r rfl (nm_r (nI_1 k) (ih (k + 1) x4 (nI (20 * b + k)) (by omega) (by omega) (by omega) h4' HA (fun g o ho => HN g o ?_))))
            rw [if_neg (rd_nm (by omega))] at ho
            exact ho
          · have eSO : rd_SO A b (d + 1) k = rd_SO A b d (k + 1) := rd_scan_n _ _ d k z (by simpa using x)
            rw [eSO] at HN
            exact br_t (Int32.not_le.mp x) (nm_r (nI_1 k) (ih (k + 1) x4 x5 (by omega) (by omega) (by omega) h4' HA HN))
        · refine br_f y (nm_r (nI_1 k) (ih (k + 1) x4 x5 (by omega) (by omega) (by omega) h4' HA (fun g o ho => HN g o ?_)))
          rw [if_neg y] at ho ⊢
          exact ho
    · have ek : e ≤ k := (he.2.2 k h3 h4).mpr z
      have a1 : rd_SA A t b Q (d + 1) k = none := rd_scan_no _ _ (d + 1) k z
      have a2 : rd_SO A b (d + 1) k = none := rd_scan_no _ _ (d + 1) k z
      have a3 : rd_SH A t b (d + 1) k = none := rd_scan_no _ _ (d + 1) k z
      have o0 : (if x5 = -1 then rd_ov b (rd_SO A b (d + 1) k) else x5) = x5 := by
        by_cases y : x5 = -1
        · rw [if_pos y, y, a2]; rfl
        · rw [if_neg y]
      have H := HN a1 x5 o0.symm
      refine br_t (nI_le ek (by omega)) (br_c (fun y => br_c (fun g => H.1 y g a3) (fun g => H.2 (fun q => g q.2.1))) (fun y => H.2 (fun q => y q.1)))
end
end
section
/-! SELECT: the outcomes -/
section
variable {n D t p b' d : Nat} {a b : Int32} {A : rd_St} {w : List Nat} {Q : Nat → List Nat}
theorem rd_y_sel {post : SY → Prop} {ra qa wq am rz ob fr st : Nat → Int32} {bl : Int32} {bb L : Nat} (I : rd_Inv n 8 (D + 1) A w Q) (hy : rd_YL 8 n D A w Q ra qa wq am rz ob fr st bl) (ht : t < n) (h : rd_at A t bb p L) (PA : ∀ i j c l, rd_SA A t bb Q 21 (p + 1) = some i → A 1 (20 * bb + i) = nI j → j < 3 → Q (3 * t + j) = c :: l → wpY_meet (fun u => match u with | (f_tasks_1, f_blocks_1, f_readies_1, f_time_1, f_done_1, f_turns_1, f_notes_1, a_length_1, a_ops_1, a_as_1, a_bs_1, a_states_1, a_places_1, a_xs_1, a_limits_1, a_bodies_1, a_ends_1, a_raised_1, a_until_1, a_high_1, a_kinds_1, a_frames_1, a_on_1, a_onBlock_1, a_doomed_1, a_queues_1, a_waiting_1, a_row_1, a_dying_1, a_among_1, a_noteTask_1, a_noteInt_1) => post (f_tasks_1, f_blocks_1, f_readies_1, f_time_1, f_done_1, f_turns_1, f_notes_1, a_length_1, a_ops_1, a_as_1, a_bs_1, a_states_1, a_places_1, a_xs_1, a_limits_1, a_bodies_1, a_ends_1, a_raised_1, a_until_1, a_high_1, a_kinds_1, a_frames_1, a_on_1, a_onBlock_1, a_doomed_1, a_queues_1, a_waiting_1, a_row_1, a_dying_1, a_among_1, a_noteTask_1, a_noteInt_1)) (rd_tY A (nI w.length) ra qa wq am rz ob fr st bl) (nI t) (nI c) (A 2 (20 * bb + i))) (PN : rd_SA A t bb Q 21 (p + 1) = none → (rd_SO A bb 21 (p + 1) = none → wY_select_75 post (nI t) (-1) (-1) (A 26 0) bl (nI w.length) (A 27 0) (A 28 0) (A 29 0) (A 25 0) (A 3) (A 0) (A 1) (A 2) st (A 5) (A 6) (A 11) (A 8) (A 7) rz (A 16) (A 18) (A 19) fr (A 9) ob (A 13) qa wq ra (A 33) am (A 21) (A 22)) ∧ (∀ k, rd_SO A bb 21 (p + 1) = some k → wY_select_75 post (nI t) (nI k) (rd_op (A 0) (A 3) bb k) (A 26 0) bl (nI w.length) (A 27 0) (A 28 0) (A 29 0) (A 25 0) (A 3) (A 0) (A 1) (A 2) st (A 5) (A 6) (A 11) (A 8) (A 7) rz (A 16) (A 18) (A 19) fr (A 9) ob (A 13) qa wq ra (A 33) am (A 21) (A 22))) : wpY_select post (rd_tY A (nI w.length) ra qa wq am rz ob fr st bl) (nI t) := by
  have hn := I.vN.2
  have ct : (nI t).toNatClampNeg = t := nI_clamp (by omega)
  have i8 : vp_in (nI t) 8 := vp_in_nI (by omega) (by omega)
  obtain ⟨g1, g2, g3, g4, g5, g6⟩ := id h
  unfold wpY_select
  unfold wpY_alternative
  refine ⟨i8, nm_r (e' := nI (p + 1)) (by rw [ct, g3, nI_1]) ⟨_, rd_yl_alt h (by omega) (-1) (rd_sS A t bb Q) (fun i ho i20 P1 P0 f1 f0 => ⟨fun z => absurd z (by decide), fun _ => ?_⟩) 21 (p + 1) (by omega) (by omega) (fun z => ?_) (fun i z => ?_)⟩⟩
  · have iL : i < L := by
      apply Classical.byContradiction
      intro y
      rw [(rd_at_op h i).2 y] at ho
      exact absurd (rd_opn_t.mp ho) (by rintro (q | q); exact absurd q (by decide); exact absurd q.1 (by decide))
    obtain ⟨⟨j, hj, ej⟩, _, _⟩ := rd_alt h I.vG iL ho
    have ej' : (A 1 (20 * bb + i)).toNatClampNeg = j := by rw [ej]; exact nI_clamp (by omega)
    have e0 := (hy.y3 (3 * t + j) (by omega)).1
    have hl := rd_qlen (q := 3 * t + j) I
    rw [ej, rd_ix' t j 3 3 rfl, nI_clamp (by omega), e0]
    refine ⟨vp_in_nI (by omega) (by omega), ?_⟩
    cases hq : Q (3 * t + j) with
    | nil => exact br_t (nI_le (a := 0) (b := 0) (Nat.le_refl _) (by omega)) (f0 (by unfold rd_sS; rw [ej', hq]; rfl))
    | cons c l =>
      rw [hq] at hl
      exact br_f (nI_ge (a := 0) (by simp) (by omega)) (f1 (by unfold rd_sS; rw [ej', hq]; rfl))
  · have P := PN z
    refine rd_y_other h (by omega) (fun y => br_t (by decide) (br_f (by decide) (P.1 y))) (fun k y => br_t (by decide) (br_t (nI_pos' ?_) (rd_y_opAt h (by omega) ?_ (P.2 k y))))
    · have := (rd_scan_some _ _ _ _ _ y).2.1; omega
    · have := (rd_scan_some _ _ _ _ _ y).2.1; omega
  · have zi := rd_scan_some _ _ _ _ _ z
    have iL := rd_at_in h zi.2.2.1
    have hh := zi.2.2.2
    simp only [Bool.and_eq_true] at hh
    obtain ⟨⟨j, hj, ej⟩, _, _⟩ := rd_alt h I.vG iL hh.1
    have ej' : (A 1 (20 * bb + i)).toNatClampNeg = j := by rw [ej]; exact nI_clamp (by omega)
    obtain ⟨e0, e1⟩ := hy.y3 (3 * t + j) (by omega)
    have ii : 20 * A 8 (nI t).toNatClampNeg + nI i = nI (20 * bb + i) := by rw [ct, g1]; exact rd_ix' bb i 20 20 rfl
    have i8' : 8 * nI (3 * t + j) = nI (8 * (3 * t + j)) := by
      have := rd_ix' (3 * t + j) 0 8 8 rfl
      rw [nI_0, Int32.add_zero] at this
      exact this
    cases hq : Q (3 * t + j) with
    | nil =>
      have := hh.2
      unfold rd_sS at this
      rw [ej', hq] at this
      exact absurd this (by decide)
    | cons c l =>
      rw [hq] at e1
      have fin : wpY_aAt (fun r_246 => (vp_in (8 * ((3 * nI t) + r_246)) 192 ∧ (∀ x4 : Int32, x4 = qa (8 * ((3 * nI t) + r_246)).toNatClampNeg → (vp_in (nI t) 8 ∧ (vp_in ((20 * (A 8 (nI t).toNatClampNeg)) + nI i) 80 ∧ (wpY_meet (fun u => match u with | (f_tasks_1, f_blocks_1, f_readies_1, f_time_1, f_done_1, f_turns_1, f_notes_1, a_length_1, a_ops_1, a_as_1, a_bs_1, a_states_1, a_places_1, a_xs_1, a_limits_1, a_bodies_1, a_ends_1, a_raised_1, a_until_1, a_high_1, a_kinds_1, a_frames_1, a_on_1, a_onBlock_1, a_doomed_1, a_queues_1, a_waiting_1, a_row_1, a_dying_1, a_among_1, a_noteTask_1, a_noteInt_1) => post (f_tasks_1, f_blocks_1, f_readies_1, f_time_1, f_done_1, f_turns_1, f_notes_1, a_length_1, a_ops_1, a_as_1, a_bs_1, a_states_1, a_places_1, a_xs_1, a_limits_1, a_bodies_1, a_ends_1, a_raised_1, a_until_1, a_high_1, a_kinds_1, a_frames_1, a_on_1, a_onBlock_1, a_doomed_1, a_queues_1, a_waiting_1, a_row_1, a_dying_1, a_among_1, a_noteTask_1, a_noteInt_1)) (rd_tY A (nI w.length) ra qa wq am rz ob fr st bl) (nI t) x4 (A 2 ((20 * (A 8 (nI t).toNatClampNeg)) + nI i).toNatClampNeg))))))) (rd_tY A (nI w.length) ra qa wq am rz ob fr st bl) (nI t) (nI i) := by
        refine rd_y_aAt h (by omega) (by omega) ?_
        rw [ej, rd_ix' t j 3 3 rfl, i8', nI_clamp (by omega), ii, nI_clamp (by omega)]
        exact ⟨vp_in_nI (by omega) (by omega), nm_r e1.1 ⟨i8, vp_in_nI (by omega) (by omega), PA i j c l z ej hj hq⟩⟩
      exact rd_y_other h (by omega) (fun _ => br_f (nI_pos (by omega)) fin) (fun k _ => br_f (nI_pos (by omega)) fin)
theorem rd_op15 (C : rd_C n D t p b' A w Q) (hp20 : p < 20) : rd_O1 n D t p 15 a b a b A w Q ∨ rd_O2 n D t p 15 a b a b A w Q := by
  obtain ⟨I, ht, h0, hp, n9, epl, hpl, ebo, hbo, hD, ⟨T, hT, eT⟩, hN⟩ := id C
  have hn := I.vN.2
  have ct : (nI t).toNatClampNeg = t := nI_clamp (by omega)
  have i8 : vp_in (nI t) 8 := vp_in_nI (by omega) (by omega)
  have k7 : A 4 t ≠ 7 := by rw [h0]; decide
  have k8 : A 4 t ≠ 8 := by rw [h0]; decide
  have k9 : A 4 t ≠ 9 := by rw [h0]; decide
  have wk1 : A 16 t = -1 := rd_wk0 I ht ⟨by rw [h0]; decide, by rw [h0]; decide, by rw [h0]; decide⟩
  have wl8 : w.length ≤ 8 := Nat.le_trans (rd_wlen I) hn
  have wx8 : ∀ x, x ∈ w → x < 8 := fun x hx => Nat.lt_of_lt_of_le ((I.vR.2 x).mp hx).1 hn
  have hQ8 : ∀ q, (Q q).length ≤ 8 := fun q => Nat.le_trans (rd_qlen I) hn
  obtain ⟨d, hd, ed, _⟩ := rd_dpos I ht
  obtain ⟨L, hL, eL⟩ := I.vG.1 b' (by omega)
  have hat : rd_at A t b' p L := ⟨ebo, hbo, epl, hpl, eL, hL⟩
  have e20 : A 8 (nI t).toNatClampNeg * 20 = nI (20 * b') := by
    rw [ct, ebo]
    have := rd_ix b' 0 20 20 rfl
    rw [nI_0, Int32.add_zero] at this
    exact this
  have ep1 : A 5 (nI t).toNatClampNeg + 1 = nI (p + 1) := by rw [ct, epl, nI_1]
  by_cases z : d < 8
  · -- the ways of both sides
    have XS : ∀ (K : Int32 → SX → Prop) (ra qa ql : Nat → Int32), rd_XL w Q ra qa ql → (∀ i j, rd_SA A t b' Q 21 (p + 1) = some i → A 1 (20 * b' + i) = nI j → j < 3 → i < 20 → wpX_meetFirstOf (fun u => match u with | (f_rowLength_1, f_noteCount_1, f_tasks_1, f_time_1, f_done_1, f_turns_1, f_doneInTurn_1, f_inTurn_1, a_ops_1, a_firsts_1, a_seconds_1, a_lengths_1, a_condition_1, a_place_1, a_xs_1, a_ended_1, a_bodyOf_1, a_master_1, a_masterBlock_1, a_limits_1, a_pending_1, a_doomed_1, a_terminable_1, a_calledQueue_1, a_wakeTime_1, a_wakePlace_1, a_depth_1, a_frameKind_1, a_frameValue_1, a_queue_1, a_queueLength_1, a_row_1, a_noteTask_1, a_noteValue_1, a_fallen_1, a_chosen_1) => (vp_in (nI (20 * b' + i)) 80 ∧ K (a_seconds_1 (20 * b' + i)) (f_rowLength_1, f_noteCount_1, f_tasks_1, f_time_1, f_done_1, f_turns_1, f_doneInTurn_1, f_inTurn_1, a_ops_1, a_firsts_1, a_seconds_1, a_lengths_1, a_condition_1, a_place_1, a_xs_1, a_ended_1, a_bodyOf_1, a_master_1, a_masterBlock_1, a_limits_1, a_pending_1, a_doomed_1, a_terminable_1, a_calledQueue_1, a_wakeTime_1, a_wakePlace_1, a_depth_1, a_frameKind_1, a_frameValue_1, a_queue_1, a_queueLength_1, a_row_1, a_noteTask_1, a_noteValue_1, a_fallen_1, a_chosen_1))) (rd_tX A (nI w.length) ra qa ql) (nI t) (nI (3 * t + j))) → (rd_SA A t b' Q 21 (p + 1) = none → ∀ o, o = rd_ov b' (rd_SO A b' 21 (p + 1)) → ((o = -1 → rd_SH A t b' 21 (p + 1) = none → wpX_fail (fun r u => match u with | (f_rowLength_1, f_noteCount_1, f_tasks_1, f_time_1, f_done_1, f_turns_1, f_doneInTurn_1, f_inTurn_1, a_ops_1, a_firsts_1, a_seconds_1, a_lengths_1, a_condition_1, a_place_1, a_xs_1, a_ended_1, a_bodyOf_1, a_master_1, a_masterBlock_1, a_limits_1, a_pending_1, a_doomed_1, a_terminable_1, a_calledQueue_1, a_wakeTime_1, a_wakePlace_1, a_depth_1, a_frameKind_1, a_frameValue_1, a_queue_1, a_queueLength_1, a_row_1, a_noteTask_1, a_noteValue_1, a_fallen_1, a_chosen_1) => K r (f_rowLength_1, f_noteCount_1, f_tasks_1, f_time_1, f_done_1, f_turns_1, f_doneInTurn_1, f_inTurn_1, a_ops_1, a_firsts_1, a_seconds_1, a_lengths_1, a_condition_1, a_place_1, a_xs_1, a_ended_1, a_bodyOf_1, a_master_1, a_masterBlock_1, a_limits_1, a_pending_1, a_doomed_1, a_terminable_1, a_calledQueue_1, a_wakeTime_1, a_wakePlace_1, a_depth_1, a_frameKind_1, a_frameValue_1, a_queue_1, a_queueLength_1, a_row_1, a_noteTask_1, a_noteValue_1, a_fallen_1, a_chosen_1)) (rd_tX A (nI w.length) ra qa ql) (nI t) 12) ∧ (¬ (o = -1 ∧ rd_SH A t b' 21 (p + 1) = none) → wX_doSelect_166 K (nI t) o (nI w.length) (A 25 0) (A 26 0) (A 27 0) (A 28 0) (A 29 0) (A 30 0) (A 31 0) (A 0) (A 1) (A 2) (A 3) (A 4) (A 5) (A 6) (A 7) (A 8) (A 9) (A 10) (A 11) (A 12) (A 13) (A 14) (A 15) (A 16) (A 17) (A 18) (A 19) (A 20) qa ql ra (A 21) (A 22) (A 32) (A 23)))) → wpX_doSelect K (rd_tX A (nI w.length) ra qa ql) (nI t) := by
      intro K ra qa ql hx HA HN
      unfold wpX_doSelect
      refine ⟨i8, br_t (by rw [ct, ed]; exact nI_lt (b := 8) z (by omega)) ⟨i8, nm_r e20 (rd_x_eo hat (by omega) (fun e he => ⟨i8, nm_r ep1 ⟨_, rd_xl_sel hat (by omega) I.vG hx hQ8 he 21 (p + 1) 0 (-1) (by omega) (by omega) (Nat.le_refl _) (fun j a1 a2 => by omega) HA (fun g o ho => ?_)⟩⟩))⟩⟩
      rw [if_pos rfl] at ho
      have H := HN g o ho
      exact ⟨fun a1 _ a3 => H.1 a1 a3, fun a1 => H.2 (fun q => a1 ⟨q.1, rfl, q.2⟩)⟩
    have YS : ∀ (post : SY → Prop) (ra qa wq am rz ob fr st : Nat → Int32) (bl : Int32), wpY_select (fun u => match u with | (f_tasks_1, f_blocks_1, f_readies_1, f_time_1, f_done_1, f_turns_1, f_notes_1, a_length_1, a_ops_1, a_as_1, a_bs_1, a_states_1, a_places_1, a_xs_1, a_limits_1, a_bodies_1, a_ends_1, a_raised_1, a_until_1, a_high_1, a_kinds_1, a_frames_1, a_on_1, a_onBlock_1, a_doomed_1, a_queues_1, a_waiting_1, a_row_1, a_dying_1, a_among_1, a_noteTask_1, a_noteInt_1) => post (f_tasks_1, f_blocks_1, f_readies_1, f_time_1, f_done_1, f_turns_1, f_notes_1, a_length_1, a_ops_1, a_as_1, a_bs_1, a_states_1, a_places_1, a_xs_1, a_limits_1, a_bodies_1, a_ends_1, a_raised_1, a_until_1, a_high_1, a_kinds_1, a_frames_1, a_on_1, a_onBlock_1, a_doomed_1, a_queues_1, a_waiting_1, a_row_1, a_dying_1, a_among_1, a_noteTask_1, a_noteInt_1)) (rd_tY A (nI w.length) ra qa wq am rz ob fr st bl) (nI t) → wpY_step post (rd_tY A (nI w.length) ra qa wq am rz ob fr st bl) (nI t) 15 a b := by
      intro post ra qa wq am rz ob fr st bl H
      refine rd_y_st (d := d) (by omega) epl ed hd (by decide) (by decide) (by decide) (by decide) (by decide) (Or.inl z) ?_
      exact br_f (by decide) <| br_f (by decide) <| br_f (by decide) <| br_f (by decide) <| br_f (by decide) <| br_f (by decide) <| br_f (by decide) <| br_f (by decide) <| br_f (by decide) <| br_f (by decide) <| br_f (by decide) <| br_f (by decide) <| br_f (by decide) <| br_t rfl <| H
    cases hSA : rd_SA A t b' Q 21 (p + 1) with
    | some i =>
      -- a meeting begins
      refine Or.inl ?_
      have zi := rd_scan_some _ _ _ _ _ hSA
      have iL := rd_at_in hat zi.2.2.1
      have hh := zi.2.2.2
      simp only [Bool.and_eq_true] at hh
      obtain ⟨⟨j, hj, ej⟩, ⟨q, hq20, eq⟩, _⟩ := rd_alt hat I.vG iL hh.1
      have ej' : (A 1 (20 * b' + i)).toNatClampNeg = j := by rw [ej]; exact nI_clamp (by omega)
      cases hq : Q (3 * t + j) with
      | nil =>
        have := hh.2
        unfold rd_sS at this
        rw [ej', hq] at this
        exact absurd this (by decide)
      | cons c l =>
        refine rd_o_meet (q := q) C hq ed z (by omega) ?_ ?_
        · intro post ra qa ql hx K H
          refine br_f (by decide) <| br_f (by decide) <| br_f (by decide) <| br_f (by decide) <| br_f (by decide) <| br_f (by decide) <| br_f (by decide) <| br_f (by decide) <| br_f (by decide) <| br_f (by decide) <| br_f (by decide) <| br_f (by decide) <| br_f (by decide) <| br_f (by decide) <| br_f (by decide) <| br_f (by decide) <| br_f (by decide) <| br_t rfl <| XS _ ra qa ql hx (fun i' j' s1 s2 s3 s4 => ?_) (fun g => by rw [hSA] at g; simp at g)
          rw [hSA] at s1
          have s1 : i = i' := by simpa using s1
          subst s1
          have e1 : j' = j := rd_inj (by omega) (by omega) (s2.symm.trans ej)
          subst e1
          refine K _ ?_
          rintro u' ⟨ra1, qa1, ql1, rfl, hx1⟩
          refine ⟨vp_in_nI (by omega) (by omega), i8, nm_r (e' := upd (A 5) t (nI q)) ?_ (H _ (rd_RX_mk (A := rd_sw (rd_mt A t c d)  5 t (nI q)) hx1))⟩
          rw [ct]
          show upd (A 5) t (A 2 (20 * b' + i)) = _
          rw [eq]
        · intro post ra qa wq am rz ob fr st bl hy P
          refine YS post ra qa wq am rz ob fr st bl (rd_y_sel I hy ht hat (fun i' j' c' l' s1 s2 s3 s4 => ?_) (fun g => by rw [hSA] at g; simp at g))
          rw [hSA] at s1
          have s1 : i = i' := by simpa using s1
          subst s1
          have e1 : j' = j := rd_inj (by omega) (by omega) (s2.symm.trans ej)
          subst e1
          rw [hq] at s4
          have s5 : c = c' := by simp at s4; exact s4.1
          subst s5
          rw [eq]
          exact P
    | none =>
      have nSA : ∀ {i : Nat}, ¬ rd_SA A t b' Q 21 (p + 1) = some i := by
        intro i g
        rw [hSA] at g
        simp at g
      by_cases hf : rd_SO A b' 21 (p + 1) = none ∧ rd_SH A t b' 21 (p + 1) = none
      · -- nothing at all
        refine Or.inr (rd_mkO2y C 12 (by omega) (by omega) ?_ ?_)
        · intro post ra qa ql hx H
          refine br_f (by decide) <| br_f (by decide) <| br_f (by decide) <| br_f (by decide) <| br_f (by decide) <| br_f (by decide) <| br_f (by decide) <| br_f (by decide) <| br_f (by decide) <| br_f (by decide) <| br_f (by decide) <| br_f (by decide) <| br_f (by decide) <| br_f (by decide) <| br_f (by decide) <| br_f (by decide) <| br_f (by decide) <| br_t rfl <| XS _ ra qa ql hx (fun i' j' s1 => absurd s1 nSA) (fun _ o ho => ⟨fun _ _ => H, fun g => ?_⟩)
          rw [hf.1] at ho
          exact absurd ⟨ho, hf.2⟩ g
        · intro post ra qa wq am rz ob fr st bl hy H
          refine YS post ra qa wq am rz ob fr st bl (rd_y_sel I hy ht hat (fun i' j' c' l' s1 => absurd s1 nSA) (fun _ => ⟨fun _ => ?_, fun k g => by rw [hf.1] at g; simp at g⟩))
          exact rd_y_hasOpen hat (by omega) (fun _ => br_f (by decide) (br_t rfl H)) (fun k g => by
            have g : rd_SH A t b' 21 (p + 1) = some k := g
            rw [hf.2] at g
            simp at g)
      · refine Or.inl ?_
        -- the instruction that counts, if there is one
        have key : ∃ (o z0 : Int32), o = rd_ov b' (rd_SO A b' 21 (p + 1)) ∧ ((o = -1 ∧ z0 = -1 ∧ rd_SO A b' 21 (p + 1) = none ∧ ∃ k, rd_SH A t b' 21 (p + 1) = some k) ∨ ∃ k, k < 20 ∧ rd_SO A b' 21 (p + 1) = some k ∧ o = nI (20 * b' + k) ∧ z0 = A 0 (20 * b' + k) ∧ rd_op (A 0) (A 3) b' k = A 0 (20 * b' + k) ∧ (z0 = 18 ∨ z0 = 19 → ∃ q, q ≤ 20 ∧ A 1 (20 * b' + k) = nI q)) := by
          cases hSO : rd_SO A b' 21 (p + 1) with
          | none =>
            refine ⟨-1, -1, rfl, Or.inl ⟨rfl, rfl, rfl, ?_⟩⟩
            cases hSH : rd_SH A t b' 21 (p + 1) with
            | none => exact absurd ⟨hSO, hSH⟩ hf
            | some k => exact ⟨k, rfl⟩
          | some k =>
            have zk := rd_scan_some _ _ _ _ _ hSO
            have kL := rd_at_in hat zk.2.2.1
            have ef := (rd_at_op hat k).1 kL
            have fit := I.vG.2 (20 * b' + k) (by omega)
            refine ⟨nI (20 * b' + k), A 0 (20 * b' + k), rfl, Or.inr ⟨k, by omega, rfl, rfl, rfl, ef, fun g => fit.2.1 ?_⟩⟩
            rcases g with g | g
            · exact Or.inr (Or.inr (Or.inl g))
            · exact Or.inr (Or.inr (Or.inr (Or.inl g)))
        obtain ⟨o, z0, ho, hoz⟩ := key
        have XW : ∀ (K : Int32 → SX → Prop) (ra qa ql : Nat → Int32), rd_XL w Q ra qa ql → wX_selectWithout_15 (fun r u => match u with | (f_rowLength_1, f_noteCount_1, f_tasks_1, f_time_1, f_done_1, f_turns_1, f_doneInTurn_1, f_inTurn_1, a_ops_1, a_firsts_1, a_seconds_1, a_lengths_1, a_condition_1, a_place_1, a_xs_1, a_ended_1, a_bodyOf_1, a_master_1, a_masterBlock_1, a_limits_1, a_pending_1, a_doomed_1, a_terminable_1, a_calledQueue_1, a_wakeTime_1, a_wakePlace_1, a_depth_1, a_frameKind_1, a_frameValue_1, a_queue_1, a_queueLength_1, a_row_1, a_noteTask_1, a_noteValue_1, a_fallen_1, a_chosen_1) => K r (f_rowLength_1, f_noteCount_1, f_tasks_1, f_time_1, f_done_1, f_turns_1, f_doneInTurn_1, f_inTurn_1, a_ops_1, a_firsts_1, a_seconds_1, a_lengths_1, a_condition_1, a_place_1, a_xs_1, a_ended_1, a_bodyOf_1, a_master_1, a_masterBlock_1, a_limits_1, a_pending_1, a_doomed_1, a_terminable_1, a_calledQueue_1, a_wakeTime_1, a_wakePlace_1, a_depth_1, a_frameKind_1, a_frameValue_1, a_queue_1, a_queueLength_1, a_row_1, a_noteTask_1, a_noteValue_1, a_fallen_1, a_chosen_1)) (nI t) o z0 (nI w.length) (A 25 0) (A 26 0) (A 27 0) (A 28 0) (A 29 0) (A 30 0) (A 31 0) (A 0) (A 1) (A 2) (A 3) (A 4) (A 5) (A 6) (A 7) (A 8) (A 9) (A 10) (A 11) (A 12) (A 13) (A 14) (A 15) (A 16) (A 17) (A 18) (A 19) (A 20) qa ql ra (A 21) (A 22) (A 32) (A 23) → wpX_doSelect K (rd_tX A (nI w.length) ra qa ql) (nI t) := by
          intro K ra qa ql hx P
          refine XS K ra qa ql hx (fun i' j' s1 => absurd s1 nSA) (fun _ o' ho' => ?_)
          have e1 : o' = o := ho'.trans ho.symm
          subst e1
          refine ⟨fun g1 g2 => ?_, fun _ => ?_⟩
          · rcases hoz with ⟨_, _, q1, q2, q3⟩ | ⟨k, q1, q2, q3, _⟩
            · rw [g2] at q3; simp at q3
            · exact absurd (q3.symm.trans g1) (rd_nm (by omega))
          · show wpX_selectWithout _ _ _ _
            unfold wpX_selectWithout
            rcases hoz with ⟨q1, q2, _⟩ | ⟨k, q1, q2, q3, q4, _⟩
            · rw [q1, q2] at P
              rw [q1]
              exact br_t rfl P
            · have ck : (nI (20 * b' + k)).toNatClampNeg = 20 * b' + k := nI_clamp (by omega)
              rw [q3, q4] at P
              rw [q3]
              refine br_f (rd_nm (by omega)) ⟨vp_in_nI (by omega) (by omega), ?_⟩
              rw [ck]
              exact P
        have YW : ∀ (post : SY → Prop) (ra qa wq am rz ob fr st : Nat → Int32) (bl : Int32), rd_YL 8 n D A w Q ra qa wq am rz ob fr st bl → (∀ x3 : Int32, (∀ k, o = nI (20 * b' + k) → k < 20 → x3 = nI k) → wY_select_103 (fun u => match u with | (f_tasks_1, f_blocks_1, f_readies_1, f_time_1, f_done_1, f_turns_1, f_notes_1, a_length_1, a_ops_1, a_as_1, a_bs_1, a_states_1, a_places_1, a_xs_1, a_limits_1, a_bodies_1, a_ends_1, a_raised_1, a_until_1, a_high_1, a_kinds_1, a_frames_1, a_on_1, a_onBlock_1, a_doomed_1, a_queues_1, a_waiting_1, a_row_1, a_dying_1, a_among_1, a_noteTask_1, a_noteInt_1) => post (f_tasks_1, f_blocks_1, f_readies_1, f_time_1, f_done_1, f_turns_1, f_notes_1, a_length_1, a_ops_1, a_as_1, a_bs_1, a_states_1, a_places_1, a_xs_1, a_limits_1, a_bodies_1, a_ends_1, a_raised_1, a_until_1, a_high_1, a_kinds_1, a_frames_1, a_on_1, a_onBlock_1, a_doomed_1, a_queues_1, a_waiting_1, a_row_1, a_dying_1, a_among_1, a_noteTask_1, a_noteInt_1)) (nI t) x3 z0 (A 26 0) bl (nI w.length) (A 27 0) (A 28 0) (A 29 0) (A 25 0) (A 3) (A 0) (A 1) (A 2) st (A 5) (A 6) (A 11) (A 8) (A 7) rz (A 16) (A 18) (A 19) fr (A 9) ob (A 13) qa wq ra (A 33) am (A 21) (A 22)) → wpY_step post (rd_tY A (nI w.length) ra qa wq am rz ob fr st bl) (nI t) 15 a b := by
          intro post ra qa wq am rz ob fr st bl hy P
          refine YS post ra qa wq am rz ob fr st bl (rd_y_sel I hy ht hat (fun i' j' c' l' s1 => absurd s1 nSA) (fun _ => ⟨fun g => ?_, fun k g => ?_⟩))
          · rcases hoz with ⟨q1, q2, q3, k, q4⟩ | ⟨k, q1, q2, q3, _⟩
            · have P' := P (-1) (fun k e1 _ => absurd (e1.symm.trans q1) (rd_nm (by omega)))
              rw [q2] at P'
              refine rd_y_hasOpen hat (by omega) (fun g' => ?_) (fun k' _ => br_f (by decide) (br_f (by decide) P'))
              have g' : rd_SH A t b' 21 (p + 1) = none := g'
              rw [q4] at g'
              simp at g'
            · rw [g] at q2; simp at q2
          · rcases hoz with ⟨q1, q2, q3, _⟩ | ⟨k', q1, q2, q3, q4, q5, _⟩
            · rw [g] at q3; simp at q3
            · have e1 : k' = k := by rw [g] at q2; simp at q2; exact q2.symm
              subst e1
              have P' := P (nI k') (fun k2 e2 h2 => by
                have := rd_inj (by omega) (by omega) (q3.symm.trans e2)
                congr 1
                omega)
              rw [q4, ← q5] at P'
              exact rd_y_hasOpen hat (by omega) (fun _ => br_t (nI_pos' (by omega)) P') (fun _ _ => br_t (nI_pos' (by omega)) P')
        by_cases hgo : z0 = 18 ∨ (z0 = 19 ∧ A 11 t = 0)
        · -- on at once
          rcases hoz with ⟨_, q2, _⟩ | ⟨k, k20, q2, q3, q4, q5, q6⟩
          · rw [q2] at hgo
            exact absurd hgo (by rintro (g | g); exact absurd g (by decide); exact absurd g.1 (by decide))
          · obtain ⟨q, hq, eq⟩ := q6 (by rcases hgo with g | g; exact Or.inl g; exact Or.inr g.1)
            have ck : o.toNatClampNeg = 20 * b' + k := by rw [q3]; exact nI_clamp (by omega)
            have io : vp_in o 80 := by rw [q3]; exact vp_in_nI (by omega) (by omega)
            refine rd_o_ply (q := q) C A (by omega) I ⟨rfl, rfl, rfl, rfl, rfl, rfl, rfl, rfl, rfl, rfl, rfl, rfl, rfl⟩ ?_ ?_
            · intro post ra qa ql hx H
              refine br_f (by decide) <| br_f (by decide) <| br_f (by decide) <| br_f (by decide) <| br_f (by decide) <| br_f (by decide) <| br_f (by decide) <| br_f (by decide) <| br_f (by decide) <| br_f (by decide) <| br_f (by decide) <| br_f (by decide) <| br_f (by decide) <| br_f (by decide) <| br_f (by decide) <| br_f (by decide) <| br_f (by decide) <| br_t rfl <| XW _ ra qa ql hx ?_
              have fin : (vp_in o 80 ∧ (vp_in (nI t) 8 ∧ ∀ y, y = upd (A 5) (nI t).toNatClampNeg (A 1 o.toNatClampNeg) → post (rd_tX (rd_sa A  5 y) (nI w.length) ra qa ql))) := by
                refine ⟨io, i8, nm_r (e' := upd (A 5) t (nI q)) (by rw [ct, ck, eq]) H⟩
              rcases hgo with g | ⟨g, g0⟩
              · exact br_t g fin
              · exact br_f (by rw [g]; decide) (br_t g ⟨i8, br_t (by rw [ct]; exact g0) fin⟩)
            · intro post ra qa wq am rz ob fr st bl hy H
              refine YW post ra qa wq am rz ob fr st bl hy (fun x3 hx3 => ?_)
              have e3 := hx3 k q3 k20
              subst e3
              have fin : wY_select_126 (fun u => match u with | (f_tasks_1, f_blocks_1, f_readies_1, f_time_1, f_done_1, f_turns_1, f_notes_1, a_length_1, a_ops_1, a_as_1, a_bs_1, a_states_1, a_places_1, a_xs_1, a_limits_1, a_bodies_1, a_ends_1, a_raised_1, a_until_1, a_high_1, a_kinds_1, a_frames_1, a_on_1, a_onBlock_1, a_doomed_1, a_queues_1, a_waiting_1, a_row_1, a_dying_1, a_among_1, a_noteTask_1, a_noteInt_1) => post (f_tasks_1, f_blocks_1, f_readies_1, f_time_1, f_done_1, f_turns_1, f_notes_1, a_length_1, a_ops_1, a_as_1, a_bs_1, a_states_1, a_places_1, a_xs_1, a_limits_1, a_bodies_1, a_ends_1, a_raised_1, a_until_1, a_high_1, a_kinds_1, a_frames_1, a_on_1, a_onBlock_1, a_doomed_1, a_queues_1, a_waiting_1, a_row_1, a_dying_1, a_among_1, a_noteTask_1, a_noteInt_1)) (nI t) (nI k) (A 26 0) bl (nI w.length) (A 27 0) (A 28 0) (A 29 0) (A 25 0) (A 3) (A 0) (A 1) (A 2) st (A 5) (A 6) (A 11) (A 8) (A 7) rz (A 16) (A 18) (A 19) fr (A 9) ob (A 13) qa wq ra (A 33) am (A 21) (A 22) := by
                refine rd_y_aAt hat (by omega) k20 ⟨i8, nm_r (e' := upd (A 5) t (nI q)) (by rw [ct, eq]) H⟩
              rcases hgo with g | ⟨g, g0⟩
              · exact br_t g fin
              · exact br_f (by rw [g]; decide) (br_t g ⟨i8, br_t (by rw [ct]; exact g0) fin⟩)
        · -- it waits
          obtain ⟨lim, hlim, elim⟩ := I.rli t ht
          have teq : ∃ x : Int32, (z0 = 20 → x = 1) ∧ (z0 ≠ 20 → x = 0) ∧ x = if (rd_oth (A 0) (A 3) b' p).any (fun i => decide (rd_op (A 0) (A 3) b' i = 20)) then 1 else 0 := by
            rcases hoz with ⟨_, q2, q3, _⟩ | ⟨k, k20, q2, q3, q4, q5, q6⟩
            · have q3 : rd_oth (A 0) (A 3) b' p = none := q3
              rw [q3]
              exact ⟨0, fun g => by rw [q2] at g; exact absurd g (by decide), fun _ => rfl, rfl⟩
            · have q2 : rd_oth (A 0) (A 3) b' p = some k := q2
              rw [q2]
              by_cases g : z0 = 20
              · refine ⟨1, fun _ => rfl, fun y => absurd g y, ?_⟩
                have : rd_op (A 0) (A 3) b' k = 20 := by rw [q5, ← q4]; exact g
                simp [this]
              · refine ⟨0, fun y => absurd y g, fun _ => rfl, ?_⟩
                have : ¬ rd_op (A 0) (A 3) b' k = 20 := by rw [q5, ← q4]; exact g
                simp [this]
          obtain ⟨x, x1, x0, hxx⟩ := teq
          have I1 := rd_i_sel (x := x) I ht h0 hp20 epl hbo ebo hp ⟨d, z, ed⟩ hxx
          have nz : ∀ B : rd_St, B 4 = upd (A 4) t 4 → B 4 t ≠ 0 := by
            intro B e
            rw [e, rd_us]; decide
          have n9' : ∀ B : rd_St, B 4 = upd (A 4) t 4 → ∀ r, r < n → B 4 r ≠ 9 := by
            intro B e r hr y
            rw [e] at y
            by_cases g : r = t
            · rw [g, rd_us] at y; exact absurd y (by decide)
            · rw [rd_un g] at y; exact n9 r hr y
          have n18 : z0 ≠ 18 := fun g => hgo (Or.inl g)
          have n19 : z0 = 19 → A 11 t ≠ 0 := fun g y => hgo (Or.inr ⟨g, y⟩)
          have X3 : ∀ (post : SX → Prop) (ra qa ql : Nat → Int32), rd_XL w Q ra qa ql → (∀ ra1 qa1 ql1, rd_XL (w.filter (fun x => x != t)) Q ra1 qa1 ql1 → ((z0 = 19 → vp_in o 80 ∧ wpX_wakeAfter (fun u => match u with | (f_rowLength_1, f_noteCount_1, f_tasks_1, f_time_1, f_done_1, f_turns_1, f_doneInTurn_1, f_inTurn_1, a_ops_1, a_firsts_1, a_seconds_1, a_lengths_1, a_condition_1, a_place_1, a_xs_1, a_ended_1, a_bodyOf_1, a_master_1, a_masterBlock_1, a_limits_1, a_pending_1, a_doomed_1, a_terminable_1, a_calledQueue_1, a_wakeTime_1, a_wakePlace_1, a_depth_1, a_frameKind_1, a_frameValue_1, a_queue_1, a_queueLength_1, a_row_1, a_noteTask_1, a_noteValue_1, a_fallen_1, a_chosen_1) => (vp_in (nI t) 8 ∧ (vp_in (nI t) 8 ∧ ∀ y, y = upd a_place_1 (nI t).toNatClampNeg (a_place_1 (nI t).toNatClampNeg) → post (f_rowLength_1, f_noteCount_1, f_tasks_1, f_time_1, f_done_1, f_turns_1, f_doneInTurn_1, f_inTurn_1, a_ops_1, a_firsts_1, a_seconds_1, a_lengths_1, a_condition_1, y, a_xs_1, a_ended_1, a_bodyOf_1, a_master_1, a_masterBlock_1, a_limits_1, a_pending_1, a_doomed_1, a_terminable_1, a_calledQueue_1, a_wakeTime_1, a_wakePlace_1, a_depth_1, a_frameKind_1, a_frameValue_1, a_queue_1, a_queueLength_1, a_row_1, a_noteTask_1, a_noteValue_1, a_fallen_1, a_chosen_1)))) (rd_tX (rd_sw (rd_sw A  4 t 4)  14 t x) (nI (w.filter (fun x => x != t)).length) ra1 qa1 ql1) (nI t) (A 11 (nI t).toNatClampNeg) (A 1 o.toNatClampNeg)) ∧ (¬ z0 = 19 → post (rd_tX (rd_sw (rd_sw A  4 t 4)  14 t x) (nI (w.filter (fun x => x != t)).length) ra1 qa1 ql1)))) → wX_perform_119 post (nI t) (nI (p + 1)) 15 a b (nI w.length) (A 25 0) (A 26 0) (A 27 0) (A 28 0) (A 29 0) (A 30 0) (A 31 0) (A 0) (A 1) (A 2) (A 3) (A 4) (A 5) (A 6) (A 7) (A 8) (A 9) (A 10) (A 11) (A 12) (A 13) (A 14) (A 15) (A 16) (A 17) (A 18) (A 19) (A 20) qa ql ra (A 21) (A 22) (A 32) (A 23) := by
            intro post ra qa ql hx H
            refine br_f (by decide) <| br_f (by decide) <| br_f (by decide) <| br_f (by decide) <| br_f (by decide) <| br_f (by decide) <| br_f (by decide) <| br_f (by decide) <| br_f (by decide) <| br_f (by decide) <| br_f (by decide) <| br_f (by decide) <| br_f (by decide) <| br_f (by decide) <| br_f (by decide) <| br_f (by decide) <| br_f (by decide) <| br_t rfl <| XW _ ra qa ql hx ?_
            have f44 : wX_selectWithout_44 (fun r u => match u with | (f_rowLength_1, f_noteCount_1, f_tasks_1, f_time_1, f_done_1, f_turns_1, f_doneInTurn_1, f_inTurn_1, a_ops_1, a_firsts_1, a_seconds_1, a_lengths_1, a_condition_1, a_place_1, a_xs_1, a_ended_1, a_bodyOf_1, a_master_1, a_masterBlock_1, a_limits_1, a_pending_1, a_doomed_1, a_terminable_1, a_calledQueue_1, a_wakeTime_1, a_wakePlace_1, a_depth_1, a_frameKind_1, a_frameValue_1, a_queue_1, a_queueLength_1, a_row_1, a_noteTask_1, a_noteValue_1, a_fallen_1, a_chosen_1) => (match (f_rowLength_1, f_noteCount_1, f_tasks_1, f_time_1, f_done_1, f_turns_1, f_doneInTurn_1, f_inTurn_1, a_ops_1, a_firsts_1, a_seconds_1, a_lengths_1, a_condition_1, a_place_1, a_xs_1, a_ended_1, a_bodyOf_1, a_master_1, a_masterBlock_1, a_limits_1, a_pending_1, a_doomed_1, a_terminable_1, a_calledQueue_1, a_wakeTime_1, a_wakePlace_1, a_depth_1, a_frameKind_1, a_frameValue_1, a_queue_1, a_queueLength_1, a_row_1, a_noteTask_1, a_noteValue_1, a_fallen_1, a_chosen_1) with | (f_rowLength_2, f_noteCount_2, f_tasks_2, f_time_2, f_done_2, f_turns_2, f_doneInTurn_2, f_inTurn_2, a_ops_2, a_firsts_2, a_seconds_2, a_lengths_2, a_condition_2, a_place_2, a_xs_2, a_ended_2, a_bodyOf_2, a_master_2, a_masterBlock_2, a_limits_2, a_pending_2, a_doomed_2, a_terminable_2, a_calledQueue_2, a_wakeTime_2, a_wakePlace_2, a_depth_2, a_frameKind_2, a_frameValue_2, a_queue_2, a_queueLength_2, a_row_2, a_noteTask_2, a_noteValue_2, a_fallen_2, a_chosen_2) => (vp_in (nI t) 8 ∧ ∀ y, y = upd a_place_2 (nI t).toNatClampNeg r → post (f_rowLength_2, f_noteCount_2, f_tasks_2, f_time_2, f_done_2, f_turns_2, f_doneInTurn_2, f_inTurn_2, a_ops_2, a_firsts_2, a_seconds_2, a_lengths_2, a_condition_2, y, a_xs_2, a_ended_2, a_bodyOf_2, a_master_2, a_masterBlock_2, a_limits_2, a_pending_2, a_doomed_2, a_terminable_2, a_calledQueue_2, a_wakeTime_2, a_wakePlace_2, a_depth_2, a_frameKind_2, a_frameValue_2, a_queue_2, a_queueLength_2, a_row_2, a_noteTask_2, a_noteValue_2, a_fallen_2, a_chosen_2)))) (nI t) o z0 (nI w.length) (A 25 0) (A 26 0) (A 27 0) (A 28 0) (A 29 0) (A 30 0) (A 31 0) (A 0) (A 1) (A 2) (A 3) (A 4) (A 5) (A 6) (A 7) (A 8) (A 9) (A 10) (A 11) (A 12) (A 13) (A 14) (A 15) (A 16) (A 17) (A 18) (A 19) (A 20) qa ql ra (A 21) (A 22) (A 32) (A 23) := by
              refine rd_x_waitAs (rd_RX_mk hx) (by omega) wl8 wx8 ?_
              rintro u' ⟨ra1, qa1, ql1, rfl, hx1⟩
              have H1 := H ra1 qa1 ql1 hx1
              have f66 : ∀ v : Int32, v = x → vp_nar .boolean v = v → wX_selectWithout_66 (fun r u => match u with | (f_rowLength_1, f_noteCount_1, f_tasks_1, f_time_1, f_done_1, f_turns_1, f_doneInTurn_1, f_inTurn_1, a_ops_1, a_firsts_1, a_seconds_1, a_lengths_1, a_condition_1, a_place_1, a_xs_1, a_ended_1, a_bodyOf_1, a_master_1, a_masterBlock_1, a_limits_1, a_pending_1, a_doomed_1, a_terminable_1, a_calledQueue_1, a_wakeTime_1, a_wakePlace_1, a_depth_1, a_frameKind_1, a_frameValue_1, a_queue_1, a_queueLength_1, a_row_1, a_noteTask_1, a_noteValue_1, a_fallen_1, a_chosen_1) => (match (f_rowLength_1, f_noteCount_1, f_tasks_1, f_time_1, f_done_1, f_turns_1, f_doneInTurn_1, f_inTurn_1, a_ops_1, a_firsts_1, a_seconds_1, a_lengths_1, a_condition_1, a_place_1, a_xs_1, a_ended_1, a_bodyOf_1, a_master_1, a_masterBlock_1, a_limits_1, a_pending_1, a_doomed_1, a_terminable_1, a_calledQueue_1, a_wakeTime_1, a_wakePlace_1, a_depth_1, a_frameKind_1, a_frameValue_1, a_queue_1, a_queueLength_1, a_row_1, a_noteTask_1, a_noteValue_1, a_fallen_1, a_chosen_1) with | (f_rowLength_2, f_noteCount_2, f_tasks_2, f_time_2, f_done_2, f_turns_2, f_doneInTurn_2, f_inTurn_2, a_ops_2, a_firsts_2, a_seconds_2, a_lengths_2, a_condition_2, a_place_2, a_xs_2, a_ended_2, a_bodyOf_2, a_master_2, a_masterBlock_2, a_limits_2, a_pending_2, a_doomed_2, a_terminable_2, a_calledQueue_2, a_wakeTime_2, a_wakePlace_2, a_depth_2, a_frameKind_2, a_frameValue_2, a_queue_2, a_queueLength_2, a_row_2, a_noteTask_2, a_noteValue_2, a_fallen_2, a_chosen_2) => (vp_in (nI t) 8 ∧ ∀ y, y = upd a_place_2 (nI t).toNatClampNeg r → post (f_rowLength_2, f_noteCount_2, f_tasks_2, f_time_2, f_done_2, f_turns_2, f_doneInTurn_2, f_inTurn_2, a_ops_2, a_firsts_2, a_seconds_2, a_lengths_2, a_condition_2, y, a_xs_2, a_ended_2, a_bodyOf_2, a_master_2, a_masterBlock_2, a_limits_2, a_pending_2, a_doomed_2, a_terminable_2, a_calledQueue_2, a_wakeTime_2, a_wakePlace_2, a_depth_2, a_frameKind_2, a_frameValue_2, a_queue_2, a_queueLength_2, a_row_2, a_noteTask_2, a_noteValue_2, a_fallen_2, a_chosen_2)))) (nI t) o z0 v (nI t) (nI (w.filter (fun x => x != t)).length) ((rd_sw A  4 t 4) 25 0) ((rd_sw A  4 t 4) 26 0) ((rd_sw A  4 t 4) 27 0) ((rd_sw A  4 t 4) 28 0) ((rd_sw A  4 t 4) 29 0) ((rd_sw A  4 t 4) 30 0) ((rd_sw A  4 t 4) 31 0) ((rd_sw A  4 t 4) 0) ((rd_sw A  4 t 4) 1) ((rd_sw A  4 t 4) 2) ((rd_sw A  4 t 4) 3) ((rd_sw A  4 t 4) 4) ((rd_sw A  4 t 4) 5) ((rd_sw A  4 t 4) 6) ((rd_sw A  4 t 4) 7) ((rd_sw A  4 t 4) 8) ((rd_sw A  4 t 4) 9) ((rd_sw A  4 t 4) 10) ((rd_sw A  4 t 4) 11) ((rd_sw A  4 t 4) 12) ((rd_sw A  4 t 4) 13) ((rd_sw A  4 t 4) 14) ((rd_sw A  4 t 4) 15) ((rd_sw A  4 t 4) 16) ((rd_sw A  4 t 4) 17) ((rd_sw A  4 t 4) 18) ((rd_sw A  4 t 4) 19) ((rd_sw A  4 t 4) 20) qa1 ql1 ra1 ((rd_sw A  4 t 4) 21) ((rd_sw A  4 t 4) 22) ((rd_sw A  4 t 4) 32) ((rd_sw A  4 t 4) 23) := by
                intro v ev nb
                refine ⟨i8, nm_r (e' := upd (A 14) t x) (by rw [ct, nb, ev]; rfl) (br_c (fun g => ⟨i8, (H1.1 g).1, (H1.1 g).2⟩) (fun g => ⟨i8, i8, nm_r (e' := A 5) (by rw [ct]; exact rd_ue rfl) (H1.2 g)⟩))⟩
              exact br_c (fun g => f66 1 (x1 g).symm rd_nb1) (fun g => f66 0 (x0 g).symm rd_nb0)
            refine br_f n18 (br_c (fun g => ⟨i8, br_f (by rw [ct]; exact n19 g) f44⟩) (fun _ => f44))
          have Y3 : ∀ (post : SY → Prop) (ra qa wq am rz ob fr st : Nat → Int32) (bl : Int32), rd_YL 8 n D A w Q ra qa wq am rz ob fr st bl → (∀ ra', rd_LV ra' 0 (w.filter (fun x => x != t)) → ((z0 = 19 → post (rd_tY (rd_sa A  16 (upd (A 16) t (A 27 0 + A 11 t))) (nI (w.filter (fun x => x != t)).length) ra' qa wq am rz ob fr (upd st t 4) bl)) ∧ (¬ z0 = 19 → post (rd_tY A (nI (w.filter (fun x => x != t)).length) ra' qa wq am rz ob fr (upd st t 4) bl)))) → wpY_step post (rd_tY A (nI w.length) ra qa wq am rz ob fr st bl) (nI t) 15 a b := by
            intro post ra qa wq am rz ob fr st bl hy H
            refine YW post ra qa wq am rz ob fr st bl hy (fun x3 hx3 => ?_)
            have f141 : wY_select_141 (fun u => match u with | (f_tasks_1, f_blocks_1, f_readies_1, f_time_1, f_done_1, f_turns_1, f_notes_1, a_length_1, a_ops_1, a_as_1, a_bs_1, a_states_1, a_places_1, a_xs_1, a_limits_1, a_bodies_1, a_ends_1, a_raised_1, a_until_1, a_high_1, a_kinds_1, a_frames_1, a_on_1, a_onBlock_1, a_doomed_1, a_queues_1, a_waiting_1, a_row_1, a_dying_1, a_among_1, a_noteTask_1, a_noteInt_1) => post (f_tasks_1, f_blocks_1, f_readies_1, f_time_1, f_done_1, f_turns_1, f_notes_1, a_length_1, a_ops_1, a_as_1, a_bs_1, a_states_1, a_places_1, a_xs_1, a_limits_1, a_bodies_1, a_ends_1, a_raised_1, a_until_1, a_high_1, a_kinds_1, a_frames_1, a_on_1, a_onBlock_1, a_doomed_1, a_queues_1, a_waiting_1, a_row_1, a_dying_1, a_among_1, a_noteTask_1, a_noteInt_1)) (nI t) z0 (A 26 0) bl (nI w.length) (A 27 0) (A 28 0) (A 29 0) (A 25 0) (A 3) (A 0) (A 1) (A 2) st (A 5) (A 6) (A 11) (A 8) (A 7) rz (A 16) (A 18) (A 19) fr (A 9) ob (A 13) qa wq ra (A 33) am (A 21) (A 22) := by
              refine rd_y_rest hy.r (by omega) wl8 wx8 (fun ra' gr => br_c (fun g => ⟨i8, i8, nm_r (e' := upd (A 16) t (A 27 0 + A 11 t)) (by rw [ct]; exact rd_uu) ((H ra' gr).1 g)⟩) (fun g => ?_))
              rw [rd_sw_eq (A := A) (k :=  16) wk1]
              exact (H ra' gr).2 g
            exact br_f n18 (br_c (fun g => ⟨i8, br_f (by rw [ct]; exact n19 g) f141⟩) (fun _ => f141))
          by_cases g19 : z0 = 19
          · rcases hoz with ⟨_, q2, _⟩ | ⟨k, k20, q2, q3, q4, q5, q6⟩
            · rw [q2] at g19; exact absurd g19 (by decide)
            · obtain ⟨q, hq, eq⟩ := q6 (Or.inr g19)
              have ck : o.toNatClampNeg = 20 * b' + k := by rw [q3]; exact nI_clamp (by omega)
              have io : vp_in o 80 := by rw [q3]; exact vp_in_nI (by omega) (by omega)
              have etl : A 27 0 + A 11 t = nI (T + lim) := by rw [eT, elim, nI_add]
              have c4 : (rd_sw (rd_sw A  4 t 4)  14 t x) 4 t = 4 := rd_us
              have I2 : rd_Inv n 8 (D + 1) (rd_sw (rd_sw (rd_sw (rd_sw A  4 t 4)  14 t x)  16 t (nI (T + lim)))  17 t (A 1 (20 * b' + k))) (w.filter (fun x => x != t)) Q := rd_i_wake (x := T + lim) I1 (by omega) ⟨q, by omega, eq⟩ (Or.inr (Or.inr ⟨c4, b', p, k, ⟨hbo, by omega⟩, ebo, epl, q2, rfl⟩))
              refine ⟨n, _, _, Q, I2, ⟨Nat.le_refl _, rfl, rfl, rfl, rfl, n9' _ rfl, fun y => absurd y (nz _ rfl)⟩, fun y => absurd y (nz _ rfl), ?_, ?_⟩
              · intro post ra qa ql hx H
                refine X3 post ra qa ql hx (fun ra1 qa1 ql1 hx1 => ⟨fun _ => ⟨io, rd_x_wakeAfter (A := rd_sw (rd_sw A  4 t 4)  14 t x) (by omega) ⟨i8, i8, nm_r (e' := A 5) (by rw [ct]; exact rd_ue rfl) ?_⟩⟩, fun y => absurd g19 y⟩)
                have e2 : A 27 0 + A 11 (nI t).toNatClampNeg = nI (T + lim) := by rw [ct]; exact etl
                have H' := H _ (rd_RX_mk hx1)
                rw [← e2, ← ck] at H'
                exact H'
              · intro post ra qa wq am rz ob fr st bl hy H
                refine Y3 post ra qa wq am rz ob fr st bl hy (fun ra' gr => ⟨fun _ => ?_, fun y => absurd g19 y⟩)
                rw [etl]
                have hy := rd_YL_D hy
                exact H _ (rd_RY_mk (A := rd_sw (rd_sw (rd_sw (rd_sw A  4 t 4)  14 t x)  16 t (nI (T + lim)))  17 t (A 1 (20 * b' + k))) ⟨gr, hy.y2, hy.y3, rd_y4_cd hy.y4 (Or.inr ⟨k7, k8, k9⟩), hy.y5, hy.y6, hy.y7, rd_y8_cd hy.y8 (by decide) k9 k8, rd_y9_u hy.y9 rfl, hy.y10⟩)
          · refine ⟨n, _, _, Q, I1, ⟨Nat.le_refl _, rfl, rfl, rfl, rfl, n9' _ rfl, fun y => absurd y (nz _ rfl)⟩, fun y => absurd y (nz _ rfl), ?_, ?_⟩
            · intro post ra qa ql hx H
              exact X3 post ra qa ql hx (fun ra1 qa1 ql1 hx1 => ⟨fun y => absurd y g19, fun _ => H _ (rd_RX_mk hx1)⟩)
            · intro post ra qa wq am rz ob fr st bl hy H
              refine Y3 post ra qa wq am rz ob fr st bl hy (fun ra' gr => ⟨fun y => absurd y g19, fun _ => ?_⟩)
              have hy := rd_YL_D hy
              exact H _ (rd_RY_mk (A := rd_sw (rd_sw A  4 t 4)  14 t x) ⟨gr, hy.y2, hy.y3, rd_y4_cd hy.y4 (Or.inr ⟨k7, k8, k9⟩), hy.y5, hy.y6, hy.y7, rd_y8_cd hy.y8 (by decide) k9 k8, rd_y9_u hy.y9 rfl, hy.y10⟩)
  · refine Or.inr (rd_mkO2 C 13 (by omega) (by omega) ?_ ?_)
    · intro post ra qa ql H
      refine br_f (by decide) <| br_f (by decide) <| br_f (by decide) <| br_f (by decide) <| br_f (by decide) <| br_f (by decide) <| br_f (by decide) <| br_f (by decide) <| br_f (by decide) <| br_f (by decide) <| br_f (by decide) <| br_f (by decide) <| br_f (by decide) <| br_f (by decide) <| br_f (by decide) <| br_f (by decide) <| br_f (by decide) <| br_t rfl <| ?_
      unfold wpX_doSelect
      exact ⟨i8, br_f (by rw [ct, ed]; exact nI_nlt (b := 8) (by omega) (by omega)) H⟩
    · intro post ra qa wq am rz ob fr st bl H
      exact rd_y_stf (by omega) epl (by rw [ed]; congr 1; omega) (by decide) (by decide) (by decide) (by decide) (Or.inr (Or.inr (Or.inl rfl))) H
end
end
section
/-! the tasks that depend: on both sides -/
def rd_ch1 (ma mb : Nat → Int32) (t : Nat) (q : Int32 → Prop) (ch : Nat → Int32) (u : Nat) : Prop := (ch u = 0 ∨ ch u = 1) ∧ (ch u = 1 ↔ (ma u = nI t ∧ q (mb u)) ∨ ∃ m, m < u ∧ ma u = nI m ∧ ch m = 1)
theorem rd_ch1_u {ma mb ch : Nat → Int32} {t k : Nat} {q : Int32 → Prop} {v : Int32} (h : ∀ u, u < k → rd_ch1 ma mb t q ch u) (hv : v = 0 ∨ v = 1) (hk : v = 1 ↔ (ma k = nI t ∧ q (mb k)) ∨ ∃ m, m < k ∧ ma k = nI m ∧ ch m = 1) : ∀ u, u < k + 1 → rd_ch1 ma mb t q (upd ch k v) u := by
  intro u hu
  unfold rd_ch1
  by_cases e : u = k
  · subst e
    rw [rd_us]
    refine ⟨hv, hk.trans ⟨?_, ?_⟩⟩
    · rintro (a | ⟨m, a, b, c⟩)
      · exact Or.inl a
      · exact Or.inr ⟨m, a, b, by rw [rd_un (by omega)]; exact c⟩
    · rintro (a | ⟨m, a, b, c⟩)
      · exact Or.inl a
      · rw [rd_un (by omega)] at c
        exact Or.inr ⟨m, a, b, c⟩
  · rw [rd_un e]
    obtain ⟨h1, h2⟩ := h u (by omega)
    refine ⟨h1, h2.trans ⟨?_, ?_⟩⟩
    · rintro (a | ⟨m, a, b, c⟩)
      · exact Or.inl a
      · exact Or.inr ⟨m, a, b, by rw [rd_un (by omega)]; exact c⟩
    · rintro (a | ⟨m, a, b, c⟩)
      · exact Or.inl a
      · rw [rd_un (by omega)] at c
        exact Or.inr ⟨m, a, b, c⟩
theorem rd_xl_ch {post : SX → Prop} {A : rd_St} {rl : Int32} {ra qa ql : Nat → Int32} {t n : Nat} {bk : Int32} {q : Int32 → Prop} {c0 : Nat → Int32} (hn : n ≤ 8) (hk : A 26 0 = nI n) (hM : rd_vM n (A 9)) (hq : ∀ x, q x ↔ (bk = -2 ∨ x = bk)) (H : ∀ ch, rd_isCh n (A 9) (A 10) t q ch → (∀ u, n ≤ u → ch u = c0 u) → post (rd_tX (rd_sa A  23 ch) rl ra qa ql)) : ∀ (d k : Nat) (ch : Nat → Int32), k + d = n → (∀ u, u < k → rd_ch1 (A 9) (A 10) t q ch u) → (∀ u, k ≤ u → ch u = c0 u) → wX_chooseDependents_2 post (nI t) bk rl ((rd_sa A  23 ch) 25 0) ((rd_sa A  23 ch) 26 0) ((rd_sa A  23 ch) 27 0) ((rd_sa A  23 ch) 28 0) ((rd_sa A  23 ch) 29 0) ((rd_sa A  23 ch) 30 0) ((rd_sa A  23 ch) 31 0) (d + 1) (nI k) ((rd_sa A  23 ch) 0) ((rd_sa A  23 ch) 1) ((rd_sa A  23 ch) 2) ((rd_sa A  23 ch) 3) ((rd_sa A  23 ch) 4) ((rd_sa A  23 ch) 5) ((rd_sa A  23 ch) 6) ((rd_sa A  23 ch) 7) ((rd_sa A  23 ch) 8) ((rd_sa A  23 ch) 9) ((rd_sa A  23 ch) 10) ((rd_sa A  23 ch) 11) ((rd_sa A  23 ch) 12) ((rd_sa A  23 ch) 13) ((rd_sa A  23 ch) 14) ((rd_sa A  23 ch) 15) ((rd_sa A  23 ch) 16) ((rd_sa A  23 ch) 17) ((rd_sa A  23 ch) 18) ((rd_sa A  23 ch) 19) ((rd_sa A  23 ch) 20) qa ql ra ((rd_sa A  23 ch) 21) ((rd_sa A  23 ch) 22) ((rd_sa A  23 ch) 32) ((rd_sa A  23 ch) 23)
  | 0, k, ch, h1, h2, h3 => by
    have e : k = n := by omega
    subst e
    exact br_t (by show A 26 0 ≤ nI k; rw [hk]; exact nI_le (Nat.le_refl _) (by omega)) (H ch h2 h3)
  | d + 1, k, ch, h1, h2, h3 => by
    have ck : (nI k).toNatClampNeg = k := nI_clamp (by omega)
    have i8 : vp_in (nI k) 8 := vp_in_nI (by omega) (by omega)
    have nxt : ∀ v : Int32, (v = 0 ∨ v = 1) → (v = 1 ↔ (A 9 k = nI t ∧ q (A 10 k)) ∨ ∃ m, m < k ∧ A 9 k = nI m ∧ ch m = 1) → wX_chooseDependents_2 post (nI t) bk rl ((rd_sa A  23 (upd ch k v)) 25 0) ((rd_sa A  23 (upd ch k v)) 26 0) ((rd_sa A  23 (upd ch k v)) 27 0) ((rd_sa A  23 (upd ch k v)) 28 0) ((rd_sa A  23 (upd ch k v)) 29 0) ((rd_sa A  23 (upd ch k v)) 30 0) ((rd_sa A  23 (upd ch k v)) 31 0) (d + 1) (nI (k + 1)) ((rd_sa A  23 (upd ch k v)) 0) ((rd_sa A  23 (upd ch k v)) 1) ((rd_sa A  23 (upd ch k v)) 2) ((rd_sa A  23 (upd ch k v)) 3) ((rd_sa A  23 (upd ch k v)) 4) ((rd_sa A  23 (upd ch k v)) 5) ((rd_sa A  23 (upd ch k v)) 6) ((rd_sa A  23 (upd ch k v)) 7) ((rd_sa A  23 (upd ch k v)) 8) ((rd_sa A  23 (upd ch k v)) 9) ((rd_sa A  23 (upd ch k v)) 10) ((rd_sa A  23 (upd ch k v)) 11) ((rd_sa A  23 (upd ch k v)) 12) ((rd_sa A  23 (upd ch k v)) 13) ((rd_sa A  23 (upd ch k v)) 14) ((rd_sa A  23 (upd ch k v)) 15) ((rd_sa A  23 (upd ch k v)) 16) ((rd_sa A  23 (upd ch k v)) 17) ((rd_sa A  23 (upd ch k v)) 18) ((rd_sa A  23 (upd ch k v)) 19) ((rd_sa A  23 (upd ch k v)) 20) qa ql ra ((rd_sa A  23 (upd ch k v)) 21) ((rd_sa A  23 (upd ch k v)) 22) ((rd_sa A  23 (upd ch k v)) 32) ((rd_sa A  23 (upd ch k v)) 23) := fun v hv hvk => rd_xl_ch hn hk hM hq H d (k + 1) (upd ch k v) (by omega) (rd_ch1_u h2 hv hvk) (fun u hu => (rd_un (by omega)).trans (h3 u (by omega)))
    -- one: it depends directly
    have d1 : (A 9 k = nI t ∧ q (A 10 k)) → wX_chooseDependents_45 post (wX_chooseDependents_2 post (nI t) bk rl ((rd_sa A  23 ch) 25 0) ((rd_sa A  23 ch) 26 0) ((rd_sa A  23 ch) 27 0) ((rd_sa A  23 ch) 28 0) ((rd_sa A  23 ch) 29 0) ((rd_sa A  23 ch) 30 0) ((rd_sa A  23 ch) 31 0) (d + 1)) (nI t) bk (nI k) (A 9 k) 1 rl ((rd_sa A  23 ch) 25 0) ((rd_sa A  23 ch) 26 0) ((rd_sa A  23 ch) 27 0) ((rd_sa A  23 ch) 28 0) ((rd_sa A  23 ch) 29 0) ((rd_sa A  23 ch) 30 0) ((rd_sa A  23 ch) 31 0) ((rd_sa A  23 ch) 0) ((rd_sa A  23 ch) 1) ((rd_sa A  23 ch) 2) ((rd_sa A  23 ch) 3) ((rd_sa A  23 ch) 4) ((rd_sa A  23 ch) 5) ((rd_sa A  23 ch) 6) ((rd_sa A  23 ch) 7) ((rd_sa A  23 ch) 8) ((rd_sa A  23 ch) 9) ((rd_sa A  23 ch) 10) ((rd_sa A  23 ch) 11) ((rd_sa A  23 ch) 12) ((rd_sa A  23 ch) 13) ((rd_sa A  23 ch) 14) ((rd_sa A  23 ch) 15) ((rd_sa A  23 ch) 16) ((rd_sa A  23 ch) 17) ((rd_sa A  23 ch) 18) ((rd_sa A  23 ch) 19) ((rd_sa A  23 ch) 20) qa ql ra ((rd_sa A  23 ch) 21) ((rd_sa A  23 ch) 22) ((rd_sa A  23 ch) 32) ((rd_sa A  23 ch) 23) := fun g =>
      br_f (by decide) ⟨i8, nm_r (e' := upd ch k 1) (by rw [ck, rd_nb1]; rfl) (nm_r (nI_1 k) (nxt 1 (Or.inr rfl) ⟨fun _ => Or.inl g, fun _ => rfl⟩))⟩
    have d0 : ¬ (A 9 k = nI t ∧ q (A 10 k)) → wX_chooseDependents_45 post (wX_chooseDependents_2 post (nI t) bk rl ((rd_sa A  23 ch) 25 0) ((rd_sa A  23 ch) 26 0) ((rd_sa A  23 ch) 27 0) ((rd_sa A  23 ch) 28 0) ((rd_sa A  23 ch) 29 0) ((rd_sa A  23 ch) 30 0) ((rd_sa A  23 ch) 31 0) (d + 1)) (nI t) bk (nI k) (A 9 k) 0 rl ((rd_sa A  23 ch) 25 0) ((rd_sa A  23 ch) 26 0) ((rd_sa A  23 ch) 27 0) ((rd_sa A  23 ch) 28 0) ((rd_sa A  23 ch) 29 0) ((rd_sa A  23 ch) 30 0) ((rd_sa A  23 ch) 31 0) ((rd_sa A  23 ch) 0) ((rd_sa A  23 ch) 1) ((rd_sa A  23 ch) 2) ((rd_sa A  23 ch) 3) ((rd_sa A  23 ch) 4) ((rd_sa A  23 ch) 5) ((rd_sa A  23 ch) 6) ((rd_sa A  23 ch) 7) ((rd_sa A  23 ch) 8) ((rd_sa A  23 ch) 9) ((rd_sa A  23 ch) 10) ((rd_sa A  23 ch) 11) ((rd_sa A  23 ch) 12) ((rd_sa A  23 ch) 13) ((rd_sa A  23 ch) 14) ((rd_sa A  23 ch) 15) ((rd_sa A  23 ch) 16) ((rd_sa A  23 ch) 17) ((rd_sa A  23 ch) 18) ((rd_sa A  23 ch) 19) ((rd_sa A  23 ch) 20) qa ql ra ((rd_sa A  23 ch) 21) ((rd_sa A  23 ch) 22) ((rd_sa A  23 ch) 32) ((rd_sa A  23 ch) 23) := by
      intro g
      refine br_t rfl ?_
      rcases hM k (by omega) with ⟨a1, a2⟩ | ⟨m, a1, a2⟩
      · rw [a2]
        refine br_t rfl ⟨i8, nm_r (e' := upd ch k 0) (by rw [ck, rd_nb0]; rfl) (nm_r (nI_1 k) (nxt 0 (Or.inl rfl) ⟨fun y => absurd y (by decide), ?_⟩))⟩
        rintro (y | ⟨m, y1, y2, y3⟩)
        · exact absurd y g
        · exact absurd (y2.symm.trans a2) (rd_nm (by omega))
      · have cm : (nI m).toNatClampNeg = m := nI_clamp (by omega)
        rw [a2]
        refine br_f (rd_nm (by omega)) ⟨vp_in_nI (by omega) (by omega), ?_⟩
        rw [cm]
        by_cases y : ch m = 0
        · refine br_t y ⟨i8, nm_r (e' := upd ch k 0) (by rw [ck, rd_nb0]; rfl) (nm_r (nI_1 k) (nxt 0 (Or.inl rfl) ⟨fun y => absurd y (by decide), ?_⟩))⟩
          rintro (x | ⟨m', x1, x2, x3⟩)
          · exact absurd x g
          · have : m' = m := rd_inj (by omega) (by omega) (x2.symm.trans a2)
            rw [this, y] at x3
            exact absurd x3 (by decide)
        · have y1 : ch m = 1 := by
            rcases (h2 m a1).1 with x | x
            · exact absurd x y
            · exact x
          exact br_f y ⟨i8, nm_r (e' := upd ch k 1) (by rw [ck, rd_nb1]; rfl) (nm_r (nI_1 k) (nxt 1 (Or.inr rfl) ⟨fun _ => Or.inr ⟨m, a1, a2, y1⟩, fun _ => rfl⟩))⟩
    refine br_f (by show ¬ A 26 0 ≤ nI k; rw [hk]; exact nI_ge (by omega) (by omega)) ⟨i8, nm_r (e' := A 9 k) (by rw [ck]; rfl) ?_⟩
    by_cases g1 : A 9 k = nI t
    · refine br_t g1 ?_
      by_cases g2 : bk = -2
      · exact br_t g2 (d1 ⟨g1, (hq _).mpr (Or.inl g2)⟩)
      · refine br_f g2 ⟨i8, ?_⟩
        rw [ck]
        by_cases g3 : A 10 k = bk
        · exact br_t g3 (d1 ⟨g1, (hq _).mpr (Or.inr g3)⟩)
        · refine br_f g3 (d0 (fun y => ?_))
          rcases (hq _).mp y.2 with x | x
          · exact g2 x
          · exact g3 x
    · exact br_f g1 (d0 (fun y => g1 y.1))
theorem rd_x_choose {post : SX → Prop} {A : rd_St} {rl : Int32} {ra qa ql : Nat → Int32} {t n : Nat} {bk : Int32} {q : Int32 → Prop} (hN : rd_vN n (A 26)) (hM : rd_vM n (A 9)) (hq : ∀ x, q x ↔ (bk = -2 ∨ x = bk)) (H : ∀ ch, rd_isCh n (A 9) (A 10) t q ch → (∀ u, n ≤ u → ch u = A 23 u) → post (rd_tX (rd_sa A  23 ch) rl ra qa ql)) : wpX_chooseDependents post (rd_tX A rl ra qa ql) (nI t) bk := by
  unfold wpX_chooseDependents
  have e : rd_sa A  23 (A 23) = A := by
    funext k
    rw [rd_sa_ap]
    by_cases y : k =  23
    · rw [if_pos y, y]
    · rw [if_neg y]
  exact ⟨_, rd_xl_ch hN.2 hN.1 hM hq H n 0 (A 23) (by omega) (fun u hu => by omega) (fun _ _ => rfl)⟩
theorem rd_yl_g2 {post : SY → Prop} {A : rd_St} {rl : Int32} {ra qa wq rz ob fr st : Nat → Int32} {bl : Int32} {t n : Nat} {q : Int32 → Prop} (hn : n ≤ 8) (hk : A 26 0 = nI n) (hM : rd_vM n (A 9)) (H : ∀ am, rd_isCh n (A 9) ob t q am → (∀ u, n ≤ u → u < 8 → am u = 0) → post (rd_tY A rl ra qa wq am rz ob fr st bl)) : ∀ (d k : Nat) (am : Nat → Int32), k + d = n → (∀ u, u < k → rd_ch1 (A 9) ob t q am u) → (∀ u, k ≤ u → u < n → (am u = 0 ∨ am u = 1) ∧ (am u = 1 ↔ (A 9 u = nI t ∧ q (ob u)))) → (∀ u, n ≤ u → u < 8 → am u = 0) → wY_gather_66 post (A 26 0) bl rl (A 27 0) (A 28 0) (A 29 0) (A 25 0) (d + 1) (nI k) (A 3) (A 0) (A 1) (A 2) st (A 5) (A 6) (A 11) (A 8) (A 7) rz (A 16) (A 18) (A 19) fr (A 9) ob (A 13) qa wq ra (A 33) am (A 21) (A 22)
  | 0, k, am, h1, h2, h3, h4 => by
    have e : k = n := by omega
    subst e
    exact br_t (by show A 26 0 ≤ nI k; rw [hk]; exact nI_le (Nat.le_refl _) (by omega)) (H am h2 h4)
  | d + 1, k, am, h1, h2, h3, h4 => by
    have ck : (nI k).toNatClampNeg = k := nI_clamp (by omega)
    have i8 : vp_in (nI k) 8 := vp_in_nI (by omega) (by omega)
    have hk3 := h3 k (Nat.le_refl _) (by omega)
    have keep : (∀ m, m < k → A 9 k = nI m → am m ≠ 1) → wY_gather_66 post (A 26 0) bl rl (A 27 0) (A 28 0) (A 29 0) (A 25 0) (d + 1) (nI (k + 1)) (A 3) (A 0) (A 1) (A 2) st (A 5) (A 6) (A 11) (A 8) (A 7) rz (A 16) (A 18) (A 19) fr (A 9) ob (A 13) qa wq ra (A 33) am (A 21) (A 22) := by
      intro no
      refine rd_yl_g2 hn hk hM H d (k + 1) am (by omega) (fun u hu => ?_) (fun u a b => h3 u (by omega) b) h4
      by_cases e : u = k
      · subst e
        refine ⟨hk3.1, hk3.2.trans ⟨Or.inl, ?_⟩⟩
        rintro (a | ⟨m, a, b, c⟩)
        · exact a
        · exact absurd c (no m a b)
      · exact h2 u (by omega)
    refine br_f (by show ¬ A 26 0 ≤ nI k; rw [hk]; exact nI_ge (by omega) (by omega)) ⟨i8, ?_⟩
    rw [ck]
    rcases hM k (by omega) with ⟨a1, a2⟩ | ⟨m, a1, a2⟩
    · have e : A 9 k = -1 := a2
      rw [e]
      exact br_t (by decide) (nm_r (nI_1 k) (keep (fun m _ y => absurd (y.symm.trans a2) (rd_nm (by omega)))))
    · have e : A 9 k = nI m := a2
      have cm : (nI m).toNatClampNeg = m := nI_clamp (by omega)
      rw [e, cm]
      refine br_f (nI_pos (by omega)) ⟨i8, vp_in_nI (by omega) (by omega), ?_⟩
      by_cases y : am m = 0
      · refine br_t y (nm_r (nI_1 k) (keep (fun m' _ y2 y3 => ?_)))
        have : m' = m := rd_inj (by omega) (by omega) (y2.symm.trans a2)
        rw [this, y] at y3
        exact absurd y3 (by decide)
      · have y1 : am m = 1 := by
          rcases (h2 m a1).1 with x | x
          · exact absurd x y
          · exact x
        refine br_f y ⟨i8, nm_r (e' := upd am k 1) (by rw [rd_nb1]) (nm_r (nI_1 k) (rd_yl_g2 hn hk hM H d (k + 1) (upd am k 1) (by omega) (rd_ch1_u h2 (Or.inr rfl) ⟨fun _ => Or.inr ⟨m, a1, a2, y1⟩, fun _ => rfl⟩) (fun u a b => ?_) (fun u a b => ?_)))⟩
        · rw [rd_un (by omega)]; exact h3 u (by omega) b
        · rw [rd_un (by omega)]; exact h4 u a b
theorem rd_yl_g1 {post : SY → Prop} {A : rd_St} {rl : Int32} {ra qa wq rz ob fr st : Nat → Int32} {bl bk all : Int32} {t n : Nat} {q : Int32 → Prop} (hn : n ≤ 8) (hk : A 26 0 = nI n) (hM : rd_vM n (A 9)) (hq : ∀ x, q x ↔ (all ≠ 0 ∨ x = bk)) (H : ∀ am, rd_isCh n (A 9) ob t q am → (∀ u, n ≤ u → u < 8 → am u = 0) → post (rd_tY A rl ra qa wq am rz ob fr st bl)) : ∀ (d k : Nat) (am : Nat → Int32), k + d = 8 → (∀ u, u < k → (u < n → (am u = 0 ∨ am u = 1) ∧ (am u = 1 ↔ (A 9 u = nI t ∧ q (ob u)))) ∧ (n ≤ u → am u = 0)) → wY_gather_3 post (nI t) bk all (A 26 0) bl rl (A 27 0) (A 28 0) (A 29 0) (A 25 0) (d + 1) (nI k) (A 3) (A 0) (A 1) (A 2) st (A 5) (A 6) (A 11) (A 8) (A 7) rz (A 16) (A 18) (A 19) fr (A 9) ob (A 13) qa wq ra (A 33) am (A 21) (A 22)
  | 0, k, am, h1, h2 => by
    have e : k = 8 := by omega
    subst e
    exact br_t (nI_le (a := 8) (b := 8) (by omega) (by omega)) ⟨_, rd_yl_g2 hn hk hM H n 0 am (by omega) (fun u hu => by omega) (fun u _ b => (h2 u (by omega)).1 b) (fun u a b => (h2 u b).2 a)⟩
  | d + 1, k, am, h1, h2 => by
    have ck : (nI k).toNatClampNeg = k := nI_clamp (by omega)
    have i8 : vp_in (nI k) 8 := vp_in_nI (by omega) (by omega)
    have nxt : ∀ v : Int32, (k < n → (v = 0 ∨ v = 1) ∧ (v = 1 ↔ (A 9 k = nI t ∧ q (ob k)))) → (n ≤ k → v = 0) → wY_gather_3 post (nI t) bk all (A 26 0) bl rl (A 27 0) (A 28 0) (A 29 0) (A 25 0) (d + 1) (nI (k + 1)) (A 3) (A 0) (A 1) (A 2) st (A 5) (A 6) (A 11) (A 8) (A 7) rz (A 16) (A 18) (A 19) fr (A 9) ob (A 13) qa wq ra (A 33) (upd am k v) (A 21) (A 22) := by
      intro v v1 v2
      refine rd_yl_g1 hn hk hM hq H d (k + 1) (upd am k v) (by omega) (fun u hu => ?_)
      by_cases e : u = k
      · rw [e, rd_us]; exact ⟨v1, v2⟩
      · rw [rd_un e]; exact h2 u (by omega)
    refine br_f (nI_ge (b := 8) (by omega) (by omega)) ?_
    by_cases z : n ≤ k
    · exact br_t (by show A 26 0 ≤ nI k; rw [hk]; exact nI_le z (by omega)) ⟨i8, nm_r (e' := upd am k 0) (by rw [ck, rd_nb0]) (nm_r (nI_1 k) (nxt 0 (fun y => by omega) (fun _ => rfl)))⟩
    · refine br_f (by show ¬ A 26 0 ≤ nI k; rw [hk]; exact nI_ge (by omega) (by omega)) ⟨i8, ?_⟩
      have n1 : (A 9 k = nI t ∧ q (ob k)) → wY_gather_3 post (nI t) bk all (A 26 0) bl rl (A 27 0) (A 28 0) (A 29 0) (A 25 0) (d + 1) (nI (k + 1)) (A 3) (A 0) (A 1) (A 2) st (A 5) (A 6) (A 11) (A 8) (A 7) rz (A 16) (A 18) (A 19) fr (A 9) ob (A 13) qa wq ra (A 33) (upd am k 1) (A 21) (A 22) := fun g => nxt 1 (fun _ => ⟨Or.inr rfl, fun _ => g, fun _ => rfl⟩) (fun y => absurd y z)
      have n0 : ¬ (A 9 k = nI t ∧ q (ob k)) → wY_gather_3 post (nI t) bk all (A 26 0) bl rl (A 27 0) (A 28 0) (A 29 0) (A 25 0) (d + 1) (nI (k + 1)) (A 3) (A 0) (A 1) (A 2) st (A 5) (A 6) (A 11) (A 8) (A 7) rz (A 16) (A 18) (A 19) fr (A 9) ob (A 13) qa wq ra (A 33) (upd am k 0) (A 21) (A 22) := fun g => nxt 0 (fun _ => ⟨Or.inl rfl, fun y => absurd y (by decide), fun y => absurd y g⟩) (fun _ => rfl)
      have b1 : ∀ P : (Nat → Int32) → Prop, P (upd am k 1) → ∀ y, y = upd am (nI k).toNatClampNeg (vp_nar .boolean 1) → P y := fun P h => nm_r (by rw [ck, rd_nb1]) h
      have b0 : ∀ P : (Nat → Int32) → Prop, P (upd am k 0) → ∀ y, y = upd am (nI k).toNatClampNeg (vp_nar .boolean 0) → P y := fun P h => nm_r (by rw [ck, rd_nb0]) h
      by_cases g1 : A 9 k = nI t
      · refine br_t (by rw [ck]; exact g1) ?_
        by_cases g2 : all = 0
        · refine br_t g2 ⟨i8, ?_⟩
          by_cases g3 : ob k = bk
          · exact br_t (by rw [ck]; exact g3) ⟨i8, b1 _ (nm_r (nI_1 k) (n1 ⟨g1, (hq _).mpr (Or.inr g3)⟩))⟩
          · refine br_f (by rw [ck]; exact g3) ⟨i8, b0 _ (nm_r (nI_1 k) (n0 (fun y => ?_)))⟩
            rcases (hq _).mp y.2 with x | x
            · exact x g2
            · exact g3 x
        · exact br_f g2 ⟨i8, b1 _ (nm_r (nI_1 k) (n1 ⟨g1, (hq _).mpr (Or.inl g2)⟩))⟩
      · exact br_f (by rw [ck]; exact g1) ⟨i8, b0 _ (nm_r (nI_1 k) (n0 (fun y => g1 y.1)))⟩
theorem rd_y_gather {post : SY → Prop} {A : rd_St} {rl : Int32} {ra qa wq am rz ob fr st : Nat → Int32} {bl bk all : Int32} {t n : Nat} {q : Int32 → Prop} (hN : rd_vN n (A 26)) (hM : rd_vM n (A 9)) (hq : ∀ x, q x ↔ (all ≠ 0 ∨ x = bk)) (H : ∀ am, rd_isCh n (A 9) ob t q am → (∀ u, n ≤ u → u < 8 → am u = 0) → post (rd_tY A rl ra qa wq am rz ob fr st bl)) : wpY_gather post (rd_tY A rl ra qa wq am rz ob fr st bl) (nI t) bk all := by
  unfold wpY_gather
  exact ⟨_, rd_yl_g1 hN.2 hN.1 hM hq H 8 0 am (by omega) (fun u hu => by omega)⟩
theorem rd_ch_ex (n : Nat) (ma mb c0 : Nat → Int32) (t : Nat) (q : Int32 → Prop) : ∃ ch, rd_isCh n ma mb t q ch ∧ ∀ u, n ≤ u → ch u = c0 u := by
  have key : ∀ k, ∃ ch : Nat → Int32, (∀ u, u < k → rd_ch1 ma mb t q ch u) ∧ ∀ u, k ≤ u → ch u = c0 u := by
    intro k
    induction k with
    | zero => exact ⟨c0, fun u hu => by omega, fun _ _ => rfl⟩
    | succ k ih =>
      obtain ⟨ch, h1, h2⟩ := ih
      by_cases z : (ma k = nI t ∧ q (mb k)) ∨ ∃ m, m < k ∧ ma k = nI m ∧ ch m = 1
      · exact ⟨upd ch k 1, rd_ch1_u h1 (Or.inr rfl) ⟨fun _ => z, fun _ => rfl⟩, fun u hu => (rd_un (by omega)).trans (h2 u (by omega))⟩
      · exact ⟨upd ch k 0, rd_ch1_u h1 (Or.inl rfl) ⟨fun y => absurd y (by decide), fun y => absurd y z⟩, fun u hu => (rd_un (by omega)).trans (h2 u (by omega))⟩
  exact key n
theorem rd_ch_un {n : Nat} {ma mb c0 ch ch' : Nat → Int32} {t : Nat} {q : Int32 → Prop} (hn : n ≤ 8) (h : rd_isCh n ma mb t q ch) (h2 : ∀ u, n ≤ u → ch u = c0 u) (g : rd_isCh n ma mb t q ch') (g2 : ∀ u, n ≤ u → ch' u = c0 u) : ch' = ch := by
  funext u
  by_cases z : u < n
  · refine (rd_ch_lv (cd := fun _ => 0) hn ?_ g h (fun _ _ _ _ => Iff.rfl) u z (by decide))
    intro u _ m _ _ y
    have y : (0 : Int32) = 8 := y
    exact absurd y (by decide)
  · rw [h2 u (by omega), g2 u (by omega)]
end
section
/-! ABORT -/
def rd_TP (t p : Nat) (w0 : List Nat) (A : rd_St) (w : List Nat) : Prop := (A 4 t = 0 ∧ A 5 t = nI p ∧ A 12 t = 0 ∧ (w0.head? = some t → w.head? = some t)) ∨ A 4 t = 7 ∨ A 4 t = 8
def rd_K4 (A B : rd_St) : Prop := B 28 = A 28 ∧ B 30 = A 30 ∧ B 31 = A 31 ∧ B 29 = A 29
theorem rd_K4_w {A B : rd_St} (h : rd_stw A B) : rd_K4 A B := ⟨h _ (by decide) (by decide) (by decide) (by decide) (by decide) (by decide) (by decide) (by decide) (by decide), h _ (by decide) (by decide) (by decide) (by decide) (by decide) (by decide) (by decide) (by decide) (by decide), h _ (by decide) (by decide) (by decide) (by decide) (by decide) (by decide) (by decide) (by decide) (by decide), h _ (by decide) (by decide) (by decide) (by decide) (by decide) (by decide) (by decide) (by decide) (by decide)⟩
theorem rd_K4_tr {A B C : rd_St} (h : rd_K4 A B) (g : rd_K4 B C) : rd_K4 A C := ⟨g.1.trans h.1, g.2.1.trans h.2.1, g.2.2.1.trans h.2.2.1, g.2.2.2.trans h.2.2.2⟩
theorem rd_abl {n D t p : Nat} {w0 : List Nat} (ht : t < n) : ∀ (d k : Nat), k + d = n → ∀ (A : rd_St) (w : List Nat) (Q : Nat → List Nat), rd_Inv n 8 D A w Q → (∀ s, s < n → A 4 s ≠ 9) → (∀ u, u < n → A 23 u = A 24 u) → (∀ u, n ≤ u → u < 8 → A 24 u = 0) → (∀ u, u < 8 → A 34 u = 1) → rd_TP t p w0 A w → ∃ B x R, rd_Inv n 8 D B x R ∧ (∀ s, s < n → B 4 s ≠ 9) ∧ ((∀ u, n ≤ u → u < 8 → B 24 u = 0) ∧ ∀ u, u < 8 → B 34 u = 1) ∧ rd_TP t p w0 B x ∧ rd_K4 A B ∧
    (∀ (post : Int32 → SX → Prop) (ra qa ql : Nat → Int32), rd_XL w Q ra qa ql → (∀ ra qa ql, rd_XL x R ra qa ql → wX_doAbort_33 post (nI t) 1 (nI n) (nI x.length) (B 25 0) (B 26 0) (B 27 0) (B 28 0) (B 29 0) (B 30 0) (B 31 0) (B 0) (B 1) (B 2) (B 3) (B 4) (B 5) (B 6) (B 7) (B 8) (B 9) (B 10) (B 11) (B 12) (B 13) (B 14) (B 15) (B 16) (B 17) (B 18) (B 19) (B 20) qa ql ra (B 21) (B 22) (B 32) (B 23)) → wX_doAbort_33 post (nI t) (d + 1) (nI k) (nI w.length) (A 25 0) (A 26 0) (A 27 0) (A 28 0) (A 29 0) (A 30 0) (A 31 0) (A 0) (A 1) (A 2) (A 3) (A 4) (A 5) (A 6) (A 7) (A 8) (A 9) (A 10) (A 11) (A 12) (A 13) (A 14) (A 15) (A 16) (A 17) (A 18) (A 19) (A 20) qa ql ra (A 21) (A 22) (A 32) (A 23)) ∧
    (∀ (post : SY → Prop) (ra qa wq am rz ob fr st : Nat → Int32) (bl : Int32), rd_YL 8 n D A w Q ra qa wq am rz ob fr st bl → (∀ ra qa wq am rz ob fr st bl, rd_YL 8 n D B x R ra qa wq am rz ob fr st bl → wY_abort_48 post (9 - n) (nI n) (B 26 0) bl (nI x.length) (B 27 0) (B 28 0) (B 29 0) (B 25 0) (B 3) (B 0) (B 1) (B 2) st (B 5) (B 6) (B 11) (B 8) (B 7) rz (B 16) (B 18) (B 19) fr (B 9) ob (B 13) qa wq ra (B 33) am (B 21) (B 22)) → wY_abort_48 post (d + (9 - n)) (nI k) (A 26 0) bl (nI w.length) (A 27 0) (A 28 0) (A 29 0) (A 25 0) (A 3) (A 0) (A 1) (A 2) st (A 5) (A 6) (A 11) (A 8) (A 7) rz (A 16) (A 18) (A 19) fr (A 9) ob (A 13) qa wq ra (A 33) am (A 21) (A 22))
  | 0, k, hk, A, w, Q, I, n9, h1, h2, hg, hT => by
    have e : k = n := by omega
    subst e
    refine ⟨A, w, Q, I, n9, ⟨h2, hg⟩, hT, ⟨rfl, rfl, rfl, rfl⟩, fun post ra qa ql hx H => H ra qa ql hx, fun post ra qa wq am rz ob fr st bl hy H => ?_⟩
    rw [Nat.zero_add]
    exact H ra qa wq am rz ob fr st bl hy
  | d + 1, k, hk, A, w, Q, I, n9, h1, h2, hg, hT => by
    have hn := I.vN.2
    have hkn : k < n := by omega
    have ck : (nI k).toNatClampNeg = k := nI_clamp (by omega)
    have i8 : vp_in (nI k) 8 := vp_in_nI (by omega) (by omega)
    have fu : d + 1 + (9 - n) = (d + (9 - n)) + 1 := by omega
    have tk : ¬ A 26 0 ≤ nI k := by rw [I.vN.1]; exact nI_ge (by omega) (by omega)
    have k8 : ¬ (8 : Int32) ≤ nI k := nI_ge (b := 8) (by omega) (by omega)
    by_cases skip : A 23 k = 0 ∨ A 4 k = 7 ∨ A 4 k = 8
    · obtain ⟨B, x, R, J, m9, m2, mT, mK, X, Y⟩ := rd_abl ht d (k + 1) (by omega) A w Q I n9 h1 h2 hg hT
      refine ⟨B, x, R, J, m9, m2, mT, mK, ?_, ?_⟩
      · intro post ra qa ql hx H
        have nx := X post ra qa ql hx H
        refine br_f tk ⟨i8, ?_⟩
        rw [ck]
        by_cases c0 : A 23 k = 0
        · exact br_t c0 (nm_r (nI_1 k) nx)
        · refine br_f c0 (rd_x_isThere I.vN (by omega) (fun _ a2 a3 => ?_) (fun _ => br_t rfl (nm_r (nI_1 k) nx)))
          rcases skip with y | y | y
          · exact absurd y c0
          · exact absurd y a2
          · exact absurd y a3
      · intro post ra qa wq am rz ob fr st bl hy H
        have nx := Y post ra qa wq am rz ob fr st bl hy H
        rw [fu]
        refine br_f k8 ⟨i8, ?_⟩
        rw [ck]
        rw [hy.y10 k (by omega) (hg k (by omega))]
        by_cases c0 : A 24 k = 0
        · exact br_t c0 (nm_r (nI_1 k) nx)
        · refine br_f c0 ⟨i8, ?_⟩
          rw [hy.y9 k]
          by_cases c7 : A 4 k = 7
          · exact br_t (by rw [c7]; rfl) (nm_r (nI_1 k) nx)
          · refine br_f (fun y => c7 ((rd_cv_eq (by decide) (by decide)).mp y)) ⟨i8, ?_⟩
            rcases skip with y | y | y
            · rw [h1 k hkn] at y; exact absurd y c0
            · exact absurd y c7
            · exact br_t (by rw [y]; rfl) (nm_r (nI_1 k) nx)
    · have c0 : A 23 k ≠ 0 := fun y => skip (Or.inl y)
      have c7 : A 4 k ≠ 7 := fun y => skip (Or.inr (Or.inl y))
      have c8 : A 4 k ≠ 8 := fun y => skip (Or.inr (Or.inr y))
      have a0 : A 24 k ≠ 0 := by rw [← h1 k hkn]; exact c0
      by_cases c2 : A 4 k = 2
      · have I1 : rd_Inv n 8 D (rd_sw A  13 k 1) w Q := rd_i_dm (c := 1) I (by omega)
        obtain ⟨B, x, R, J, m9, m2, mT, mK, X, Y⟩ := rd_abl (p := p) (w0 := w0) ht d (k + 1) (by omega) (rd_sw A  13 k 1) w Q I1 n9 h1 h2 hg hT
        refine ⟨B, x, R, J, m9, m2, mT, rd_K4_tr ⟨rfl, rfl, rfl, rfl⟩ mK, ?_, ?_⟩
        · intro post ra qa ql hx H
          have nx := X post ra qa ql hx H
          refine br_f tk ⟨i8, ?_⟩
          rw [ck]
          refine br_f c0 (rd_x_isThere I.vN (by omega) (fun _ _ _ => br_f (by decide) ⟨i8, br_t c2 ⟨i8, nm_r (e' := upd (A 13) k 1) (by rw [rd_nb1]) (nm_r (nI_1 k) nx)⟩⟩) (fun y => absurd ⟨hkn, c7, c8⟩ y))
        · intro post ra qa wq am rz ob fr st bl hy H
          have nx := Y post ra qa wq am rz ob fr st bl hy H
          rw [fu]
          refine br_f k8 ⟨i8, ?_⟩
          rw [ck, hy.y10 k (by omega) (hg k (by omega))]
          refine br_f a0 ⟨i8, ?_⟩
          rw [hy.y9 k, rd_cv_n (n9 k hkn)]
          exact br_f c7 ⟨i8, br_f c8 ⟨i8, br_t c2 ⟨i8, nm_r (e' := upd (A 13) k 1) (by rw [rd_nb1]) (nm_r (nI_1 k) nx)⟩⟩⟩
      · obtain ⟨B1, x1, R1, J1, F, X1, Y1⟩ := rd_bd (ex := 8) (t := k) 14 I hkn c7 c8 (rd_nf_of hn I.vF hkn c2) n9 (fun y => by omega)
        have ech : B1 23 = A 23 := F.1 _ (by decide) (by decide) (by decide) (by decide) (by decide) (by decide) (by decide) (by decide) (by decide)
        have eam : B1 24 = A 24 := F.1 _ (by decide) (by decide) (by decide) (by decide) (by decide) (by decide) (by decide) (by decide) (by decide)
        have egl : B1 34 = A 34 := F.1 _ (by decide) (by decide) (by decide) (by decide) (by decide) (by decide) (by decide) (by decide) (by decide)
        have hT1 : rd_TP t p w0 B1 x1 := by
          rcases hT with ⟨a1, a2, a3, a4⟩ | y
          · by_cases e : t = k
            · rw [e]; exact Or.inr F.2.2.2.2.2.1
            · have kt := F.2.2.1 t ⟨a1, e⟩
              exact Or.inl ⟨kt.1.trans a1, kt.2.1.trans a2, kt.2.2.1.trans a3, fun q => kt.2.2.2.2 (a4 q)⟩
          · exact Or.inr (F.2.2.2.2.1 t y)
        obtain ⟨B, x, R, J, m9, m2, mT, mK, X, Y⟩ := rd_abl (p := p) (w0 := w0) ht d (k + 1) (by omega) B1 x1 R1 J1 F.2.2.2.1 (by rw [ech, eam]; exact h1) (by rw [eam]; exact h2) (by rw [egl]; exact hg) hT1
        refine ⟨B, x, R, J, m9, m2, mT, rd_K4_tr (rd_K4_w F.1) mK, ?_, ?_⟩
        · intro post ra qa ql hx H
          refine br_f tk ⟨i8, ?_⟩
          rw [ck]
          refine br_f c0 (rd_x_isThere I.vN (by omega) (fun _ _ _ => br_f (by decide) ⟨i8, br_f c2 (X1 _ _ (rd_RX_mk hx) ?_)⟩) (fun y => absurd ⟨hkn, c7, c8⟩ y))
          rintro u' ⟨ra1, qa1, ql1, rfl, hx1⟩
          exact nm_r (nI_1 k) (X post ra1 qa1 ql1 hx1 H)
        · intro post ra qa wq am rz ob fr st bl hy H
          rw [fu]
          refine br_f k8 ⟨i8, ?_⟩
          rw [ck, hy.y10 k (by omega) (hg k (by omega))]
          refine br_f a0 ⟨i8, ?_⟩
          rw [hy.y9 k, rd_cv_n (n9 k hkn)]
          refine br_f c7 ⟨i8, br_f c8 ⟨i8, br_f c2 (Y1 _ _ (rd_RY_mk hy) ?_)⟩⟩
          rintro v' ⟨ra1, qa1, wq1, am1, rz1, ob1, fr1, st1, bl1, rfl, hy1⟩
          exact nm_r (nI_1 k) (Y post ra1 qa1 wq1 am1 rz1 ob1 fr1 st1 bl1 hy1 H)
theorem rd_yl_abt {post : SY → Prop} {A : rd_St} {rl : Int32} {ra qa wq am rz ob fr st : Nat → Int32} {bl : Int32} (P : post (rd_tY A rl ra qa wq am rz ob fr st bl)) : ∀ (d k : Nat), k + d = 8 → (∀ u, k ≤ u → u < 8 → am u = 0) → wY_abort_48 post (d + 1) (nI k) (A 26 0) bl rl (A 27 0) (A 28 0) (A 29 0) (A 25 0) (A 3) (A 0) (A 1) (A 2) st (A 5) (A 6) (A 11) (A 8) (A 7) rz (A 16) (A 18) (A 19) fr (A 9) ob (A 13) qa wq ra (A 33) am (A 21) (A 22)
  | 0, k, h1, h2 => by
    have e : k = 8 := by omega
    subst e
    exact br_t (nI_le (a := 8) (b := 8) (by omega) (by omega)) P
  | d + 1, k, h1, h2 => by
    have ck : (nI k).toNatClampNeg = k := nI_clamp (by omega)
    exact br_f (nI_ge (b := 8) (by omega) (by omega)) ⟨vp_in_nI (by omega) (by omega), br_t (by rw [ck]; exact h2 k (Nat.le_refl _) (by omega)) (nm_r (nI_1 k) (rd_yl_abt P d (k + 1) (by omega) (fun u a b => h2 u (by omega) b)))⟩
section
variable {n D t p b' d : Nat} {a b : Int32} {A : rd_St} {w : List Nat} {Q : Nat → List Nat}
theorem rd_op24 {v : Nat} (C : rd_C n D t p b' A w Q) (hp20 : p < 20) (hv : v < 8) (ea : a = nI v) : rd_O1 n D t p 24 a b a b A w Q := by
  obtain ⟨I, ht, h0, hp, n9, epl, hpl, ebo, hbo, hD, hT, hN⟩ := id C
  have hn := I.vN.2
  have ct : (nI t).toNatClampNeg = t := nI_clamp (by omega)
  have i8 : vp_in (nI t) 8 := vp_in_nI (by omega) (by omega)
  have cv : (nI v).toNatClampNeg = v := nI_clamp (by omega)
  have i8v : vp_in (nI v) 8 := vp_in_nI hv (by omega)
  obtain ⟨d, hd, ed, _⟩ := rd_dpos I ht
  subst ea
  have tail : ∀ (post : SY → Prop) (B : rd_St) (rl : Int32) (ra qa wq am rz ob fr st : Nat → Int32) (bl : Int32), wpY_abort (fun u => match u with | (f_tasks_1, f_blocks_1, f_readies_1, f_time_1, f_done_1, f_turns_1, f_notes_1, a_length_1, a_ops_1, a_as_1, a_bs_1, a_states_1, a_places_1, a_xs_1, a_limits_1, a_bodies_1, a_ends_1, a_raised_1, a_until_1, a_high_1, a_kinds_1, a_frames_1, a_on_1, a_onBlock_1, a_doomed_1, a_queues_1, a_waiting_1, a_row_1, a_dying_1, a_among_1, a_noteTask_1, a_noteInt_1) => (vp_in (nI t) 8 ∧ ((a_states_1 (nI t).toNatClampNeg = 0 → wY_step_448 post (nI t) 24 (nI v) (nI p) f_tasks_1 f_blocks_1 f_readies_1 f_time_1 f_done_1 f_turns_1 f_notes_1 a_length_1 a_ops_1 a_as_1 a_bs_1 a_states_1 a_places_1 a_xs_1 a_limits_1 a_bodies_1 a_ends_1 a_raised_1 a_until_1 a_high_1 a_kinds_1 a_frames_1 a_on_1 a_onBlock_1 a_doomed_1 a_queues_1 a_waiting_1 a_row_1 a_dying_1 a_among_1 a_noteTask_1 a_noteInt_1) ∧ (¬ a_states_1 (nI t).toNatClampNeg = 0 → post (f_tasks_1, f_blocks_1, f_readies_1, f_time_1, f_done_1, f_turns_1, f_notes_1, a_length_1, a_ops_1, a_as_1, a_bs_1, a_states_1, a_places_1, a_xs_1, a_limits_1, a_bodies_1, a_ends_1, a_raised_1, a_until_1, a_high_1, a_kinds_1, a_frames_1, a_on_1, a_onBlock_1, a_doomed_1, a_queues_1, a_waiting_1, a_row_1, a_dying_1, a_among_1, a_noteTask_1, a_noteInt_1))))) (rd_tY A (nI w.length) ra qa wq am rz ob fr st bl) (nI v) → wpY_step post (rd_tY A (nI w.length) ra qa wq am rz ob fr st bl) (nI t) 24 (nI v) b := by
    intro post B rl ra qa wq am rz ob fr st bl H
    refine rd_y_st (d := d) (by omega) epl ed hd (by decide) (by decide) (by decide) (by decide) (by decide) (Or.inr (by decide)) ?_
    exact br_f (by decide) <| br_f (by decide) <| br_f (by decide) <| br_f (by decide) <| br_f (by decide) <| br_f (by decide) <| br_f (by decide) <| br_f (by decide) <| br_f (by decide) <| br_f (by decide) <| br_f (by decide) <| br_f (by decide) <| br_f (by decide) <| br_f (by decide) <| br_f (by decide) <| br_f (by decide) <| br_f (by decide) <| br_f (by decide) <| br_f (by decide) <| br_f (by decide) <| br_f (by decide) <| br_f (by decide) <| br_t rfl <| H
  by_cases there : v < n ∧ A 4 v ≠ 7 ∧ A 4 v ≠ 8
  · obtain ⟨hvn, v7, v8⟩ := there
    obtain ⟨cs, hcs, hcs2⟩ := rd_ch_ex n (A 9) (A 10) (A 23) v (fun _ => True)
    have I1 : rd_Inv n 8 (D + 1) (rd_sa (rd_sa (rd_sa A  23 (upd cs v 1))  24 (fun u => if u < n then upd cs v 1 u else 0))  34 (fun _ => 1)) w Q := I
    have l1 : ∀ u, u < n → (rd_sa (rd_sa (rd_sa A  23 (upd cs v 1))  24 (fun u => if u < n then upd cs v 1 u else 0))  34 (fun _ => 1)) 23 u = (rd_sa (rd_sa (rd_sa A  23 (upd cs v 1))  24 (fun u => if u < n then upd cs v 1 u else 0))  34 (fun _ => 1)) 24 u := by
      intro u hu
      show upd cs v 1 u = if u < n then upd cs v 1 u else 0
      rw [if_pos hu]
    have l2 : ∀ u, n ≤ u → u < 8 → (rd_sa (rd_sa (rd_sa A  23 (upd cs v 1))  24 (fun u => if u < n then upd cs v 1 u else 0))  34 (fun _ => 1)) 24 u = 0 := by
      intro u hu _
      show (if u < n then upd cs v 1 u else 0) = 0
      rw [if_neg (by omega)]
    obtain ⟨B, x, R, J, m9, m2, mT, mK, X, Y⟩ := rd_abl (p := p) (w0 := w) ht n 0 (by omega) _ w Q I1 n9 l1 l2 (fun _ _ => rfl) (Or.inl ⟨h0, epl, hp, id⟩)
    -- both sides up to their loops
    have X1 : ∀ (K : Int32 → SX → Prop) (ra qa ql : Nat → Int32), rd_XL w Q ra qa ql → (∀ ra qa ql, rd_XL x R ra qa ql → ((B 4 t = 0 → K (B 5 t + 1) (rd_tX B (nI x.length) ra qa ql)) ∧ (B 4 t ≠ 0 → K (B 5 t) (rd_tX B (nI x.length) ra qa ql)))) → wpX_doAbort K (rd_tX A (nI w.length) ra qa ql) (nI t) (nI v) := by
      intro K ra qa ql hx H
      unfold wpX_doAbort
      refine rd_x_isThere I.vN hv (fun _ _ _ => br_f (by decide) (rd_x_choose (q := fun _ => True) I.vN I.vM (fun _ => ⟨fun _ => Or.inl rfl, fun _ => trivial⟩) (fun ch g1 g2 => ⟨i8v, ?_⟩))) (fun y => absurd ⟨hvn, v7, v8⟩ y)
      have ech := rd_ch_un hn hcs hcs2 g1 g2
      subst ech
      refine nm_r (e' := upd ch v 1) (by rw [cv, rd_nb1]; rfl) ⟨n + 1, ?_⟩
      refine X K ra qa ql hx (fun ra1 qa1 ql1 hx1 => br_t (by rw [J.vN.1]; exact nI_le (Nat.le_refl _) (by omega)) ⟨i8, ?_⟩)
      rw [ct]
      exact br_c (fun y => ⟨i8, (H ra1 qa1 ql1 hx1).1 y⟩) (fun y => ⟨i8, (H ra1 qa1 ql1 hx1).2 y⟩)
    have Y1 : ∀ (P : SY → Prop) (ra qa wq am rz ob fr st : Nat → Int32) (bl : Int32), rd_YL 8 n D A w Q ra qa wq am rz ob fr st bl → (∀ v', rd_RY 8 n (D + 1) B x R v' → P v') → wpY_abort P (rd_tY A (nI w.length) ra qa wq am rz ob fr st bl) (nI v) := by
      intro P ra qa wq am rz ob fr st bl hy H
      have hy1 := rd_YL_D hy
      unfold wpY_abort
      refine br_t (by rw [I.vN.1]; exact nI_lt hvn (by omega)) ⟨i8v, ?_⟩
      rw [cv, hy.y9 v]
      refine br_f (fun y => v7 ((rd_cv_eq (by decide) (by decide)).mp y)) ⟨i8v, br_f (fun y => v8 ((rd_cv_eq (by decide) (by decide)).mp y)) ?_⟩
      refine rd_y_gather (q := fun _ => True) I.vN I.vM (fun _ => ⟨fun _ => Or.inl (by decide), fun _ => trivial⟩) (fun am' g1 g2 => ⟨i8v, nm_r (e' := upd am' v 1) (by rw [rd_nb1]) ⟨n + (9 - n), ?_⟩⟩)
      refine Y P ra qa wq (upd am' v 1) rz ob fr st bl ⟨hy1.r, hy1.y2, hy1.y3, hy1.y4, hy1.y5, hy1.y6, hy1.y7, hy1.y8, hy1.y9, ?_⟩ ?_
      · intro u hu _
        show upd am' v 1 u = if u < n then upd cs v 1 u else 0
        by_cases z : u < n
        · rw [if_pos z]
          by_cases e : u = v
          · rw [e, rd_us, rd_us]
          · rw [rd_un e, rd_un e]
            exact (rd_ch_eq hn hcs g1 u z).symm
        · rw [if_neg z, rd_un (by omega)]
          exact g2 u (by omega) hu
      · intro ra2 qa2 wq2 am2 rz2 ob2 fr2 st2 bl2 hy2
        have e1 : 9 - n = (8 - n) + 1 := by omega
        rw [e1]
        refine rd_yl_abt (H _ (rd_RY_mk hy2)) (8 - n) n (by omega) (fun u a1 a2 => ?_)
        rw [hy2.y10 u a2 (m2.2 u a2)]
        exact m2.1 u a1 a2
    rcases mT with ⟨t0, tp, te, th⟩ | t78
    · have J2 := rd_i_pl (t := t) (p := p + 1) J ht (by omega) (Or.inl t0)
      refine ⟨n, _, x, R, J2, ⟨Nat.le_refl _, mK.1, mK.2.1, mK.2.2.1, mK.2.2.2, m9, fun _ => th⟩, fun _ => te, ?_, ?_⟩
      · intro post ra qa ql hx H
        refine br_f (by decide) <| br_f (by decide) <| br_f (by decide) <| br_f (by decide) <| br_f (by decide) <| br_f (by decide) <| br_f (by decide) <| br_f (by decide) <| br_f (by decide) <| br_f (by decide) <| br_f (by decide) <| br_f (by decide) <| br_f (by decide) <| br_f (by decide) <| br_f (by decide) <| br_f (by decide) <| br_f (by decide) <| br_f (by decide) <| br_f (by decide) <| br_f (by decide) <| br_f (by decide) <| br_f (by decide) <| br_f (by decide) <| br_f (by decide) <| br_f (by decide) <| br_f (by decide) <| br_t rfl <| X1 _ ra qa ql hx (fun ra1 qa1 ql1 hx1 => ⟨fun _ => ⟨i8, nm_r (e' := upd (B 5) t (nI (p + 1))) (by rw [ct, tp, nI_1]) (H _ (rd_RX_mk (A := rd_sw B  5 t (nI (p + 1))) hx1))⟩, fun y => absurd t0 y⟩)
      · intro post ra qa wq am rz ob fr st bl hy H
        refine tail post A (nI w.length) ra qa wq am rz ob fr st bl (Y1 _ ra qa wq am rz ob fr st bl hy ?_)
        rintro v' ⟨ra1, qa1, wq1, am1, rz1, ob1, fr1, st1, bl1, rfl, hy1⟩
        have e0 : st1 t = 0 := by rw [hy1.y9 t, t0]; rfl
        exact ⟨i8, br_t (by rw [ct]; exact e0) (br_f (by decide) ⟨i8, nm_r (e' := upd (B 5) t (nI (p + 1))) (by rw [ct, nI_1]) (H _ (rd_RY_mk (A := rd_sw B  5 t (nI (p + 1))) hy1))⟩)⟩
    · have nz : B 4 t ≠ 0 := by rcases t78 with y | y <;> rw [y] <;> decide
      refine ⟨n, B, x, R, J, ⟨Nat.le_refl _, mK.1, mK.2.1, mK.2.2.1, mK.2.2.2, m9, fun y => absurd y nz⟩, fun y => absurd y nz, ?_, ?_⟩
      · intro post ra qa ql hx H
        refine br_f (by decide) <| br_f (by decide) <| br_f (by decide) <| br_f (by decide) <| br_f (by decide) <| br_f (by decide) <| br_f (by decide) <| br_f (by decide) <| br_f (by decide) <| br_f (by decide) <| br_f (by decide) <| br_f (by decide) <| br_f (by decide) <| br_f (by decide) <| br_f (by decide) <| br_f (by decide) <| br_f (by decide) <| br_f (by decide) <| br_f (by decide) <| br_f (by decide) <| br_f (by decide) <| br_f (by decide) <| br_f (by decide) <| br_f (by decide) <| br_f (by decide) <| br_f (by decide) <| br_t rfl <| X1 _ ra qa ql hx (fun ra1 qa1 ql1 hx1 => ⟨fun y => absurd y nz, fun _ => ⟨i8, nm_r (e' := B 5) (by rw [ct]; exact rd_ue rfl) (H _ (rd_RX_mk hx1))⟩⟩)
      · intro post ra qa wq am rz ob fr st bl hy H
        refine tail post A (nI w.length) ra qa wq am rz ob fr st bl (Y1 _ ra qa wq am rz ob fr st bl hy ?_)
        rintro v' ⟨ra1, qa1, wq1, am1, rz1, ob1, fr1, st1, bl1, rfl, hy1⟩
        have e0 : st1 t ≠ 0 := by
          rw [hy1.y9 t]
          exact fun y => nz ((rd_cv_eq (by decide) (by decide)).mp y)
        exact ⟨i8, br_f (by rw [ct]; exact e0) (H _ (rd_RY_mk hy1))⟩
  · refine rd_o_ply (q := p + 1) C A (by omega) I ⟨rfl, rfl, rfl, rfl, rfl, rfl, rfl, rfl, rfl, rfl, rfl, rfl, rfl⟩ ?_ ?_
    · intro post ra qa ql _ H
      refine br_f (by decide) <| br_f (by decide) <| br_f (by decide) <| br_f (by decide) <| br_f (by decide) <| br_f (by decide) <| br_f (by decide) <| br_f (by decide) <| br_f (by decide) <| br_f (by decide) <| br_f (by decide) <| br_f (by decide) <| br_f (by decide) <| br_f (by decide) <| br_f (by decide) <| br_f (by decide) <| br_f (by decide) <| br_f (by decide) <| br_f (by decide) <| br_f (by decide) <| br_f (by decide) <| br_f (by decide) <| br_f (by decide) <| br_f (by decide) <| br_f (by decide) <| br_f (by decide) <| br_t rfl <| ?_
      unfold wpX_doAbort
      refine rd_x_isThere I.vN hv (fun a1 a2 a3 => absurd ⟨a1, a2, a3⟩ there) (fun _ => br_t rfl ⟨i8, i8, nm_r (e' := upd (A 5) t (nI (p + 1))) (by rw [ct, epl, nI_1]) H⟩)
    · intro post ra qa wq am rz ob fr st bl hy H
      refine tail post A (nI w.length) ra qa wq am rz ob fr st bl ?_
      have e0 : st t = 0 := by rw [hy.y9 t, h0]; rfl
      have fin : (vp_in (nI t) 8 ∧ ((st (nI t).toNatClampNeg = 0 → wY_step_448 post (nI t) 24 (nI v) (nI p) (A 26 0) bl (nI w.length) (A 27 0) (A 28 0) (A 29 0) (A 25 0) (A 3) (A 0) (A 1) (A 2) st (A 5) (A 6) (A 11) (A 8) (A 7) rz (A 16) (A 18) (A 19) fr (A 9) ob (A 13) qa wq ra (A 33) am (A 21) (A 22)) ∧ (¬ st (nI t).toNatClampNeg = 0 → post (rd_tY A (nI w.length) ra qa wq am rz ob fr st bl)))) := ⟨i8, br_t (by rw [ct]; exact e0) (br_f (by decide) ⟨i8, nm_r (e' := upd (A 5) t (nI (p + 1))) (by rw [ct, nI_1]) H⟩)⟩
      unfold wpY_abort
      by_cases hvn : v < n
      · refine br_t (by rw [I.vN.1]; exact nI_lt hvn (by omega)) ⟨i8v, ?_⟩
        rw [cv, hy.y9 v]
        by_cases h7 : A 4 v = 7
        · exact br_t (by rw [h7]; rfl) fin
        · refine br_f (fun y => h7 ((rd_cv_eq (by decide) (by decide)).mp y)) ⟨i8v, ?_⟩
          by_cases h8 : A 4 v = 8
          · exact br_t (by rw [h8]; rfl) fin
          · exact absurd ⟨hvn, h7, h8⟩ there
      · exact br_f (by rw [I.vN.1]; exact nI_nlt (by omega) (by omega)) fin
end
end
section
/-! an instruction, whichever it is -/
theorem rd_instr {n D t p b' : Nat} {A : rd_St} {w : List Nat} {Q : Nat → List Nat} (C : rd_C n D t p b' A w Q) (hp20 : p < 20) : rd_O1 n D t p (A 0 (20 * b' + p)) (A 1 (20 * b' + p)) (A 2 (20 * b' + p)) (A 1 (20 * b' + p)) (A 2 (20 * b' + p)) A w Q ∨ rd_O2 n D t p (A 0 (20 * b' + p)) (A 1 (20 * b' + p)) (A 2 (20 * b' + p)) (A 1 (20 * b' + p)) (A 2 (20 * b' + p)) A w Q := by
  have hbo := C.2.2.2.2.2.2.2.2.1
  obtain ⟨⟨o, ho, eo⟩, f1, f2, f3, f4, f5, f6, f7, f8⟩ := C.1.vG.2 (20 * b' + p) (by omega)
  rw [eo] at f1 f2 f3 f4 f5 f6 f7 f8 ⊢
  have cases : o = 0 ∨ o = 1 ∨ o = 2 ∨ o = 3 ∨ o = 4 ∨ o = 5 ∨ o = 6 ∨ o = 7 ∨ o = 8 ∨ o = 9 ∨ o = 10 ∨ o = 11 ∨ o = 12 ∨ o = 13 ∨ o = 14 ∨ o = 15 ∨ o = 16 ∨ o = 17 ∨ o = 18 ∨ o = 19 ∨ o = 20 ∨ o = 21 ∨ o = 22 ∨ o = 23 ∨ o = 24 ∨ o = 25 := by omega
  rcases cases with rfl | rfl | rfl | rfl | rfl | rfl | rfl | rfl | rfl | rfl | rfl | rfl | rfl | rfl | rfl | rfl | rfl | rfl | rfl | rfl | rfl | rfl | rfl | rfl | rfl | rfl
  · exact Or.inl (rd_op0 C hp20)
  · exact Or.inl (rd_op1 C hp20)
  · exact Or.inl (rd_op2 C hp20)
  · exact Or.inl (rd_op3 C hp20)
  · obtain ⟨j, h1, h2⟩ := f1 (by decide); exact Or.inl (rd_op4 C h1 h2)
  · obtain ⟨j, h1, h2⟩ := f1 (by decide); exact Or.inl (rd_op5 C hp20 h1 h2)
  · obtain ⟨j, h1, h2⟩ := f2 (by decide); exact rd_op6 C hp20 h1 h2
  · exact rd_op7 C hp20
  · exact rd_op8 C hp20
  · obtain ⟨⟨j, h1, h2⟩, i, h3, h4⟩ := f3 (by decide); exact rd_op9 C hp20 h1 h3 h2 h4
  · obtain ⟨j, h1, h2⟩ := f5 (by decide); exact Or.inl (rd_op10 C hp20 h1 h2)
  · obtain ⟨⟨j, h1, h2⟩, i, h3, h4⟩ := f3 (by decide); exact rd_op11 C hp20 h1 h3 h2 h4
  · obtain ⟨j, h1, h2⟩ := f5 (by decide); exact Or.inl (rd_op12 C hp20 h1 h2)
  · obtain ⟨j, h1, h2⟩ := f6 (by decide); exact rd_op13 C hp20 h1 h2
  · exact rd_op14 C hp20
  · exact rd_op15 C hp20
  · exact Or.inl (rd_op16 C hp20)
  · exact Or.inl (rd_op17 C hp20)
  · exact Or.inl (rd_op18 C hp20)
  · exact Or.inl (rd_op19 C hp20)
  · exact Or.inl (rd_op20 C hp20)
  · obtain ⟨j, h1, h2, h3⟩ := f8 (by decide); exact Or.inr (rd_op21 C h1 h2 h3)
  · obtain ⟨j, h1, h2⟩ := f1 (by decide); exact rd_op22 C hp20 h1 h2
  · exact rd_op23 C hp20
  · obtain ⟨j, h1, h2⟩ := f4 (by decide); exact Or.inl (rd_op24 C hp20 h1 h2)
  · exact rd_op25 C _ _ _ _
end
section
/-! TIME -/
/-- the least time at which something is due among the tasks below k; -1: none -/
def rd_least (wk : Nat → Int32) : Nat → Int32
  | 0 => -1
  | k + 1 => if wk k = -1 then rd_least wk k else if rd_least wk k = -1 then wk k else if rd_least wk k ≤ wk k then rd_least wk k else wk k
theorem rd_xl_least {post : Int32 → SX → Prop} {A : rd_St} {rl : Int32} {ra qa ql : Nat → Int32} {n : Nat} (hn : n ≤ 8) (hk : A 26 0 = nI n) (H0 : rd_least (A 16) n = -1 → post 0 (rd_tX A rl ra qa ql)) (H1 : rd_least (A 16) n ≠ -1 → ∃ f, wX_passTime_64 post (rd_least (A 16) n) f 0 rl ((rd_sw A  27 0 (rd_least (A 16) n)) 25 0) ((rd_sw A  27 0 (rd_least (A 16) n)) 26 0) ((rd_sw A  27 0 (rd_least (A 16) n)) 27 0) ((rd_sw A  27 0 (rd_least (A 16) n)) 28 0) ((rd_sw A  27 0 (rd_least (A 16) n)) 29 0) ((rd_sw A  27 0 (rd_least (A 16) n)) 30 0) ((rd_sw A  27 0 (rd_least (A 16) n)) 31 0) ((rd_sw A  27 0 (rd_least (A 16) n)) 0) ((rd_sw A  27 0 (rd_least (A 16) n)) 1) ((rd_sw A  27 0 (rd_least (A 16) n)) 2) ((rd_sw A  27 0 (rd_least (A 16) n)) 3) ((rd_sw A  27 0 (rd_least (A 16) n)) 4) ((rd_sw A  27 0 (rd_least (A 16) n)) 5) ((rd_sw A  27 0 (rd_least (A 16) n)) 6) ((rd_sw A  27 0 (rd_least (A 16) n)) 7) ((rd_sw A  27 0 (rd_least (A 16) n)) 8) ((rd_sw A  27 0 (rd_least (A 16) n)) 9) ((rd_sw A  27 0 (rd_least (A 16) n)) 10) ((rd_sw A  27 0 (rd_least (A 16) n)) 11) ((rd_sw A  27 0 (rd_least (A 16) n)) 12) ((rd_sw A  27 0 (rd_least (A 16) n)) 13) ((rd_sw A  27 0 (rd_least (A 16) n)) 14) ((rd_sw A  27 0 (rd_least (A 16) n)) 15) ((rd_sw A  27 0 (rd_least (A 16) n)) 16) ((rd_sw A  27 0 (rd_least (A 16) n)) 17) ((rd_sw A  27 0 (rd_least (A 16) n)) 18) ((rd_sw A  27 0 (rd_least (A 16) n)) 19) ((rd_sw A  27 0 (rd_least (A 16) n)) 20) qa ql ra ((rd_sw A  27 0 (rd_least (A 16) n)) 21) ((rd_sw A  27 0 (rd_least (A 16) n)) 22) ((rd_sw A  27 0 (rd_least (A 16) n)) 32) ((rd_sw A  27 0 (rd_least (A 16) n)) 23)) : ∀ (d k : Nat), k + d = n → wX_passTime_4 post rl (A 25 0) (A 26 0) (A 27 0) (A 28 0) (A 29 0) (A 30 0) (A 31 0) (A 0) (A 1) (A 2) (A 3) (A 4) (A 5) (A 6) (A 7) (A 8) (A 9) (A 10) (A 11) (A 12) (A 13) (A 14) (A 15) (A 16) (A 17) (A 18) (A 19) (A 20) qa ql ra (A 21) (A 22) (A 32) (A 23) (d + 1) (rd_least (A 16) k) (nI k)
  | 0, k, h1 => by
    have e : k = n := by omega
    subst e
    exact br_t (by rw [hk]; exact nI_le (Nat.le_refl _) (by omega)) (br_c H0 H1)
  | d + 1, k, h1 => by
    have ck : (nI k).toNatClampNeg = k := nI_clamp (by omega)
    have i8 : vp_in (nI k) 8 := vp_in_nI (by omega) (by omega)
    have r := rd_xl_least hn hk H0 H1 d (k + 1) (by omega)
    refine br_f (by rw [hk]; exact nI_ge (by omega) (by omega)) ⟨i8, ?_⟩
    rw [ck]
    by_cases z : A 16 k = -1
    · have e : rd_least (A 16) (k + 1) = rd_least (A 16) k := by simp only [rd_least]; rw [if_pos z]
      rw [e] at r
      exact br_t z (nm_r (nI_1 k) r)
    · refine br_f z ?_
      by_cases y : rd_least (A 16) k = -1
      · have e : rd_least (A 16) (k + 1) = A 16 k := by simp only [rd_least]; rw [if_neg z, if_pos y]
        rw [e] at r
        exact br_t y ⟨i8, nm_r rfl (nm_r (nI_1 k) r)⟩
      · refine br_f y ⟨i8, ?_⟩
        by_cases x : rd_least (A 16) k ≤ A 16 k
        · have e : rd_least (A 16) (k + 1) = rd_least (A 16) k := by simp only [rd_least]; rw [if_neg z, if_neg y, if_pos x]
          rw [e] at r
          exact br_t x (nm_r (nI_1 k) r)
        · have e : rd_least (A 16) (k + 1) = A 16 k := by simp only [rd_least]; rw [if_neg z, if_neg y, if_neg x]
          rw [e] at r
          exact br_f x ⟨i8, nm_r rfl (nm_r (nI_1 k) r)⟩
/-- what the least is: none below k is due, or it is the time of one -/
theorem rd_least_spec {wk : Nat → Int32} {n K : Nat} (hK : K < 2 ^ 31) (h : ∀ u, u < n → wk u = -1 ∨ ∃ x, x ≤ K ∧ wk u = nI x) : ∀ k, k ≤ n → (rd_least wk k = -1 ∧ ∀ u, u < k → wk u = -1) ∨ ∃ u x, u < k ∧ x ≤ K ∧ wk u = nI x ∧ rd_least wk k = nI x
  | 0, _ => Or.inl ⟨rfl, fun u hu => by omega⟩
  | k + 1, hk => by
    simp only [rd_least]
    rcases h k (by omega) with z | ⟨x, hx, ex⟩
    · rw [if_pos z]
      rcases rd_least_spec hK h k (by omega) with ⟨a, b⟩ | ⟨u, x, a, b⟩
      · refine Or.inl ⟨a, fun u hu => ?_⟩
        by_cases e : u = k
        · rw [e]; exact z
        · exact b u (by omega)
      · exact Or.inr ⟨u, x, by omega, b⟩
    · rw [if_neg (by rw [ex]; exact rd_nm (by omega))]
      rcases rd_least_spec hK h k (by omega) with ⟨a, b⟩ | ⟨u, x', a, b, c, d⟩
      · rw [if_pos a]
        exact Or.inr ⟨k, x, by omega, hx, ex, ex⟩
      · rw [if_neg (by rw [d]; exact rd_nm (by omega))]
        by_cases y : rd_least wk k ≤ wk k
        · rw [if_pos y]; exact Or.inr ⟨u, x', by omega, b, c, d⟩
        · rw [if_neg y]; exact Or.inr ⟨k, x, by omega, hx, ex, ex⟩
theorem rd_yl_least {post : Int32 → SY → Prop} {A : rd_St} {rl : Int32} {ra qa wq am rz ob fr st : Nat → Int32} {bl : Int32} {n K : Nat} (hn : n ≤ 8) (hk : A 26 0 = nI n) (hK : K < 2 ^ 31) (h : ∀ u, u < n → A 16 u = -1 ∨ ∃ x, x ≤ K ∧ A 16 u = nI x) (H0 : rd_least (A 16) n = -1 → post 0 (rd_tY A rl ra qa wq am rz ob fr st bl)) (H1 : rd_least (A 16) n ≠ -1 → ∃ f, wY_passTime_61 post (rd_least (A 16) n) f 0 ((rd_sw A  27 0 (rd_least (A 16) n)) 26 0) bl rl ((rd_sw A  27 0 (rd_least (A 16) n)) 27 0) ((rd_sw A  27 0 (rd_least (A 16) n)) 28 0) ((rd_sw A  27 0 (rd_least (A 16) n)) 29 0) ((rd_sw A  27 0 (rd_least (A 16) n)) 25 0) ((rd_sw A  27 0 (rd_least (A 16) n)) 3) ((rd_sw A  27 0 (rd_least (A 16) n)) 0) ((rd_sw A  27 0 (rd_least (A 16) n)) 1) ((rd_sw A  27 0 (rd_least (A 16) n)) 2) st ((rd_sw A  27 0 (rd_least (A 16) n)) 5) ((rd_sw A  27 0 (rd_least (A 16) n)) 6) ((rd_sw A  27 0 (rd_least (A 16) n)) 11) ((rd_sw A  27 0 (rd_least (A 16) n)) 8) ((rd_sw A  27 0 (rd_least (A 16) n)) 7) rz ((rd_sw A  27 0 (rd_least (A 16) n)) 16) ((rd_sw A  27 0 (rd_least (A 16) n)) 18) ((rd_sw A  27 0 (rd_least (A 16) n)) 19) fr ((rd_sw A  27 0 (rd_least (A 16) n)) 9) ob ((rd_sw A  27 0 (rd_least (A 16) n)) 13) qa wq ra ((rd_sw A  27 0 (rd_least (A 16) n)) 33) am ((rd_sw A  27 0 (rd_least (A 16) n)) 21) ((rd_sw A  27 0 (rd_least (A 16) n)) 22)) : ∀ (d k : Nat), k + d = n → wY_passTime_4 post (A 26 0) bl rl (A 27 0) (A 28 0) (A 29 0) (A 25 0) (A 3) (A 0) (A 1) (A 2) st (A 5) (A 6) (A 11) (A 8) (A 7) rz (A 16) (A 18) (A 19) fr (A 9) ob (A 13) qa wq ra (A 33) am (A 21) (A 22) (d + 1) (rd_least (A 16) k) (nI k)
  | 0, k, h1 => by
    have e : k = n := by omega
    subst e
    refine br_t (by rw [hk]; exact nI_le (Nat.le_refl _) (by omega)) ?_
    rcases rd_least_spec hK h k (Nat.le_refl _) with ⟨a, _⟩ | ⟨u, x, a, b, c, d⟩
    · exact br_f (by rw [a]; decide) (H0 a)
    · exact br_t (by rw [d]; exact nI_pos' (by omega)) (H1 (by rw [d]; exact rd_nm (by omega)))
  | d + 1, k, h1 => by
    have ck : (nI k).toNatClampNeg = k := nI_clamp (by omega)
    have i8 : vp_in (nI k) 8 := vp_in_nI (by omega) (by omega)
    have r := rd_yl_least hn hk hK h H0 H1 d (k + 1) (by omega)
    refine br_f (by rw [hk]; exact nI_ge (by omega) (by omega)) ⟨i8, ?_⟩
    rw [ck]
    rcases h k (by omega) with z | ⟨x, hx, ex⟩
    · have e : rd_least (A 16) (k + 1) = rd_least (A 16) k := by simp only [rd_least]; rw [if_pos z]
      rw [e] at r
      exact br_t (by rw [z]; decide) (nm_r (nI_1 k) r)
    · have nz : A 16 k ≠ -1 := by rw [ex]; exact rd_nm (by omega)
      refine br_f (by rw [ex]; exact nI_pos (by omega)) ?_
      rcases rd_least_spec hK h k (by omega) with ⟨a, _⟩ | ⟨u, x', a, b, c, d'⟩
      · have e : rd_least (A 16) (k + 1) = A 16 k := by simp only [rd_least]; rw [if_neg nz, if_pos a]
        rw [e] at r
        exact br_t (by rw [a]; decide) ⟨i8, nm_r rfl (nm_r (nI_1 k) r)⟩
      · have ny : rd_least (A 16) k ≠ -1 := by rw [d']; exact rd_nm (by omega)
        refine br_f (by rw [d']; exact nI_pos (by omega)) ⟨i8, ?_⟩
        by_cases y : rd_least (A 16) k ≤ A 16 k
        · have e : rd_least (A 16) (k + 1) = rd_least (A 16) k := by simp only [rd_least]; rw [if_neg nz, if_neg ny, if_pos y]
          rw [e] at r
          exact br_t y (nm_r (nI_1 k) r)
        · have e : rd_least (A 16) (k + 1) = A 16 k := by simp only [rd_least]; rw [if_neg nz, if_neg ny, if_neg y]
          rw [e] at r
          exact br_f y ⟨i8, nm_r rfl (nm_r (nI_1 k) r)⟩
end
section
/-! TIME passes, on both sides -/
theorem rd_i_fq {n e D t : Nat} {A : rd_St} {w : List Nat} {Q : Nat → List Nat} (h : rd_Inv n e D A w Q) : rd_Inv n e D A w (rd_fq Q t) :=
  ⟨h.vG, h.vN, h.vR, rd_vQ_fq h.vQ, h.vF, h.vU, h.vM, h.vB, h.vX, h.vC, h.vE, h.vL, h.vK, h.vD, h.vW, h.vP, h.vZ, h.vA, h.rbo, h.rpl, h.rdp, h.rli, h.rdm, h.rpe, h.rcd⟩
theorem rd_ptl {n D x : Nat} (hx : x < 2 ^ 31) : ∀ (d k : Nat), k + d = n → ∀ (A : rd_St) (w : List Nat) (Q : Nat → List Nat), rd_Inv n 8 D A w Q → (∀ s, s < n → A 4 s ≠ 9) → ∃ B z R, rd_Inv n 8 D B z R ∧ (∀ s, s < n → B 4 s ≠ 9) ∧ rd_K4 A B ∧ rd_wl n A B ∧ ((∃ u, k ≤ u ∧ u < n ∧ A 16 u = nI x) → rd_ph n B < rd_ph n A) ∧
    (∀ (post : Int32 → SX → Prop) (ra qa ql : Nat → Int32), rd_XL w Q ra qa ql → (∀ u', rd_RX B z R u' → post 1 u') → wX_passTime_64 post (nI x) (d + 1) (nI k) (nI w.length) (A 25 0) (A 26 0) (A 27 0) (A 28 0) (A 29 0) (A 30 0) (A 31 0) (A 0) (A 1) (A 2) (A 3) (A 4) (A 5) (A 6) (A 7) (A 8) (A 9) (A 10) (A 11) (A 12) (A 13) (A 14) (A 15) (A 16) (A 17) (A 18) (A 19) (A 20) qa ql ra (A 21) (A 22) (A 32) (A 23)) ∧
    (∀ (post : Int32 → SY → Prop) (ra qa wq am rz ob fr st : Nat → Int32) (bl : Int32), rd_YL 8 n D A w Q ra qa wq am rz ob fr st bl → (∀ v', rd_RY 8 n D B z R v' → post 1 v') → wY_passTime_61 post (nI x) (d + 1) (nI k) (A 26 0) bl (nI w.length) (A 27 0) (A 28 0) (A 29 0) (A 25 0) (A 3) (A 0) (A 1) (A 2) st (A 5) (A 6) (A 11) (A 8) (A 7) rz (A 16) (A 18) (A 19) fr (A 9) ob (A 13) qa wq ra (A 33) am (A 21) (A 22))
  | 0, k, hk, A, w, Q, I, n9 => by
    have hn := I.vN.2
    have e : k = n := by omega
    subst e
    refine ⟨A, w, Q, I, n9, ⟨rfl, rfl, rfl, rfl⟩, rd_wl_rf _ _, fun ⟨u, a, b, _⟩ => by omega, ?_, ?_⟩
    · intro post ra qa ql hx H
      exact br_t (by rw [I.vN.1]; exact nI_le (Nat.le_refl _) (by omega)) (H _ (rd_RX_mk hx))
    · intro post ra qa wq am rz ob fr st bl hy H
      exact br_t (by rw [I.vN.1]; exact nI_le (Nat.le_refl _) (by omega)) (H _ (rd_RY_mk hy))
  | d + 1, k, hk, A, w, Q, I, n9 => by
    have hn := I.vN.2
    have hkn : k < n := by omega
    have ck : (nI k).toNatClampNeg = k := nI_clamp (by omega)
    have i8 : vp_in (nI k) 8 := vp_in_nI (by omega) (by omega)
    have tk : ¬ A 26 0 ≤ nI k := by rw [I.vN.1]; exact nI_ge (by omega) (by omega)
    by_cases due : A 16 k = nI x
    · obtain ⟨⟨y, hy21, ey⟩, hc⟩ : (∃ y, y ≤ 21 ∧ A 17 k = nI y) ∧ (A 4 k = 1 ∧ A 17 k = A 5 k + 2 ∨ A 4 k = 5 ∧ A 17 k = A 5 k + 1 ∨ A 4 k = 4 ∧ ∃ b p i, (b < 4 ∧ p ≤ 21) ∧ A 8 k = nI b ∧ A 5 k = nI p ∧ rd_oth (A 0) (A 3) b p = some i ∧ A 17 k = A 1 (20 * b + i)) := by
        rcases I.vW k hkn with q | ⟨_, q1, q2⟩
        · exact absurd (due.symm.trans q) (rd_nm hx)
        · exact ⟨q1, q2⟩
      have c145 : A 4 k = 1 ∨ A 4 k = 5 ∨ A 4 k = 4 := by
        rcases hc with q | q | q
        · exact Or.inl q.1
        · exact Or.inr (Or.inl q.1)
        · exact Or.inr (Or.inr q.1)
      have c0 : A 4 k ≠ 0 := by rcases c145 with q | q | q <;> rw [q] <;> decide
      have c2 : A 4 k ≠ 2 := by rcases c145 with q | q | q <;> rw [q] <;> decide
      have c7 : A 4 k ≠ 7 := by rcases c145 with q | q | q <;> rw [q] <;> decide
      have c8 : A 4 k ≠ 8 := by rcases c145 with q | q | q <;> rw [q] <;> decide
      have c9 : A 4 k ≠ 9 := by rcases c145 with q | q | q <;> rw [q] <;> decide
      have w15 : A 4 k = 1 ∨ A 4 k = 2 ∨ A 4 k = 3 ∨ A 4 k = 4 ∨ A 4 k = 5 := by
        rcases c145 with q | q | q
        · exact Or.inl q
        · exact Or.inr (Or.inr (Or.inr (Or.inr q)))
        · exact Or.inr (Or.inr (Or.inr (Or.inl q)))
      have pe0 : A 12 k = 0 := I.vP k hkn w15
      have I1 := rd_i_ready (rd_i_fq (t := k) I) hkn c0 c8 rd_fq_nm (rd_nf_of hn I.vF hkn c2)
      have I2 : rd_Inv n 8 D (rd_ready (rd_sw A  5 k (nI y)) k) (w ++ [k]) (rd_fq Q k) := rd_i_pl (t := k) (p := y) I1 hkn hy21 (Or.inl rd_us)
      have wl1 : rd_wl n A (rd_ready (rd_sw A  5 k (nI y)) k) := rd_wl_ready (A := A) w15
      have ws : rd_W (rd_ready (rd_sw A  5 k (nI y)) k) k < rd_W A k := by
        show rd_c (upd (A 4) k 0 k) (A 12 k) + 2 * (A 18 k).toNatClampNeg < rd_c (A 4 k) (A 12 k) + 2 * (A 18 k).toNatClampNeg
        rw [rd_us, rd_c_w _ w15, pe0, rd_c00]; omega
      have wl8 : w.length < 8 := Nat.lt_of_lt_of_le (rd_wlen' I hkn c0) hn
      obtain ⟨B, z, R, J, m9, mK, mw, _, X, Y⟩ := rd_ptl hx d (k + 1) (by omega) _ _ _ I2 (fun s hs q => by
        have q : upd (A 4) k 0 s = 9 := q
        by_cases e : s = k
        · rw [e, rd_us] at q; exact absurd q (by decide)
        · rw [rd_un e] at q; exact n9 s hs q)
      refine ⟨B, z, R, J, m9, rd_K4_tr ⟨rfl, rfl, rfl, rfl⟩ mK, rd_wl_tr wl1 mw, fun _ => Nat.lt_of_le_of_lt (rd_ph_le mw) (rd_ph_lt wl1 hkn ws), ?_, ?_⟩
      · intro post ra qa ql hX H
        refine br_f tk ⟨i8, ?_⟩
        rw [ck]
        have f97 : ∀ (Q' : Nat → List Nat) (ra qa ql : Nat → Int32), Q' = rd_fq Q k → rd_XL w Q' ra qa ql → wX_passTime_97 post (wX_passTime_64 post (nI x) (d + 1)) (nI x) (nI k) (nI w.length) (A 25 0) (A 26 0) (A 27 0) (A 28 0) (A 29 0) (A 30 0) (A 31 0) (A 0) (A 1) (A 2) (A 3) (A 4) (A 5) (A 6) (A 7) (A 8) (A 9) (A 10) (A 11) (A 12) (A 13) (A 14) (A 15) (A 16) (A 17) (A 18) (A 19) (A 20) qa ql ra (A 21) (A 22) (A 32) (A 23) := by
          intro Q' ra qa ql eQ hX'
          subst eQ
          refine ⟨i8, i8, nm_r (e' := upd (A 5) k (nI y)) (by rw [ck, ey]) ?_⟩
          refine rd_x_makeReady (rd_RX_mk (A := rd_sw A  5 k (nI y)) hX') (by omega) wl8 ?_
          rintro u' ⟨ra1, qa1, ql1, rfl, hx1⟩
          exact nm_r (nI_1 k) (X post ra1 qa1 ql1 hx1 H)
        refine br_t due ⟨i8, ?_⟩
        by_cases c1 : A 4 k = 1
        · obtain ⟨q, hq, eq⟩ := I.vZ k hkn c1
          refine br_t c1 (rd_x_leaveQueue (rd_RX_mk hX) (by omega) (show q < 24 by omega) eq (fun p => Nat.le_trans (rd_qlen I) hn) (fun x hx => Nat.lt_of_lt_of_le ((I.vQ q).2 x hx).1 hn) ?_)
          rw [rd_dq_fq hn I.vQ eq (by omega)]
          rintro u' ⟨ra1, qa1, ql1, rfl, hx1⟩
          exact f97 _ ra1 qa1 ql1 rfl hx1
        · exact br_f c1 (f97 _ ra qa ql (rd_fq_no (rd_vQ_no I.vQ c1)).symm hX)
      · intro post ra qa wq am rz ob fr st bl hy H
        refine br_f tk ⟨i8, ?_⟩
        rw [ck]
        have f142 : wY_passTime_142 post (wY_passTime_61 post (nI x) (d + 1)) (nI x) (nI k) (A 17 k) (nI k) (A 26 0) bl (nI w.length) (A 27 0) (A 28 0) (A 29 0) (A 25 0) (A 3) (A 0) (A 1) (A 2) st (A 5) (A 6) (A 11) (A 8) (A 7) rz (A 16) (A 18) (A 19) fr (A 9) ob (A 13) qa wq ra (A 33) am (A 21) (A 22) := by
          refine ⟨i8, nm_r (e' := upd (A 5) k (nI y)) (by rw [ck, ey]) ?_⟩
          refine rd_y_leaveQueues (A := rd_sw A  5 k (nI y)) hn (by omega) (fun q => Nat.le_trans (rd_qlen I) hn) (fun q x hx => Nat.lt_of_lt_of_le ((I.vQ q).2 x hx).1 hn) hy.y2 hy.y3 (fun qa' wq' g2 g3 => ?_)
          refine rd_y_wake (A := rd_sw A  5 k (nI y)) (Q := rd_fq Q k) (rd_RY_mk (ex := 8) (D := D) ⟨hy.r, g2, g3, hy.y4, hy.y5, hy.y6, hy.y7, hy.y8, hy.y9, hy.y10⟩) hn hkn wl8 c7 c8 c9 ?_
          rintro v' ⟨ra1, qa1, wq1, am1, rz1, ob1, fr1, st1, bl1, rfl, hy1⟩
          exact nm_r (nI_1 k) (Y post ra1 qa1 wq1 am1 rz1 ob1 fr1 st1 bl1 hy1 H)
        refine br_t due ⟨i8, ?_⟩
        rw [hy.y9 k, rd_cv_n c9]
        by_cases c4 : A 4 k = 4
        · obtain ⟨b, p, i, ⟨qb, qp⟩, q1, q2, q3, q4⟩ : ∃ b p i, (b < 4 ∧ p ≤ 21) ∧ A 8 k = nI b ∧ A 5 k = nI p ∧ rd_oth (A 0) (A 3) b p = some i ∧ A 17 k = A 1 (20 * b + i) := by
            rcases hc with q | q | q
            · rw [c4] at q; exact absurd q.1 (by decide)
            · rw [c4] at q; exact absurd q.1 (by decide)
            · exact q.2
          obtain ⟨bb, pp, L, hat⟩ := rd_at_of I hkn
          obtain ⟨g1, g2, g3, g4, g5, g6⟩ := id hat
          have e1 : bb = b := rd_inj (by omega) (by omega) (g1.symm.trans q1)
          have e2 : pp = p := rd_inj (by omega) (by omega) (g3.symm.trans q2)
          subst e1
          subst e2
          refine br_t c4 (rd_y_other hat (by omega) (fun g => by rw [q3] at g; simp at g) (fun k' g => ?_))
          have e3 : i = k' := by rw [q3] at g; simpa using g
          subst e3
          have zi := rd_scan_some _ _ _ _ _ q3
          have iL := rd_at_in hat zi.2.2.1
          rw [q4] at f142
          exact br_f (nI_pos (by omega)) (rd_y_aAt hat (by omega) (by omega) f142)
        · refine br_f c4 (br_t (by decide) ⟨i8, i8, ?_⟩)
          rw [ck, hy.y9 k, rd_cv_n c9]
          by_cases c1 : A 4 k = 1
          · have e1 : A 17 k = A 5 k + 2 := by
              rcases hc with q | q | q
              · exact q.2
              · rw [c1] at q; exact absurd q.1 (by decide)
              · rw [c1] at q; exact absurd q.1 (by decide)
            rw [e1] at f142
            exact br_t c1 f142
          · have e1 : A 17 k = A 5 k + 1 := by
              rcases hc with q | q | q
              · exact absurd q.1 c1
              · exact q.2
              · exact absurd q.1 c4
            rw [e1] at f142
            exact br_f c1 f142
    · obtain ⟨B, z, R, J, m9, mK, mw, mp, X, Y⟩ := rd_ptl hx d (k + 1) (by omega) A w Q I n9
      refine ⟨B, z, R, J, m9, mK, mw, fun ⟨u, a, b, c⟩ => mp ⟨u, ?_, b, c⟩, ?_, ?_⟩
      · by_cases e : u = k
        · rw [e] at c; exact absurd c due
        · omega
      · intro post ra qa ql hX H
        refine br_f tk ⟨i8, br_f (by rw [ck]; exact due) (nm_r (nI_1 k) (X post ra qa ql hX H))⟩
      · intro post ra qa wq am rz ob fr st bl hy H
        refine br_f tk ⟨i8, br_f (by rw [ck]; exact due) (nm_r (nI_1 k) (Y post ra qa wq am rz ob fr st bl hy H))⟩
/-- passTime: no time at all, or the least one -/
theorem rd_pass {n D : Nat} {A : rd_St} {w : List Nat} {Q : Nat → List Nat} (I : rd_Inv n 8 D A w Q) (n9 : ∀ s, s < n → A 4 s ≠ 9) : ∃ (r : Int32) (B : rd_St) (z : List Nat) (R : Nat → List Nat), (r = 0 ∨ r = 1) ∧ rd_Inv n 8 D B z R ∧ (∀ s, s < n → B 4 s ≠ 9) ∧ rd_K4 A B ∧ (r = 1 → rd_ph n B < rd_ph n A) ∧ rd_wl n A B ∧
    (∀ (post : Int32 → SX → Prop) (u : SX), rd_RX A w Q u → (∀ u', rd_RX B z R u' → post r u') → wpX_passTime post u) ∧
    (∀ (post : Int32 → SY → Prop) (v : SY), rd_RY 8 n D A w Q v → (∀ v', rd_RY 8 n D B z R v' → post r v') → wpY_passTime post v) := by
  have hn := I.vN.2
  have hD := I.vD.2.1
  have hw : ∀ u, u < n → A 16 u = -1 ∨ ∃ x, x ≤ 99 * D ∧ A 16 u = nI x := by
    intro u hu
    rcases I.vW u hu with q | ⟨q, _⟩
    · exact Or.inl q
    · exact Or.inr q
  rcases rd_least_spec (K := 99 * D) (by omega) hw n (Nat.le_refl _) with ⟨a, b⟩ | ⟨u, x, a, b, c, e⟩
  · refine ⟨0, A, w, Q, Or.inl rfl, I, n9, ⟨rfl, rfl, rfl, rfl⟩, fun y => absurd y (by decide), rd_wl_rf _ _, ?_, ?_⟩
    · rintro post u ⟨ra, qa, ql, rfl, hx⟩ H
      unfold wpX_passTime
      exact ⟨_, rd_xl_least hn I.vN.1 (fun _ => H _ (rd_RX_mk hx)) (fun y => absurd a y) n 0 (by omega)⟩
    · rintro post v ⟨ra, qa, wq, am, rz, ob, fr, st, bl, rfl, hy⟩ H
      unfold wpY_passTime
      exact ⟨_, rd_yl_least (K := 99 * D) hn I.vN.1 (by omega) hw (fun _ => H _ (rd_RY_mk hy)) (fun y => absurd a y) n 0 (by omega)⟩
  · have I1 : rd_Inv n 8 D (rd_sw A  27 0 (nI x)) w Q := rd_i_tm I b
    obtain ⟨B, z, R, J, m9, mK, mw, mp, X, Y⟩ := rd_ptl (x := x) (by omega) n 0 (by omega) _ w Q I1 n9
    refine ⟨1, B, z, R, Or.inr rfl, J, m9, rd_K4_tr ⟨rfl, rfl, rfl, rfl⟩ mK, fun _ => mp ⟨u, by omega, a, c⟩, mw, ?_, ?_⟩
    · rintro post u ⟨ra, qa, ql, rfl, hx⟩ H
      unfold wpX_passTime
      refine ⟨_, rd_xl_least hn I.vN.1 (fun y => absurd (e.symm.trans y) (rd_nm (by omega))) (fun _ => ⟨n + 1, ?_⟩) n 0 (by omega)⟩
      rw [e]
      exact X post ra qa ql hx H
    · rintro post v ⟨ra, qa, wq, am, rz, ob, fr, st, bl, rfl, hy⟩ H
      unfold wpY_passTime
      refine ⟨_, rd_yl_least (K := 99 * D) hn I.vN.1 (by omega) hw (fun y => absurd (e.symm.trans y) (rd_nm (by omega))) (fun _ => ⟨n + 1, ?_⟩) n 0 (by omega)⟩
      rw [e]
      exact Y post ra qa wq am rz ob fr st bl hy H
end
section
/-! ending together: the pieces -/
def rd_ce (n : Nat) (A : rd_St) (ch : Nat → Int32) : Prop := ∀ u, u < n → ch u ≠ 0 → A 4 u = 8 ∨ (A 4 u = 4 ∧ A 14 u ≠ 0)
theorem rd_xl_ce {post : Int32 → Prop} {A : rd_St} {rl : Int32} {ra qa ql : Nat → Int32} {n : Nat} (hn : n ≤ 8) (hk : A 26 0 = nI n) (H1 : rd_ce n A (A 23) → post 1) (H0 : ¬ rd_ce n A (A 23) → post 0) : ∀ (d k : Nat), k + d = n → (∀ u, u < k → A 23 u ≠ 0 → A 4 u = 8 ∨ (A 4 u = 4 ∧ A 14 u ≠ 0)) → wX_chosenCanEnd_2 post rl (A 25 0) (A 26 0) (A 27 0) (A 28 0) (A 29 0) (A 30 0) (A 31 0) (A 0) (A 1) (A 2) (A 3) (A 4) (A 5) (A 6) (A 7) (A 8) (A 9) (A 10) (A 11) (A 12) (A 13) (A 14) (A 15) (A 16) (A 17) (A 18) (A 19) (A 20) qa ql ra (A 21) (A 22) (A 32) (A 23) (d + 1) (nI k)
  | 0, k, h1, h2 => by
    have e : k = n := by omega
    subst e
    exact br_t (by rw [hk]; exact nI_le (Nat.le_refl _) (by omega)) (H1 h2)
  | d + 1, k, h1, h2 => by
    have ck : (nI k).toNatClampNeg = k := nI_clamp (by omega)
    have i8 : vp_in (nI k) 8 := vp_in_nI (by omega) (by omega)
    have nx : (A 23 k ≠ 0 → A 4 k = 8 ∨ (A 4 k = 4 ∧ A 14 k ≠ 0)) → wX_chosenCanEnd_2 post rl (A 25 0) (A 26 0) (A 27 0) (A 28 0) (A 29 0) (A 30 0) (A 31 0) (A 0) (A 1) (A 2) (A 3) (A 4) (A 5) (A 6) (A 7) (A 8) (A 9) (A 10) (A 11) (A 12) (A 13) (A 14) (A 15) (A 16) (A 17) (A 18) (A 19) (A 20) qa ql ra (A 21) (A 22) (A 32) (A 23) (d + 1) (nI (k + 1)) := fun g => rd_xl_ce hn hk H1 H0 d (k + 1) (by omega) (fun u hu => by
      by_cases e : u = k
      · rw [e]; exact g
      · exact h2 u (by omega))
    have f34 : ∀ z : Int32, (z = 0 ∨ z = 1) → (z = 1 ↔ (A 4 k = 4 ∧ A 14 k ≠ 0)) → wX_chosenCanEnd_34 post (wX_chosenCanEnd_2 post rl (A 25 0) (A 26 0) (A 27 0) (A 28 0) (A 29 0) (A 30 0) (A 31 0) (A 0) (A 1) (A 2) (A 3) (A 4) (A 5) (A 6) (A 7) (A 8) (A 9) (A 10) (A 11) (A 12) (A 13) (A 14) (A 15) (A 16) (A 17) (A 18) (A 19) (A 20) qa ql ra (A 21) (A 22) (A 32) (A 23) (d + 1)) (nI k) z rl (A 25 0) (A 26 0) (A 27 0) (A 28 0) (A 29 0) (A 30 0) (A 31 0) (A 0) (A 1) (A 2) (A 3) (A 4) (A 5) (A 6) (A 7) (A 8) (A 9) (A 10) (A 11) (A 12) (A 13) (A 14) (A 15) (A 16) (A 17) (A 18) (A 19) (A 20) qa ql ra (A 21) (A 22) (A 32) (A 23) := by
      intro z hz hz2
      refine ⟨i8, ?_⟩
      rw [ck]
      refine br_c (fun g => nm_r (nI_1 k) (nx (fun y => absurd g y))) (fun g => ⟨i8, br_c (fun g2 => nm_r (nI_1 k) (nx (fun _ => Or.inl g2))) (fun g2 => br_c (fun g3 => H0 (fun q => ?_)) (fun g3 => nm_r (nI_1 k) (nx (fun _ => Or.inr (hz2.mp ?_)))))⟩)
      · rcases q k (by omega) g with y | y
        · exact g2 y
        · have := hz2.mpr y
          rw [g3] at this
          exact absurd this (by decide)
      · rcases hz with y | y
        · exact absurd y g3
        · exact y
    refine br_f (by rw [hk]; exact nI_ge (by omega) (by omega)) ⟨i8, ?_⟩
    rw [ck]
    by_cases c4 : A 4 k = 4
    · refine br_t c4 ⟨i8, ?_⟩
      by_cases t0 : A 14 k = 0
      · exact br_t t0 (f34 0 (Or.inl rfl) ⟨fun y => absurd y (by decide), fun y => absurd t0 y.2⟩)
      · exact br_f t0 (f34 1 (Or.inr rfl) ⟨fun _ => ⟨c4, t0⟩, fun _ => rfl⟩)
    · exact br_f c4 (f34 0 (Or.inl rfl) ⟨fun y => absurd y (by decide), fun y => absurd y.1 c4⟩)
theorem rd_x_ce {post : Int32 → Prop} {A : rd_St} {rl : Int32} {ra qa ql : Nat → Int32} {n : Nat} (hN : rd_vN n (A 26)) (H1 : rd_ce n A (A 23) → post 1) (H0 : ¬ rd_ce n A (A 23) → post 0) : wpX_chosenCanEnd post (rd_tX A rl ra qa ql) := by
  unfold wpX_chosenCanEnd
  exact ⟨_, rd_xl_ce hN.2 hN.1 H1 H0 n 0 (by omega) (fun u hu => by omega)⟩
/-- an ended task stays so -/
theorem rd_8 {n e D s : Nat} {A B : rd_St} {w : List Nat} {Q : Nat → List Nat} (I : rd_Inv n e D A w Q) (hs : s < n) (h : rd_wl n A B) (h8 : A 4 s = 8) : B 4 s = 8 := by
  have h0 := I.vC s hs (Or.inr h8)
  have c0 : (0 : Int32).toNatClampNeg = 0 := by decide
  have l : rd_c (B 4 s) (B 12 s) + 2 * (B 18 s).toNatClampNeg ≤ rd_c (A 4 s) (A 12 s) + 2 * (A 18 s).toNatClampNeg := h s hs
  rw [h8, h0, c0, rd_c8] at l
  apply Classical.byContradiction
  intro z
  have : 1 ≤ rd_c (B 4 s) (B 12 s) := by
    unfold rd_c
    rw [if_neg z]
    repeat' split
    all_goals omega
  omega
def rd_lk (n : Nat) (A : rd_St) : Prop := ∀ u, u < n → A 4 u ≠ 8 → A 34 u = 1 ∧ A 24 u = A 23 u
theorem rd_etl {n D : Nat} : ∀ (d k : Nat), k + d = n → ∀ (A : rd_St) (w : List Nat) (Q : Nat → List Nat), rd_Inv n 8 D A w Q → (∀ s, s < n → A 4 s ≠ 9) → rd_lk n A → ∃ B z R, rd_Inv n 8 D B z R ∧ (∀ s, s < n → B 4 s ≠ 9) ∧ rd_K4 A B ∧ rd_wl n A B ∧ ((∃ u, k ≤ u ∧ u < n ∧ A 23 u ≠ 0 ∧ A 4 u = 4) → rd_ph n B < rd_ph n A) ∧
    (∀ (post : Int32 → SX → Prop) (ra qa ql : Nat → Int32), rd_XL w Q ra qa ql → (∀ u', rd_RX B z R u' → post 1 u') → wX_endTogether_75 post (d + 1) (nI k) (nI w.length) (A 25 0) (A 26 0) (A 27 0) (A 28 0) (A 29 0) (A 30 0) (A 31 0) (A 0) (A 1) (A 2) (A 3) (A 4) (A 5) (A 6) (A 7) (A 8) (A 9) (A 10) (A 11) (A 12) (A 13) (A 14) (A 15) (A 16) (A 17) (A 18) (A 19) (A 20) qa ql ra (A 21) (A 22) (A 32) (A 23)) ∧
    (∀ (post : Int32 → SY → Prop) (ra qa wq am rz ob fr st : Nat → Int32) (bl : Int32), rd_YL 8 n D A w Q ra qa wq am rz ob fr st bl → (∀ v', rd_RY 8 n D B z R v' → post 1 v') → wY_endTogether_132 post (d + 1) (nI k) (A 26 0) bl (nI w.length) (A 27 0) (A 28 0) (A 29 0) (A 25 0) (A 3) (A 0) (A 1) (A 2) st (A 5) (A 6) (A 11) (A 8) (A 7) rz (A 16) (A 18) (A 19) fr (A 9) ob (A 13) qa wq ra (A 33) am (A 21) (A 22))
  | 0, k, hk, A, w, Q, I, n9, hl => by
    have hn := I.vN.2
    have e : k = n := by omega
    subst e
    refine ⟨A, w, Q, I, n9, ⟨rfl, rfl, rfl, rfl⟩, rd_wl_rf _ _, fun ⟨u, a, b, _⟩ => by omega, ?_, ?_⟩
    · intro post ra qa ql hx H
      exact br_t (by rw [I.vN.1]; exact nI_le (Nat.le_refl _) (by omega)) (H _ (rd_RX_mk hx))
    · intro post ra qa wq am rz ob fr st bl hy H
      exact br_t (by rw [I.vN.1]; exact nI_le (Nat.le_refl _) (by omega)) (H _ (rd_RY_mk hy))
  | d + 1, k, hk, A, w, Q, I, n9, hl => by
    have hn := I.vN.2
    have hkn : k < n := by omega
    have ck : (nI k).toNatClampNeg = k := nI_clamp (by omega)
    have i8 : vp_in (nI k) 8 := vp_in_nI (by omega) (by omega)
    have tk : ¬ A 26 0 ≤ nI k := by rw [I.vN.1]; exact nI_ge (by omega) (by omega)
    by_cases go : A 23 k ≠ 0 ∧ A 4 k = 4
    · obtain ⟨c0, c4⟩ := go
      have c2 : A 4 k ≠ 2 := by rw [c4]; decide
      have c7 : A 4 k ≠ 7 := by rw [c4]; decide
      have c8 : A 4 k ≠ 8 := by rw [c4]; decide
      obtain ⟨g1, a1⟩ := hl k hkn c8
      obtain ⟨B1, x1, R1, J1, F, X1, Y1⟩ := rd_bd (ex := 8) (t := k) 0 I hkn c7 c8 (rd_nf_of hn I.vF hkn c2) n9 (fun y => by omega)
      have ech : B1 23 = A 23 := F.1 _ (by decide) (by decide) (by decide) (by decide) (by decide) (by decide) (by decide) (by decide) (by decide)
      have eam : B1 24 = A 24 := F.1 _ (by decide) (by decide) (by decide) (by decide) (by decide) (by decide) (by decide) (by decide) (by decide)
      have egl : B1 34 = A 34 := F.1 _ (by decide) (by decide) (by decide) (by decide) (by decide) (by decide) (by decide) (by decide) (by decide)
      have hl1 : rd_lk n B1 := by
        intro u hu y
        rw [ech, eam, egl]
        exact hl u hu (fun q => y (rd_8 I hu F.2.1 q))
      obtain ⟨B, z, R, J, m9, mK, mw, _, X, Y⟩ := rd_etl d (k + 1) (by omega) B1 x1 R1 J1 F.2.2.2.1 hl1
      refine ⟨B, z, R, J, m9, rd_K4_tr (rd_K4_w F.1) mK, rd_wl_tr F.2.1 mw, fun _ => Nat.lt_of_le_of_lt (rd_ph_le mw) (rd_ph_lt F.2.1 hkn F.2.2.2.2.2.2), ?_, ?_⟩
      · intro post ra qa ql hx H
        refine br_f tk ⟨i8, ?_⟩
        rw [ck]
        refine br_f c0 ⟨i8, br_t c4 (X1 _ _ (rd_RX_mk hx) ?_)⟩
        rintro u' ⟨ra1, qa1, ql1, rfl, hx1⟩
        exact nm_r (nI_1 k) (X post ra1 qa1 ql1 hx1 H)
      · intro post ra qa wq am rz ob fr st bl hy H
        refine br_f tk ⟨i8, ?_⟩
        rw [ck, hy.y10 k (by omega) g1, a1]
        refine br_f c0 ⟨i8, ?_⟩
        rw [hy.y9 k, rd_cv_n (n9 k hkn)]
        refine br_t c4 (Y1 _ _ (rd_RY_mk hy) ?_)
        rintro v' ⟨ra1, qa1, wq1, am1, rz1, ob1, fr1, st1, bl1, rfl, hy1⟩
        exact nm_r (nI_1 k) (Y post ra1 qa1 wq1 am1 rz1 ob1 fr1 st1 bl1 hy1 H)
    · obtain ⟨B, z, R, J, m9, mK, mw, mp, X, Y⟩ := rd_etl d (k + 1) (by omega) A w Q I n9 hl
      refine ⟨B, z, R, J, m9, mK, mw, fun ⟨u, a, b, c, c'⟩ => mp ⟨u, ?_, b, c, c'⟩, ?_, ?_⟩
      · by_cases e : u = k
        · rw [e] at c c'; exact absurd ⟨c, c'⟩ go
        · omega
      · intro post ra qa ql hx H
        have nx := X post ra qa ql hx H
        refine br_f tk ⟨i8, ?_⟩
        rw [ck]
        exact br_c (fun _ => nm_r (nI_1 k) nx) (fun y => ⟨i8, br_f (fun q => go ⟨y, q⟩) (nm_r (nI_1 k) nx)⟩)
      · intro post ra qa wq am rz ob fr st bl hy H
        have nx := Y post ra qa wq am rz ob fr st bl hy H
        refine br_f tk ⟨i8, ?_⟩
        rw [ck]
        refine br_c (fun _ => nm_r (nI_1 k) nx) (fun y => ⟨i8, ?_⟩)
        rw [hy.y9 k, rd_cv_n (n9 k hkn)]
        refine br_f (fun q => go ⟨?_, q⟩) (nm_r (nI_1 k) nx)
        obtain ⟨g1, a1⟩ := hl k hkn (by rw [q]; decide)
        rw [hy.y10 k (by omega) g1, a1] at y
        exact y
end
section
/-! ending together, on both sides -/
theorem rd_u_m1 {n D t u : Nat} {dp fk ma mb cd ob fr : Nat → Int32} {bl : Int32} (hn : n ≤ 8) (hDD : D ≤ 500) (ht : t < n) (hB : rd_vB n dp fk ma mb cd) (hr : rd_rng n 8 dp) (h6 : rd_y6 n D dp fk fr bl) (h8 : rd_y8 n ma mb cd ob fr) (h9 : cd t ≠ 9) (hu : u < n) (e3 : cd u ≠ 8) (e1 : ma u = nI t) : mb u = -1 ↔ ob u = -1 := by
  obtain ⟨_, b⟩ := h8 u hu e3
  obtain ⟨_, b2, b3⟩ := b t ht e1
  constructor
  · exact b2 h9
  · intro e2
    rcases hB u hu e3 with y | ⟨m, l, hm, f1, f2, f3, f4⟩
    · exact y
    · have : m = t := rd_inj (by omega) (by omega) (f1.symm.trans e1)
      subst this
      obtain ⟨b', hb', _, g⟩ := h6
      obtain ⟨x, hx, gx⟩ := g m hm l f3 f4
      obtain ⟨j, hj, gj⟩ := hr m hm
      rw [gj, nI_clamp (by omega)] at f3
      have := b3 h9 l (by omega) f2
      rw [e2, gx] at this
      exact absurd this.symm (rd_nm (by omega))
theorem rd_u_bl {n D t u l : Nat} {dp fk ma mb cd ob fr : Nat → Int32} {bl : Int32} (hn : n ≤ 8) (hDD : D ≤ 500) (ht : t < n) (hB : rd_vB n dp fk ma mb cd) (hr : rd_rng n 8 dp) (h6 : rd_y6 n D dp fk fr bl) (h7 : rd_y7 n dp fk fr) (h8 : rd_y8 n ma mb cd ob fr) (h9 : cd t ≠ 9) (hl : l < (dp t).toNatClampNeg) (hk : fk (8 * t + l) = 0) (hu : u < n) (e3 : cd u ≠ 8) (e1 : ma u = nI t) : mb u = nI l ↔ ob u = fr (8 * t + l) := by
  have l8 : ∀ l, l < (dp t).toNatClampNeg → l < 8 := by
    intro l hl
    obtain ⟨j, hj, gj⟩ := hr t ht
    rw [gj, nI_clamp (by omega)] at hl
    omega
  obtain ⟨_, b⟩ := h8 u hu e3
  obtain ⟨_, b2, b3⟩ := b t ht e1
  constructor
  · exact b3 h9 l (l8 l hl)
  · intro e2
    rcases hB u hu e3 with y | ⟨m, k, hm, f1, f2, f3, f4⟩
    · obtain ⟨b', hb', _, g⟩ := h6
      obtain ⟨x, hx, gx⟩ := g t ht l hl hk
      have := b2 h9 y
      rw [e2, gx] at this
      exact absurd this (rd_nm (by omega))
    · have : m = t := rd_inj (by omega) (by omega) (f1.symm.trans e1)
      subst this
      have := b3 h9 k (l8 k f3) f2
      rw [e2] at this
      rw [h7 m hm l hl k f3 hk f4 this]
      exact f2
theorem rd_y_isEnding {post : Int32 → Prop} {n D u : Nat} {A : rd_St} {w : List Nat} {Q : Nat → List Nat} {ra qa wq am rz ob fr st : Nat → Int32} {bl : Int32} (I : rd_Inv n 8 D A w Q) (hu : u < n) (h9 : rd_y9 (A 4) st) (H1 : A 4 u = 4 → A 14 u ≠ 0 → post 1) (H0 : ¬ (A 4 u = 4 ∧ A 14 u ≠ 0) → post 0) : wpY_isEnding post (rd_tY A (nI w.length) ra qa wq am rz ob fr st bl) (nI u) := by
  have hn := I.vN.2
  have cu : (nI u).toNatClampNeg = u := nI_clamp (by omega)
  have i8 : vp_in (nI u) 8 := vp_in_nI (by omega) (by omega)
  unfold wpY_isEnding
  refine ⟨i8, ?_⟩
  rw [cu, h9 u]
  by_cases c4 : A 4 u = 4
  · obtain ⟨b, p, hp, hb, eb, ep, et⟩ := (I.vA u hu).2 c4
    obtain ⟨bb, pp, L, hat⟩ := rd_at_of I hu
    obtain ⟨g1, g2, g3, g4, g5, g6⟩ := id hat
    have e1 : bb = b := rd_inj (by omega) (by omega) (g1.symm.trans eb)
    have e2 : pp = p := rd_inj (by omega) (by omega) (g3.symm.trans ep)
    subst e1
    subst e2
    refine br_t (by rw [c4]; rfl) (rd_y_other hat (by omega) (fun g => br_t (by decide) (H0 (fun y => y.2 ?_))) (fun i g => ?_))
    · rw [et, g]; rfl
    · have zi := rd_scan_some _ _ _ _ _ g
      refine br_f (nI_pos (by omega)) (rd_y_opAt hat (by omega) (by omega) (br_c (fun y => H1 c4 ?_) (fun y => H0 (fun q => q.2 ?_))))
      · rw [et, g]; simp [y]
      · rw [et, g]; simp [y]
  · exact br_f (fun y => c4 ((rd_cv_eq (by decide) (by decide)).mp y)) (H0 (fun y => c4 y.1))
theorem rd_yl_all {post : Int32 → SY → Prop} {J : Int32 → Int32 → Int32 → Int32 → Int32 → Int32 → Int32 → Int32 → (Nat → Int32) → (Nat → Int32) → (Nat → Int32) → (Nat → Int32) → (Nat → Int32) → (Nat → Int32) → (Nat → Int32) → (Nat → Int32) → (Nat → Int32) → (Nat → Int32) → (Nat → Int32) → (Nat → Int32) → (Nat → Int32) → (Nat → Int32) → (Nat → Int32) → (Nat → Int32) → (Nat → Int32) → (Nat → Int32) → (Nat → Int32) → (Nat → Int32) → (Nat → Int32) → (Nat → Int32) → (Nat → Int32) → (Nat → Int32) → (Nat → Int32) → Prop} {n D : Nat} {A : rd_St} {w : List Nat} {Q : Nat → List Nat} {ra qa wq am rz ob fr st : Nat → Int32} {bl x1 : Int32} (I : rd_Inv n 8 D A w Q) (h9 : rd_y9 (A 4) st) (H1 : rd_ce n A am → ∃ f, wY_endTogether_132 post f 0 (A 26 0) bl (nI w.length) (A 27 0) (A 28 0) (A 29 0) (A 25 0) (A 3) (A 0) (A 1) (A 2) st (A 5) (A 6) (A 11) (A 8) (A 7) rz (A 16) (A 18) (A 19) fr (A 9) ob (A 13) qa wq ra (A 33) am (A 21) (A 22)) (H0 : ¬ rd_ce n A am → J (x1 + 1) (A 26 0) bl (nI w.length) (A 27 0) (A 28 0) (A 29 0) (A 25 0) (A 3) (A 0) (A 1) (A 2) st (A 5) (A 6) (A 11) (A 8) (A 7) rz (A 16) (A 18) (A 19) fr (A 9) ob (A 13) qa wq ra (A 33) am (A 21) (A 22)) : ∀ (d k : Nat) (x3 : Int32), k + d = n → (x3 = 0 ∨ x3 = 1) → (x3 = 1 ↔ ∀ u, u < k → am u ≠ 0 → A 4 u = 8 ∨ (A 4 u = 4 ∧ A 14 u ≠ 0)) → wY_endTogether_68 post J x1 (A 26 0) bl (nI w.length) (A 27 0) (A 28 0) (A 29 0) (A 25 0) (A 3) (A 0) (A 1) (A 2) st (A 5) (A 6) (A 11) (A 8) (A 7) rz (A 16) (A 18) (A 19) fr (A 9) ob (A 13) qa wq ra (A 33) am (A 21) (A 22) (d + 1) x3 (nI k)
  | 0, k, x3, h1, h2, h3 => by
    have hn := I.vN.2
    have e : k = n := by omega
    subst e
    refine br_t (by rw [I.vN.1]; exact nI_le (Nat.le_refl _) (by omega)) (br_c (fun y => nm_r rfl (H0 (fun q => ?_))) (fun y => H1 (h3.mp ?_)))
    · have := h3.mpr q
      rw [y] at this
      exact absurd this (by decide)
    · rcases h2 with q | q
      · exact absurd q y
      · exact q
  | d + 1, k, x3, h1, h2, h3 => by
    have hn := I.vN.2
    have ck : (nI k).toNatClampNeg = k := nI_clamp (by omega)
    have i8 : vp_in (nI k) 8 := vp_in_nI (by omega) (by omega)
    have a1 : x3 &&& 1 = x3 := by rcases h2 with y | y <;> rw [y] <;> decide
    have a0 : x3 &&& 0 = 0 := by rcases h2 with y | y <;> rw [y] <;> decide
    have ok : (am k ≠ 0 → A 4 k = 8 ∨ (A 4 k = 4 ∧ A 14 k ≠ 0)) → wY_endTogether_68 post J x1 (A 26 0) bl (nI w.length) (A 27 0) (A 28 0) (A 29 0) (A 25 0) (A 3) (A 0) (A 1) (A 2) st (A 5) (A 6) (A 11) (A 8) (A 7) rz (A 16) (A 18) (A 19) fr (A 9) ob (A 13) qa wq ra (A 33) am (A 21) (A 22) (d + 1) x3 (nI (k + 1)) := fun g => rd_yl_all I h9 H1 H0 d (k + 1) x3 (by omega) h2 (h3.trans ⟨fun q u hu => by
      by_cases e : u = k
      · rw [e]; exact g
      · exact q u (by omega), fun q u hu => q u (by omega)⟩)
    refine br_f (by rw [I.vN.1]; exact nI_ge (by omega) (by omega)) ⟨i8, ?_⟩
    rw [ck]
    refine br_c (fun y => nm_r a1 (nm_r (nI_1 k) (ok (fun q => absurd y q)))) (fun y => ⟨i8, ?_⟩)
    rw [h9 k]
    by_cases c8 : A 4 k = 8
    · exact br_t (by rw [c8]; rfl) (nm_r a1 (nm_r (nI_1 k) (ok (fun _ => Or.inl c8))))
    · refine br_f (fun q => c8 ((rd_cv_eq (by decide) (by decide)).mp q)) (rd_y_isEnding I (by omega) h9 (fun q1 q2 => br_f (by decide) (nm_r a1 (nm_r (nI_1 k) (ok (fun _ => Or.inr ⟨q1, q2⟩))))) (fun q => br_t rfl (nm_r a0 (nm_r (nI_1 k) (rd_yl_all I h9 H1 H0 d (k + 1) 0 (by omega) (Or.inl rfl) ⟨fun z => absurd z (by decide), fun z => ?_⟩)))))
      rcases z k (by omega) y with g | g
      · exact absurd g c8
      · exact absurd g q
theorem rd_et {n D : Nat} : ∀ (d k : Nat), k + d = n → ∀ (A : rd_St) (w : List Nat) (Q : Nat → List Nat), rd_Inv n 8 D A w Q → (∀ s, s < n → A 4 s ≠ 9) → ∃ (r : Int32) (B : rd_St) (z : List Nat) (R : Nat → List Nat), (r = 0 ∨ r = 1) ∧ rd_Inv n 8 D B z R ∧ (∀ s, s < n → B 4 s ≠ 9) ∧ rd_K4 A B ∧ rd_wl n A B ∧ (r = 1 → rd_ph n B < rd_ph n A) ∧ (r = 0 → z = w) ∧
    (∀ (post : Int32 → SX → Prop) (ra qa ql : Nat → Int32), rd_XL w Q ra qa ql → (∀ u', rd_RX B z R u' → post r u') → wX_endTogether_2 post (d + 1) (nI k) (nI w.length) (A 25 0) (A 26 0) (A 27 0) (A 28 0) (A 29 0) (A 30 0) (A 31 0) (A 0) (A 1) (A 2) (A 3) (A 4) (A 5) (A 6) (A 7) (A 8) (A 9) (A 10) (A 11) (A 12) (A 13) (A 14) (A 15) (A 16) (A 17) (A 18) (A 19) (A 20) qa ql ra (A 21) (A 22) (A 32) (A 23)) ∧
    (∀ (post : Int32 → SY → Prop) (ra qa wq am rz ob fr st : Nat → Int32) (bl : Int32), rd_YL 8 n D A w Q ra qa wq am rz ob fr st bl → (∀ v', rd_RY 8 n D B z R v' → post r v') → wY_endTogether_2 post (d + 1) (nI k) (A 26 0) bl (nI w.length) (A 27 0) (A 28 0) (A 29 0) (A 25 0) (A 3) (A 0) (A 1) (A 2) st (A 5) (A 6) (A 11) (A 8) (A 7) rz (A 16) (A 18) (A 19) fr (A 9) ob (A 13) qa wq ra (A 33) am (A 21) (A 22))
  | 0, k, hk, A, w, Q, I, n9 => by
    have hn := I.vN.2
    have e : k = n := by omega
    subst e
    refine ⟨0, A, w, Q, Or.inl rfl, I, n9, ⟨rfl, rfl, rfl, rfl⟩, rd_wl_rf _ _, fun y => absurd y (by decide), fun _ => rfl, ?_, ?_⟩
    · intro post ra qa ql hx H
      exact br_t (by rw [I.vN.1]; exact nI_le (Nat.le_refl _) (by omega)) (H _ (rd_RX_mk hx))
    · intro post ra qa wq am rz ob fr st bl hy H
      exact br_t (by rw [I.vN.1]; exact nI_le (Nat.le_refl _) (by omega)) (H _ (rd_RY_mk hy))
  | d + 1, k, hk, A, w, Q, I, n9 => by
    have hn := I.vN.2
    have hDD := I.vD.2.1
    have hkn : k < n := by omega
    have ck : (nI k).toNatClampNeg = k := nI_clamp (by omega)
    have i8 : vp_in (nI k) 8 := vp_in_nI (by omega) (by omega)
    have tk : ¬ A 26 0 ≤ nI k := by rw [I.vN.1]; exact nI_ge (by omega) (by omega)
    by_cases c67 : A 4 k = 6 ∨ A 4 k = 7
    · -- what it waits for
      obtain ⟨bx, hb6, hb7⟩ : ∃ bx : Int32, (A 4 k = 6 → bx = A 18 k - 1) ∧ (A 4 k ≠ 6 → bx = -1) := by
        by_cases c6 : A 4 k = 6
        · exact ⟨A 18 k - 1, fun _ => rfl, fun y => absurd c6 y⟩
        · exact ⟨-1, fun y => absurd y c6, fun _ => rfl⟩
      have bx2 : bx ≠ -2 := by
        by_cases c6 : A 4 k = 6
        · obtain ⟨dd, h1, h2, h3⟩ := (I.vE k hkn).1 c6
          rw [hb6 c6, h2, nI_pred]
          intro y
          have := nI_toInt (n := dd) (by omega)
          rw [y] at this
          have e2 : (-2 : Int32).toInt = -2 := by decide
          omega
        · rw [hb7 c6]; decide
      have lv : rd_lv n (A 9) (A 10) (A 4) k bx := by
        rcases c67 with y | y
        · rw [hb6 y]; exact I.vL k hkn (by omega) y
        · rw [hb7 (by rw [y]; decide)]; exact I.vK k hkn (by omega) y
      obtain ⟨cs, hcs, hcs2⟩ := rd_ch_ex n (A 9) (A 10) (A 23) k (fun x => x = bx)
      have I1 : rd_Inv n 8 D (rd_sa (rd_sa (rd_sa A  23 cs)  24 cs)  34 (fun u => if u < n ∧ A 4 u ≠ 8 then 1 else 0)) w Q := I
      have hlk : rd_lk n (rd_sa (rd_sa (rd_sa A  23 cs)  24 cs)  34 (fun u => if u < n ∧ A 4 u ≠ 8 then 1 else 0)) := by
        intro u hu y
        refine ⟨?_, rfl⟩
        show (if u < n ∧ A 4 u ≠ 8 then (1 : Int32) else 0) = 1
        rw [if_pos ⟨hu, y⟩]
      -- the two sides up to their looks
      have X0 : ∀ (post : Int32 → SX → Prop) (ra qa ql : Nat → Int32), (rd_ce n A cs → ∃ f, wX_endTogether_75 post f 0 (nI w.length) ((rd_sa (rd_sa (rd_sa A  23 cs)  24 cs)  34 (fun u => if u < n ∧ A 4 u ≠ 8 then 1 else 0)) 25 0) ((rd_sa (rd_sa (rd_sa A  23 cs)  24 cs)  34 (fun u => if u < n ∧ A 4 u ≠ 8 then 1 else 0)) 26 0) ((rd_sa (rd_sa (rd_sa A  23 cs)  24 cs)  34 (fun u => if u < n ∧ A 4 u ≠ 8 then 1 else 0)) 27 0) ((rd_sa (rd_sa (rd_sa A  23 cs)  24 cs)  34 (fun u => if u < n ∧ A 4 u ≠ 8 then 1 else 0)) 28 0) ((rd_sa (rd_sa (rd_sa A  23 cs)  24 cs)  34 (fun u => if u < n ∧ A 4 u ≠ 8 then 1 else 0)) 29 0) ((rd_sa (rd_sa (rd_sa A  23 cs)  24 cs)  34 (fun u => if u < n ∧ A 4 u ≠ 8 then 1 else 0)) 30 0) ((rd_sa (rd_sa (rd_sa A  23 cs)  24 cs)  34 (fun u => if u < n ∧ A 4 u ≠ 8 then 1 else 0)) 31 0) ((rd_sa (rd_sa (rd_sa A  23 cs)  24 cs)  34 (fun u => if u < n ∧ A 4 u ≠ 8 then 1 else 0)) 0) ((rd_sa (rd_sa (rd_sa A  23 cs)  24 cs)  34 (fun u => if u < n ∧ A 4 u ≠ 8 then 1 else 0)) 1) ((rd_sa (rd_sa (rd_sa A  23 cs)  24 cs)  34 (fun u => if u < n ∧ A 4 u ≠ 8 then 1 else 0)) 2) ((rd_sa (rd_sa (rd_sa A  23 cs)  24 cs)  34 (fun u => if u < n ∧ A 4 u ≠ 8 then 1 else 0)) 3) ((rd_sa (rd_sa (rd_sa A  23 cs)  24 cs)  34 (fun u => if u < n ∧ A 4 u ≠ 8 then 1 else 0)) 4) ((rd_sa (rd_sa (rd_sa A  23 cs)  24 cs)  34 (fun u => if u < n ∧ A 4 u ≠ 8 then 1 else 0)) 5) ((rd_sa (rd_sa (rd_sa A  23 cs)  24 cs)  34 (fun u => if u < n ∧ A 4 u ≠ 8 then 1 else 0)) 6) ((rd_sa (rd_sa (rd_sa A  23 cs)  24 cs)  34 (fun u => if u < n ∧ A 4 u ≠ 8 then 1 else 0)) 7) ((rd_sa (rd_sa (rd_sa A  23 cs)  24 cs)  34 (fun u => if u < n ∧ A 4 u ≠ 8 then 1 else 0)) 8) ((rd_sa (rd_sa (rd_sa A  23 cs)  24 cs)  34 (fun u => if u < n ∧ A 4 u ≠ 8 then 1 else 0)) 9) ((rd_sa (rd_sa (rd_sa A  23 cs)  24 cs)  34 (fun u => if u < n ∧ A 4 u ≠ 8 then 1 else 0)) 10) ((rd_sa (rd_sa (rd_sa A  23 cs)  24 cs)  34 (fun u => if u < n ∧ A 4 u ≠ 8 then 1 else 0)) 11) ((rd_sa (rd_sa (rd_sa A  23 cs)  24 cs)  34 (fun u => if u < n ∧ A 4 u ≠ 8 then 1 else 0)) 12) ((rd_sa (rd_sa (rd_sa A  23 cs)  24 cs)  34 (fun u => if u < n ∧ A 4 u ≠ 8 then 1 else 0)) 13) ((rd_sa (rd_sa (rd_sa A  23 cs)  24 cs)  34 (fun u => if u < n ∧ A 4 u ≠ 8 then 1 else 0)) 14) ((rd_sa (rd_sa (rd_sa A  23 cs)  24 cs)  34 (fun u => if u < n ∧ A 4 u ≠ 8 then 1 else 0)) 15) ((rd_sa (rd_sa (rd_sa A  23 cs)  24 cs)  34 (fun u => if u < n ∧ A 4 u ≠ 8 then 1 else 0)) 16) ((rd_sa (rd_sa (rd_sa A  23 cs)  24 cs)  34 (fun u => if u < n ∧ A 4 u ≠ 8 then 1 else 0)) 17) ((rd_sa (rd_sa (rd_sa A  23 cs)  24 cs)  34 (fun u => if u < n ∧ A 4 u ≠ 8 then 1 else 0)) 18) ((rd_sa (rd_sa (rd_sa A  23 cs)  24 cs)  34 (fun u => if u < n ∧ A 4 u ≠ 8 then 1 else 0)) 19) ((rd_sa (rd_sa (rd_sa A  23 cs)  24 cs)  34 (fun u => if u < n ∧ A 4 u ≠ 8 then 1 else 0)) 20) qa ql ra ((rd_sa (rd_sa (rd_sa A  23 cs)  24 cs)  34 (fun u => if u < n ∧ A 4 u ≠ 8 then 1 else 0)) 21) ((rd_sa (rd_sa (rd_sa A  23 cs)  24 cs)  34 (fun u => if u < n ∧ A 4 u ≠ 8 then 1 else 0)) 22) ((rd_sa (rd_sa (rd_sa A  23 cs)  24 cs)  34 (fun u => if u < n ∧ A 4 u ≠ 8 then 1 else 0)) 32) ((rd_sa (rd_sa (rd_sa A  23 cs)  24 cs)  34 (fun u => if u < n ∧ A 4 u ≠ 8 then 1 else 0)) 23)) → (¬ rd_ce n A cs → wX_endTogether_2 post (d + 1) (nI (k + 1)) (nI w.length) ((rd_sa (rd_sa (rd_sa A  23 cs)  24 cs)  34 (fun u => if u < n ∧ A 4 u ≠ 8 then 1 else 0)) 25 0) ((rd_sa (rd_sa (rd_sa A  23 cs)  24 cs)  34 (fun u => if u < n ∧ A 4 u ≠ 8 then 1 else 0)) 26 0) ((rd_sa (rd_sa (rd_sa A  23 cs)  24 cs)  34 (fun u => if u < n ∧ A 4 u ≠ 8 then 1 else 0)) 27 0) ((rd_sa (rd_sa (rd_sa A  23 cs)  24 cs)  34 (fun u => if u < n ∧ A 4 u ≠ 8 then 1 else 0)) 28 0) ((rd_sa (rd_sa (rd_sa A  23 cs)  24 cs)  34 (fun u => if u < n ∧ A 4 u ≠ 8 then 1 else 0)) 29 0) ((rd_sa (rd_sa (rd_sa A  23 cs)  24 cs)  34 (fun u => if u < n ∧ A 4 u ≠ 8 then 1 else 0)) 30 0) ((rd_sa (rd_sa (rd_sa A  23 cs)  24 cs)  34 (fun u => if u < n ∧ A 4 u ≠ 8 then 1 else 0)) 31 0) ((rd_sa (rd_sa (rd_sa A  23 cs)  24 cs)  34 (fun u => if u < n ∧ A 4 u ≠ 8 then 1 else 0)) 0) ((rd_sa (rd_sa (rd_sa A  23 cs)  24 cs)  34 (fun u => if u < n ∧ A 4 u ≠ 8 then 1 else 0)) 1) ((rd_sa (rd_sa (rd_sa A  23 cs)  24 cs)  34 (fun u => if u < n ∧ A 4 u ≠ 8 then 1 else 0)) 2) ((rd_sa (rd_sa (rd_sa A  23 cs)  24 cs)  34 (fun u => if u < n ∧ A 4 u ≠ 8 then 1 else 0)) 3) ((rd_sa (rd_sa (rd_sa A  23 cs)  24 cs)  34 (fun u => if u < n ∧ A 4 u ≠ 8 then 1 else 0)) 4) ((rd_sa (rd_sa (rd_sa A  23 cs)  24 cs)  34 (fun u => if u < n ∧ A 4 u ≠ 8 then 1 else 0)) 5) ((rd_sa (rd_sa (rd_sa A  23 cs)  24 cs)  34 (fun u => if u < n ∧ A 4 u ≠ 8 then 1 else 0)) 6) ((rd_sa (rd_sa (rd_sa A  23 cs)  24 cs)  34 (fun u => if u < n ∧ A 4 u ≠ 8 then 1 else 0)) 7) ((rd_sa (rd_sa (rd_sa A  23 cs)  24 cs)  34 (fun u => if u < n ∧ A 4 u ≠ 8 then 1 else 0)) 8) ((rd_sa (rd_sa (rd_sa A  23 cs)  24 cs)  34 (fun u => if u < n ∧ A 4 u ≠ 8 then 1 else 0)) 9) ((rd_sa (rd_sa (rd_sa A  23 cs)  24 cs)  34 (fun u => if u < n ∧ A 4 u ≠ 8 then 1 else 0)) 10) ((rd_sa (rd_sa (rd_sa A  23 cs)  24 cs)  34 (fun u => if u < n ∧ A 4 u ≠ 8 then 1 else 0)) 11) ((rd_sa (rd_sa (rd_sa A  23 cs)  24 cs)  34 (fun u => if u < n ∧ A 4 u ≠ 8 then 1 else 0)) 12) ((rd_sa (rd_sa (rd_sa A  23 cs)  24 cs)  34 (fun u => if u < n ∧ A 4 u ≠ 8 then 1 else 0)) 13) ((rd_sa (rd_sa (rd_sa A  23 cs)  24 cs)  34 (fun u => if u < n ∧ A 4 u ≠ 8 then 1 else 0)) 14) ((rd_sa (rd_sa (rd_sa A  23 cs)  24 cs)  34 (fun u => if u < n ∧ A 4 u ≠ 8 then 1 else 0)) 15) ((rd_sa (rd_sa (rd_sa A  23 cs)  24 cs)  34 (fun u => if u < n ∧ A 4 u ≠ 8 then 1 else 0)) 16) ((rd_sa (rd_sa (rd_sa A  23 cs)  24 cs)  34 (fun u => if u < n ∧ A 4 u ≠ 8 then 1 else 0)) 17) ((rd_sa (rd_sa (rd_sa A  23 cs)  24 cs)  34 (fun u => if u < n ∧ A 4 u ≠ 8 then 1 else 0)) 18) ((rd_sa (rd_sa (rd_sa A  23 cs)  24 cs)  34 (fun u => if u < n ∧ A 4 u ≠ 8 then 1 else 0)) 19) ((rd_sa (rd_sa (rd_sa A  23 cs)  24 cs)  34 (fun u => if u < n ∧ A 4 u ≠ 8 then 1 else 0)) 20) qa ql ra ((rd_sa (rd_sa (rd_sa A  23 cs)  24 cs)  34 (fun u => if u < n ∧ A 4 u ≠ 8 then 1 else 0)) 21) ((rd_sa (rd_sa (rd_sa A  23 cs)  24 cs)  34 (fun u => if u < n ∧ A 4 u ≠ 8 then 1 else 0)) 22) ((rd_sa (rd_sa (rd_sa A  23 cs)  24 cs)  34 (fun u => if u < n ∧ A 4 u ≠ 8 then 1 else 0)) 32) ((rd_sa (rd_sa (rd_sa A  23 cs)  24 cs)  34 (fun u => if u < n ∧ A 4 u ≠ 8 then 1 else 0)) 23)) → wX_endTogether_2 post (d + 1 + 1) (nI k) (nI w.length) (A 25 0) (A 26 0) (A 27 0) (A 28 0) (A 29 0) (A 30 0) (A 31 0) (A 0) (A 1) (A 2) (A 3) (A 4) (A 5) (A 6) (A 7) (A 8) (A 9) (A 10) (A 11) (A 12) (A 13) (A 14) (A 15) (A 16) (A 17) (A 18) (A 19) (A 20) qa ql ra (A 21) (A 22) (A 32) (A 23) := by
        intro post ra qa ql P1 P0
        have f60 : wX_endTogether_60 post (wX_endTogether_2 post (d + 1)) (nI k) bx (nI k) (nI w.length) (A 25 0) (A 26 0) (A 27 0) (A 28 0) (A 29 0) (A 30 0) (A 31 0) (A 0) (A 1) (A 2) (A 3) (A 4) (A 5) (A 6) (A 7) (A 8) (A 9) (A 10) (A 11) (A 12) (A 13) (A 14) (A 15) (A 16) (A 17) (A 18) (A 19) (A 20) qa ql ra (A 21) (A 22) (A 32) (A 23) := by
          refine rd_x_choose (q := fun x => x = bx) I.vN I.vM (fun x => ⟨fun y => Or.inr y, fun y => y.elim (fun z => absurd z bx2) id⟩) (fun ch g1 g2 => ?_)
          have ech := rd_ch_un hn hcs hcs2 g1 g2
          subst ech
          exact rd_x_ce (A := rd_sa A  23 ch) I.vN (fun y => br_f (by decide) (P1 y)) (fun y => br_t rfl (nm_r (nI_1 k) (P0 y)))
        have f35 : wX_endTogether_35 post (wX_endTogether_2 post (d + 1)) (nI k) (nI w.length) (A 25 0) (A 26 0) (A 27 0) (A 28 0) (A 29 0) (A 30 0) (A 31 0) (A 0) (A 1) (A 2) (A 3) (A 4) (A 5) (A 6) (A 7) (A 8) (A 9) (A 10) (A 11) (A 12) (A 13) (A 14) (A 15) (A 16) (A 17) (A 18) (A 19) (A 20) qa ql ra (A 21) (A 22) (A 32) (A 23) := by
          refine ⟨i8, ?_⟩
          rw [ck]
          refine br_c (fun y => ⟨i8, ?_⟩) (fun y => ?_)
          · rw [hb6 y] at f60; exact f60
          · rw [hb7 y] at f60; exact f60
        refine br_f tk ⟨i8, br_c (fun _ => f35) (fun y => ⟨i8, br_t ?_ f35⟩)⟩
        rw [ck] at y ⊢
        exact c67.resolve_left y
      have Y0 : ∀ (post : Int32 → SY → Prop) (ra qa wq am rz ob fr st : Nat → Int32) (bl : Int32), rd_YL 8 n D A w Q ra qa wq am rz ob fr st bl → (∀ am', rd_YL 8 n D (rd_sa (rd_sa (rd_sa A  23 cs)  24 cs)  34 (fun u => if u < n ∧ A 4 u ≠ 8 then 1 else 0)) w Q ra qa wq am' rz ob fr st bl → (rd_ce n A cs → ∃ f, wY_endTogether_132 post f 0 (A 26 0) bl (nI w.length) (A 27 0) (A 28 0) (A 29 0) (A 25 0) (A 3) (A 0) (A 1) (A 2) st (A 5) (A 6) (A 11) (A 8) (A 7) rz (A 16) (A 18) (A 19) fr (A 9) ob (A 13) qa wq ra (A 33) am' (A 21) (A 22)) ∧ (¬ rd_ce n A cs → wY_endTogether_2 post (d + 1) (nI (k + 1)) (A 26 0) bl (nI w.length) (A 27 0) (A 28 0) (A 29 0) (A 25 0) (A 3) (A 0) (A 1) (A 2) st (A 5) (A 6) (A 11) (A 8) (A 7) rz (A 16) (A 18) (A 19) fr (A 9) ob (A 13) qa wq ra (A 33) am' (A 21) (A 22))) → wY_endTogether_2 post (d + 1 + 1) (nI k) (A 26 0) bl (nI w.length) (A 27 0) (A 28 0) (A 29 0) (A 25 0) (A 3) (A 0) (A 1) (A 2) st (A 5) (A 6) (A 11) (A 8) (A 7) rz (A 16) (A 18) (A 19) fr (A 9) ob (A 13) qa wq ra (A 33) am (A 21) (A 22) := by
        intro post ra qa wq am rz ob fr st bl hy P
        have c9 : A 4 k ≠ 9 := n9 k hkn
        have f55 : ∀ y : Int32, (∀ u, u < n → A 4 u ≠ 8 → A 9 u = nI k → (A 10 u = bx ↔ ob u = y)) → wY_endTogether_55 post (wY_endTogether_2 post (d + 1)) (nI k) y (A 26 0) bl (nI w.length) (A 27 0) (A 28 0) (A 29 0) (A 25 0) (A 3) (A 0) (A 1) (A 2) st (A 5) (A 6) (A 11) (A 8) (A 7) rz (A 16) (A 18) (A 19) fr (A 9) ob (A 13) qa wq ra (A 33) am (A 21) (A 22) := by
          intro y hyy
          refine rd_y_gather (q := fun x => x = y) I.vN I.vM (fun x => ⟨fun q => Or.inr q, fun q => q.elim (fun z => absurd rfl z) id⟩) (fun am' g1 g2 => ⟨n + 1, ?_⟩)
          have link : ∀ u, u < n → A 4 u ≠ 8 → cs u = am' u := rd_ch_lv hn I.vX hcs g1 hyy
          have hy' : rd_YL 8 n D (rd_sa (rd_sa (rd_sa A  23 cs)  24 cs)  34 (fun u => if u < n ∧ A 4 u ≠ 8 then 1 else 0)) w Q ra qa wq am' rz ob fr st bl := by
            refine ⟨hy.r, hy.y2, hy.y3, hy.y4, hy.y5, hy.y6, hy.y7, hy.y8, hy.y9, ?_⟩
            intro u _ hg
            have hg : (if u < n ∧ A 4 u ≠ 8 then (1 : Int32) else 0) = 1 := hg
            show am' u = cs u
            by_cases q : u < n ∧ A 4 u ≠ 8
            · exact (link u q.1 q.2).symm
            · rw [if_neg q] at hg; exact absurd hg (by decide)
          have eqv : rd_ce n A cs ↔ rd_ce n A am' := by
            constructor
            · intro h u hu hne
              by_cases c8 : A 4 u = 8
              · exact Or.inl c8
              · exact h u hu (by rw [link u hu c8]; exact hne)
            · intro h u hu hne
              by_cases c8 : A 4 u = 8
              · exact Or.inl c8
              · exact h u hu (by rw [← link u hu c8]; exact hne)
          refine rd_yl_all I hy.y9 (fun g => (P am' hy').1 (eqv.mpr g)) (fun g => ?_) n 0 1 (by omega) (Or.inr rfl) ⟨fun _ u hu => by omega, fun _ => rfl⟩
          rw [nI_1]
          exact (P am' hy').2 (fun q => g (eqv.mp q))
        have f35 : wY_endTogether_35 post (wY_endTogether_2 post (d + 1)) (nI k) (A 26 0) bl (nI w.length) (A 27 0) (A 28 0) (A 29 0) (A 25 0) (A 3) (A 0) (A 1) (A 2) st (A 5) (A 6) (A 11) (A 8) (A 7) rz (A 16) (A 18) (A 19) fr (A 9) ob (A 13) qa wq ra (A 33) am (A 21) (A 22) := by
          refine ⟨i8, ?_⟩
          rw [ck, hy.y9 k, rd_cv_n c9]
          refine br_c (fun y => ?_) (fun y => f55 (-1) (fun u hu c8 e1 => ?_))
          · obtain ⟨dd, h1, h2, h3⟩ := (I.vE k hkn).1 y
            have hdd : dd < (A 18 k).toNatClampNeg := by rw [h2, nI_clamp (by omega)]; omega
            refine rd_y_top (by omega) h2 h1 (f55 _ (fun u hu c8 e1 => ?_))
            rw [hb6 y, h2, nI_pred]
            exact rd_u_bl hn hDD hkn I.vB I.rdp hy.y6 hy.y7 hy.y8 c9 hdd h3 hu c8 e1
          · rw [hb7 y]
            exact rd_u_m1 hn hDD hkn I.vB I.rdp hy.y6 hy.y8 c9 hu c8 e1
        refine br_f tk ⟨i8, br_c (fun _ => f35) (fun y => ⟨i8, br_t ?_ f35⟩)⟩
        rw [ck, hy.y9 k, rd_cv_n c9] at y
        rw [ck, hy.y9 k, rd_cv_n c9]
        exact c67.resolve_left y
      by_cases ce : rd_ce n A cs
      · -- they end
        obtain ⟨B, z, R, J, m9, mK, mw, mp, X, Y⟩ := rd_etl n 0 (by omega) _ w Q I1 n9 hlk
        refine ⟨1, B, z, R, Or.inr rfl, J, m9, rd_K4_tr ⟨rfl, rfl, rfl, rfl⟩ mK, mw, fun _ => mp ?_, fun y => absurd y (by decide), ?_, ?_⟩
        · obtain ⟨u, hu, g1, g2, g3⟩ := lv
          have c1 : cs u = 1 := ((hcs u hu).2).mpr (Or.inl ⟨g1, g2⟩)
          have cn : cs u ≠ 0 := by rw [c1]; decide
          refine ⟨u, by omega, hu, cn, ?_⟩
          rcases ce u hu cn with y | y
          · exact absurd y g3
          · exact y.1
        · intro post ra qa ql hx H
          exact X0 post ra qa ql (fun _ => ⟨_, X post ra qa ql hx H⟩) (fun y => absurd ce y)
        · intro post ra qa wq am rz ob fr st bl hy H
          exact Y0 post ra qa wq am rz ob fr st bl hy (fun am' hy' => ⟨fun _ => ⟨_, Y post ra qa wq am' rz ob fr st bl hy' H⟩, fun y => absurd ce y⟩)
      · obtain ⟨r, B, z, R, hr, J, m9, mK, mw, mp, mz, X, Y⟩ := rd_et d (k + 1) (by omega) _ w Q I1 n9
        refine ⟨r, B, z, R, hr, J, m9, rd_K4_tr ⟨rfl, rfl, rfl, rfl⟩ mK, mw, mp, mz, ?_, ?_⟩
        · intro post ra qa ql hx H
          exact X0 post ra qa ql (fun y => absurd y ce) (fun _ => X post ra qa ql hx H)
        · intro post ra qa wq am rz ob fr st bl hy H
          exact Y0 post ra qa wq am rz ob fr st bl hy (fun am' hy' => ⟨fun y => absurd y ce, fun _ => Y post ra qa wq am' rz ob fr st bl hy' H⟩)
    · obtain ⟨r, B, z, R, hr, J, m9, mK, mw, mp, mz, X, Y⟩ := rd_et d (k + 1) (by omega) A w Q I n9
      refine ⟨r, B, z, R, hr, J, m9, mK, mw, mp, mz, ?_, ?_⟩
      · intro post ra qa ql hx H
        refine br_f tk ⟨i8, ?_⟩
        rw [ck]
        exact br_f (fun y => c67 (Or.inl y)) ⟨i8, br_f (fun y => c67 (Or.inr y)) (nm_r (nI_1 k) (X post ra qa ql hx H))⟩
      · intro post ra qa wq am rz ob fr st bl hy H
        refine br_f tk ⟨i8, ?_⟩
        rw [ck, hy.y9 k, rd_cv_n (n9 k hkn)]
        exact br_f (fun y => c67 (Or.inl y)) ⟨i8, br_f (fun y => c67 (Or.inr y)) (nm_r (nI_1 k) (Y post ra qa wq am rz ob fr st bl hy H))⟩
/-- endTogether -/
theorem rd_tog {n D : Nat} {A : rd_St} {w : List Nat} {Q : Nat → List Nat} (I : rd_Inv n 8 D A w Q) (n9 : ∀ s, s < n → A 4 s ≠ 9) : ∃ (r : Int32) (B : rd_St) (z : List Nat) (R : Nat → List Nat), (r = 0 ∨ r = 1) ∧ rd_Inv n 8 D B z R ∧ (∀ s, s < n → B 4 s ≠ 9) ∧ rd_K4 A B ∧ rd_wl n A B ∧ (r = 1 → rd_ph n B < rd_ph n A) ∧ (r = 0 → z = w) ∧
    (∀ (post : Int32 → SX → Prop) (u : SX), rd_RX A w Q u → (∀ u', rd_RX B z R u' → post r u') → wpX_endTogether post u) ∧
    (∀ (post : Int32 → SY → Prop) (v : SY), rd_RY 8 n D A w Q v → (∀ v', rd_RY 8 n D B z R v' → post r v') → wpY_endTogether post v) := by
  obtain ⟨r, B, z, R, hr, J, m9, mK, mw, mp, mz, X, Y⟩ := rd_et n 0 (by omega) A w Q I n9
  refine ⟨r, B, z, R, hr, J, m9, mK, mw, mp, mz, ?_, ?_⟩
  · rintro post u ⟨ra, qa, ql, rfl, hx⟩ H
    unfold wpX_endTogether
    exact ⟨_, X post ra qa ql hx H⟩
  · rintro post v ⟨ra, qa, wq, am, rz, ob, fr, st, bl, rfl, hy⟩ H
    unfold wpY_endTogether
    exact ⟨_, Y post ra qa wq am rz ob fr st bl hy H⟩
end
section
/-! a turn: its pieces -/
theorem rd_all8 {n e D : Nat} {A : rd_St} {w : List Nat} {Q : Nat → List Nat} (I : rd_Inv n e D A w Q) (h : A 4 0 = 8) : ∀ k t, t < k → t < n → A 4 t = 8 := by
  have hn := I.vN.2
  intro k
  induction k with
  | zero => intro t h; omega
  | succ k ih =>
    intro t h1 h2
    rcases I.vM t h2 with ⟨a, _⟩ | ⟨m, a, b⟩
    · rw [a]; exact h
    · exact I.vX t h2 m (by omega) b (ih m (by omega) (by omega))
/-- the end of a pass -/
theorem rd_x_endTurn {n e D : Nat} {A : rd_St} {w : List Nat} {Q : Nat → List Nat} {u : SX} {t k : Nat} {post : SX → Prop} (I : rd_Inv n e D A w Q) (hu : rd_RX A w Q u) (ht : t < n) (hdt : A 30 0 = nI k) (hk : k < 2 ^ 31) (H1 : A 4 t ≠ 0 → ∀ u', rd_RX (rd_sw A  31 0 0) w Q u' → post u') (H2 : A 4 t = 0 → (k < 3 ∨ A 12 t ≠ 0) → ∀ u', rd_RX A w Q u' → post u') (H3 : A 4 t = 0 → 3 ≤ k → A 12 t = 0 → ∀ u', rd_RX (rd_ready (rd_sw A  31 0 0) t) (w.filter (fun x => x != t) ++ [t]) Q u' → post u') : wpX_endTurn post u (nI t) := by
  have hn := I.vN.2
  have ct : (nI t).toNatClampNeg = t := nI_clamp (by omega)
  have i8 : vp_in (nI t) 8 := vp_in_nI (by omega) (by omega)
  obtain ⟨ra, qa, ql, rfl, hx⟩ := hu
  unfold wpX_endTurn
  refine ⟨i8, ?_⟩
  rw [ct]
  by_cases c0 : A 4 t = 0
  · refine br_t c0 ?_
    by_cases k3 : k < 3
    · exact br_t (by rw [hdt]; exact nI_lt (b := 3) k3 (by omega)) (H2 c0 (Or.inl k3) _ (rd_RX_mk hx))
    · refine br_f (by rw [hdt]; exact nI_nlt (b := 3) (by omega) hk) ⟨i8, ?_⟩
      by_cases p0 : A 12 t = 0
      · refine br_t p0 ?_
        have wlen : (w.filter (fun x => x != t)).length < 8 := by
          have h1 := List.length_filter_le (fun x => x != t) w
          have h2 := rd_wlen I
          have h3 : (w.filter (fun x => x != t)).length < w.length := by
            have hm : t ∈ w := (I.vR.2 t).mpr ⟨ht, c0⟩
            apply Classical.byContradiction
            intro z
            have e : (w.filter (fun x => x != t)).length = w.length := by omega
            have := List.filter_eq_self.mp (List.filter_sublist.eq_of_length e) t hm
            simp at this
          omega
        have hx1 : rd_RX (rd_sw A  31 0 0) w Q (rd_tX (rd_sw A  31 0 0) (nI w.length) ra qa ql) := rd_RX_mk hx
        have hdt' : (rd_sw A  31 0 0) 30 0 = nI k := hdt
        refine rd_x_leaveRow (A := rd_sw A  31 0 0) ⟨ra, qa, ql, rfl, hx⟩ (by omega) (Nat.le_trans (rd_wlen I) hn) (fun x hx => Nat.lt_of_lt_of_le ((I.vR.2 x).mp hx).1 hn) ?_
        rintro u' ⟨ra1, qa1, ql1, rfl, hx1⟩
        refine rd_x_makeReady (rd_RX_mk hx1) (by omega) wlen ?_
        rintro u' ⟨ra2, qa2, ql2, rfl, hx2⟩
        exact H3 c0 (by omega) p0 _ (rd_RX_mk hx2)
      · refine br_f p0 ?_
        exact H2 c0 (Or.inr p0) _ (rd_RX_mk hx)
  · exact br_f c0 (H1 c0 _ (rd_RX_mk (A := rd_sw A  31 0 0) hx))
/-- what perform asks ahead of the instruction -/
theorem rd_x_perform {n e D p b L k : Nat} {A : rd_St} {w : List Nat} {Q : Nat → List Nat} {ra qa ql : Nat → Int32} {t : Nat} {post : SX → Prop} (I : rd_Inv n e D A w Q) (ht : t < n) (hat : rd_at A t b p L) (hdt : A 30 0 = nI k) (Pin : p < L → wX_perform_119 post (nI t) (nI (p + 1)) (A 0 (20 * b + p)) (A 1 (20 * b + p)) (A 2 (20 * b + p)) (nI w.length) ((rd_sw (rd_sw A  28 0 (nI (D + 1)))  30 0 (nI (k + 1))) 25 0) ((rd_sw (rd_sw A  28 0 (nI (D + 1)))  30 0 (nI (k + 1))) 26 0) ((rd_sw (rd_sw A  28 0 (nI (D + 1)))  30 0 (nI (k + 1))) 27 0) ((rd_sw (rd_sw A  28 0 (nI (D + 1)))  30 0 (nI (k + 1))) 28 0) ((rd_sw (rd_sw A  28 0 (nI (D + 1)))  30 0 (nI (k + 1))) 29 0) ((rd_sw (rd_sw A  28 0 (nI (D + 1)))  30 0 (nI (k + 1))) 30 0) ((rd_sw (rd_sw A  28 0 (nI (D + 1)))  30 0 (nI (k + 1))) 31 0) ((rd_sw (rd_sw A  28 0 (nI (D + 1)))  30 0 (nI (k + 1))) 0) ((rd_sw (rd_sw A  28 0 (nI (D + 1)))  30 0 (nI (k + 1))) 1) ((rd_sw (rd_sw A  28 0 (nI (D + 1)))  30 0 (nI (k + 1))) 2) ((rd_sw (rd_sw A  28 0 (nI (D + 1)))  30 0 (nI (k + 1))) 3) ((rd_sw (rd_sw A  28 0 (nI (D + 1)))  30 0 (nI (k + 1))) 4) ((rd_sw (rd_sw A  28 0 (nI (D + 1)))  30 0 (nI (k + 1))) 5) ((rd_sw (rd_sw A  28 0 (nI (D + 1)))  30 0 (nI (k + 1))) 6) ((rd_sw (rd_sw A  28 0 (nI (D + 1)))  30 0 (nI (k + 1))) 7) ((rd_sw (rd_sw A  28 0 (nI (D + 1)))  30 0 (nI (k + 1))) 8) ((rd_sw (rd_sw A  28 0 (nI (D + 1)))  30 0 (nI (k + 1))) 9) ((rd_sw (rd_sw A  28 0 (nI (D + 1)))  30 0 (nI (k + 1))) 10) ((rd_sw (rd_sw A  28 0 (nI (D + 1)))  30 0 (nI (k + 1))) 11) ((rd_sw (rd_sw A  28 0 (nI (D + 1)))  30 0 (nI (k + 1))) 12) ((rd_sw (rd_sw A  28 0 (nI (D + 1)))  30 0 (nI (k + 1))) 13) ((rd_sw (rd_sw A  28 0 (nI (D + 1)))  30 0 (nI (k + 1))) 14) ((rd_sw (rd_sw A  28 0 (nI (D + 1)))  30 0 (nI (k + 1))) 15) ((rd_sw (rd_sw A  28 0 (nI (D + 1)))  30 0 (nI (k + 1))) 16) ((rd_sw (rd_sw A  28 0 (nI (D + 1)))  30 0 (nI (k + 1))) 17) ((rd_sw (rd_sw A  28 0 (nI (D + 1)))  30 0 (nI (k + 1))) 18) ((rd_sw (rd_sw A  28 0 (nI (D + 1)))  30 0 (nI (k + 1))) 19) ((rd_sw (rd_sw A  28 0 (nI (D + 1)))  30 0 (nI (k + 1))) 20) qa ql ra ((rd_sw (rd_sw A  28 0 (nI (D + 1)))  30 0 (nI (k + 1))) 21) ((rd_sw (rd_sw A  28 0 (nI (D + 1)))  30 0 (nI (k + 1))) 22) ((rd_sw (rd_sw A  28 0 (nI (D + 1)))  30 0 (nI (k + 1))) 32) ((rd_sw (rd_sw A  28 0 (nI (D + 1)))  30 0 (nI (k + 1))) 23)) (Pout : ¬ p < L → wX_perform_119 post (nI t) (nI (p + 1)) 25 0 0 (nI w.length) ((rd_sw (rd_sw A  28 0 (nI (D + 1)))  30 0 (nI (k + 1))) 25 0) ((rd_sw (rd_sw A  28 0 (nI (D + 1)))  30 0 (nI (k + 1))) 26 0) ((rd_sw (rd_sw A  28 0 (nI (D + 1)))  30 0 (nI (k + 1))) 27 0) ((rd_sw (rd_sw A  28 0 (nI (D + 1)))  30 0 (nI (k + 1))) 28 0) ((rd_sw (rd_sw A  28 0 (nI (D + 1)))  30 0 (nI (k + 1))) 29 0) ((rd_sw (rd_sw A  28 0 (nI (D + 1)))  30 0 (nI (k + 1))) 30 0) ((rd_sw (rd_sw A  28 0 (nI (D + 1)))  30 0 (nI (k + 1))) 31 0) ((rd_sw (rd_sw A  28 0 (nI (D + 1)))  30 0 (nI (k + 1))) 0) ((rd_sw (rd_sw A  28 0 (nI (D + 1)))  30 0 (nI (k + 1))) 1) ((rd_sw (rd_sw A  28 0 (nI (D + 1)))  30 0 (nI (k + 1))) 2) ((rd_sw (rd_sw A  28 0 (nI (D + 1)))  30 0 (nI (k + 1))) 3) ((rd_sw (rd_sw A  28 0 (nI (D + 1)))  30 0 (nI (k + 1))) 4) ((rd_sw (rd_sw A  28 0 (nI (D + 1)))  30 0 (nI (k + 1))) 5) ((rd_sw (rd_sw A  28 0 (nI (D + 1)))  30 0 (nI (k + 1))) 6) ((rd_sw (rd_sw A  28 0 (nI (D + 1)))  30 0 (nI (k + 1))) 7) ((rd_sw (rd_sw A  28 0 (nI (D + 1)))  30 0 (nI (k + 1))) 8) ((rd_sw (rd_sw A  28 0 (nI (D + 1)))  30 0 (nI (k + 1))) 9) ((rd_sw (rd_sw A  28 0 (nI (D + 1)))  30 0 (nI (k + 1))) 10) ((rd_sw (rd_sw A  28 0 (nI (D + 1)))  30 0 (nI (k + 1))) 11) ((rd_sw (rd_sw A  28 0 (nI (D + 1)))  30 0 (nI (k + 1))) 12) ((rd_sw (rd_sw A  28 0 (nI (D + 1)))  30 0 (nI (k + 1))) 13) ((rd_sw (rd_sw A  28 0 (nI (D + 1)))  30 0 (nI (k + 1))) 14) ((rd_sw (rd_sw A  28 0 (nI (D + 1)))  30 0 (nI (k + 1))) 15) ((rd_sw (rd_sw A  28 0 (nI (D + 1)))  30 0 (nI (k + 1))) 16) ((rd_sw (rd_sw A  28 0 (nI (D + 1)))  30 0 (nI (k + 1))) 17) ((rd_sw (rd_sw A  28 0 (nI (D + 1)))  30 0 (nI (k + 1))) 18) ((rd_sw (rd_sw A  28 0 (nI (D + 1)))  30 0 (nI (k + 1))) 19) ((rd_sw (rd_sw A  28 0 (nI (D + 1)))  30 0 (nI (k + 1))) 20) qa ql ra ((rd_sw (rd_sw A  28 0 (nI (D + 1)))  30 0 (nI (k + 1))) 21) ((rd_sw (rd_sw A  28 0 (nI (D + 1)))  30 0 (nI (k + 1))) 22) ((rd_sw (rd_sw A  28 0 (nI (D + 1)))  30 0 (nI (k + 1))) 32) ((rd_sw (rd_sw A  28 0 (nI (D + 1)))  30 0 (nI (k + 1))) 23)) : wpX_perform post (rd_tX A (nI w.length) ra qa ql) (nI t) := by
  have hn := I.vN.2
  have ct : (nI t).toNatClampNeg = t := nI_clamp (by omega)
  have i8 : vp_in (nI t) 8 := vp_in_nI (by omega) (by omega)
  obtain ⟨g1, g2, g3, g4, g5, g6⟩ := id hat
  have cb : (nI b).toNatClampNeg = b := nI_clamp (by omega)
  have ii : nI b * 20 + nI p = nI (20 * b + p) := rd_ix b p 20 20 rfl
  have ci : (nI (20 * b + p)).toNatClampNeg = 20 * b + p := nI_clamp (by omega)
  unfold wpX_perform
  refine nm_r (e' := nI (D + 1)) (by rw [I.vD.1, nI_1]) (nm_r (e' := nI (k + 1)) (by rw [hdt, nI_1]) ⟨i8, nm_r (e' := nI p) (by rw [ct]; exact g3) (nm_r (nI_1 p) ⟨i8, nm_r (e' := nI (20 * b + p)) (by rw [ct, g1, ii]) ⟨i8, ?_⟩⟩)⟩)
  rw [ct, g1, cb, g5]
  refine ⟨vp_in_nI g2 (by omega), ?_⟩
  by_cases z : p < L
  · have i80 : vp_in (nI (20 * b + p)) 80 := vp_in_nI (by omega) (by omega)
    have P := Pin z
    refine br_f (nI_ge z (by omega)) (br_f (by decide) ⟨i80, br_f (by decide) ⟨i80, br_f (by decide) ⟨i80, ?_⟩⟩⟩)
    rw [ci]
    exact P
  · exact br_t (nI_le (by omega) (by omega)) (br_t rfl (br_t rfl (br_t rfl (Pout z))))
/-- what the reference's turn asks ahead of a step -/
theorem rd_y_turn {n e D p b L k f most : Nat} {A : rd_St} {w : List Nat} {Q : Nat → List Nat} {ra qa wq am rz ob fr st : Nat → Int32} {bl : Int32} {t : Nat} {post : Int32 → SY → Prop} (I : rd_Inv n e D A w Q) (ht : t < n) (hat : rd_at A t b p L) (hk : k < 3) (h9 : rd_y9 (A 4) st) (h0 : A 4 t = 0) (hm : D < most) (hm5 : most ≤ 500) (P : ∀ a c : Int32, (p < L → a = A 1 (20 * b + p) ∧ c = A 2 (20 * b + p)) → (¬ p < L → a = A 1 (20 * b) ∧ c = A 2 (20 * b)) → wpY_step (fun u => match u with | (f_tasks_1, f_blocks_1, f_readies_1, f_time_1, f_done_1, f_turns_1, f_notes_1, a_length_1, a_ops_1, a_as_1, a_bs_1, a_states_1, a_places_1, a_xs_1, a_limits_1, a_bodies_1, a_ends_1, a_raised_1, a_until_1, a_high_1, a_kinds_1, a_frames_1, a_on_1, a_onBlock_1, a_doomed_1, a_queues_1, a_waiting_1, a_row_1, a_dying_1, a_among_1, a_noteTask_1, a_noteInt_1) => (∀ y, y = nI k + 1 → wY_turn_32 post (nI t) (nI most) f y f_tasks_1 f_blocks_1 f_readies_1 f_time_1 f_done_1 f_turns_1 f_notes_1 a_length_1 a_ops_1 a_as_1 a_bs_1 a_states_1 a_places_1 a_xs_1 a_limits_1 a_bodies_1 a_ends_1 a_raised_1 a_until_1 a_high_1 a_kinds_1 a_frames_1 a_on_1 a_onBlock_1 a_doomed_1 a_queues_1 a_waiting_1 a_row_1 a_dying_1 a_among_1 a_noteTask_1 a_noteInt_1)) (rd_tY (rd_sw A  28 0 (nI (D + 1))) (nI w.length) ra qa wq am rz ob fr st bl) (nI t) (rd_op (A 0) (A 3) b p) a c) : wY_turn_32 post (nI t) (nI most) (f + 1) (nI k) (A 26 0) bl (nI w.length) (A 27 0) (A 28 0) (A 29 0) (A 25 0) (A 3) (A 0) (A 1) (A 2) st (A 5) (A 6) (A 11) (A 8) (A 7) rz (A 16) (A 18) (A 19) fr (A 9) ob (A 13) qa wq ra (A 33) am (A 21) (A 22) := by
  have hn := I.vN.2
  have ct : (nI t).toNatClampNeg = t := nI_clamp (by omega)
  have i8 : vp_in (nI t) 8 := vp_in_nI (by omega) (by omega)
  obtain ⟨g1, g2, g3, g4, g5, g6⟩ := id hat
  have cb : (nI b).toNatClampNeg = b := nI_clamp (by omega)
  have e0 : st (nI t).toNatClampNeg = 0 := by rw [ct, h9 t, h0]; rfl
  have e20 : 20 * nI b = nI (20 * b) := by
    have := rd_ix' b 0 20 20 rfl
    rw [nI_0, Int32.add_zero] at this
    exact this
  refine br_f (nI_ge (b := 3) hk (by omega)) ⟨i8, br_t e0 (br_f (by rw [I.vD.1]; exact fun y => by have := rd_inj (by omega) (by omega) y; omega) (nm_r (e' := nI (D + 1)) (by rw [I.vD.1, nI_1]) ⟨i8, nm_r (e' := nI p) (by rw [ct]; exact g3) ?_⟩))⟩
  refine rd_y_opAt (A := rd_sw A  28 0 (nI (D + 1))) (i := p) hat (by omega) (by omega) ⟨i8, i8, ?_⟩
  have e1 : A 8 (nI t).toNatClampNeg = nI b := by rw [ct]; exact g1
  have e2 : A 3 b = nI L := g5
  rw [e1, cb, e2, e20]
  refine ⟨vp_in_nI g2 (by omega), ?_⟩
  by_cases z : p < L
  · have i80 : vp_in (nI (20 * b + p)) 80 := vp_in_nI (by omega) (by omega)
    refine br_f (nI_ge z (by omega)) (nm_r (nI_add (20 * b) p) ⟨i80, i80, ?_⟩)
    rw [nI_clamp (by omega)]
    exact P _ _ (fun _ => ⟨rfl, rfl⟩) (fun y => absurd z y)
  · have i80 : vp_in (nI (20 * b)) 80 := vp_in_nI (by omega) (by omega)
    refine br_t (nI_le (by omega) (by omega)) (nm_r (e' := nI (20 * b)) (nI_add (20 * b) 0) ⟨i80, i80, ?_⟩)
    rw [nI_clamp (by omega)]
    exact P _ _ (fun y => absurd y z) (fun _ => ⟨rfl, rfl⟩)
end
section
/-! the main loop, in lockstep -/
def rd_mu (most n D : Nat) (A : rd_St) : Nat := (most - D) * 161 + rd_ph n A
def rd_MN (most n D : Nat) (A : rd_St) (w : List Nat) (Q : Nat → List Nat) : Prop := ∃ (r : Int32) (m E : Nat) (B : rd_St) (x : List Nat) (R : Nat → List Nat), rd_Inv m 8 E B x R ∧ (∀ s, s < m → B 4 s ≠ 9) ∧
    (∀ (post : Int32 → SX → Prop) (ra qa ql : Nat → Int32) (i f : Nat), i + rd_mu most n D A < 1000000 → rd_mu most n D A < f → rd_XL w Q ra qa ql → (∀ u', rd_RX B x R u' → post r u') → wX_run_20 post (nI most) f (nI i) (nI w.length) (A 25 0) (A 26 0) (A 27 0) (A 28 0) (A 29 0) (A 30 0) (A 31 0) (A 0) (A 1) (A 2) (A 3) (A 4) (A 5) (A 6) (A 7) (A 8) (A 9) (A 10) (A 11) (A 12) (A 13) (A 14) (A 15) (A 16) (A 17) (A 18) (A 19) (A 20) qa ql ra (A 21) (A 22) (A 32) (A 23)) ∧
    (∀ (post : Int32 → SY → Prop) (ra qa wq am rz ob fr st : Nat → Int32) (bl : Int32) (f : Nat), rd_mu most n D A < f → rd_YL 8 n D A w Q ra qa wq am rz ob fr st bl → (∀ v', rd_RY 8 m E B x R v' → post r v') → wY_run_55 post (nI most) f (A 26 0) bl (nI w.length) (A 27 0) (A 28 0) (A 29 0) (A 25 0) (A 3) (A 0) (A 1) (A 2) st (A 5) (A 6) (A 11) (A 8) (A 7) rz (A 16) (A 18) (A 19) fr (A 9) ob (A 13) qa wq ra (A 33) am (A 21) (A 22))
/-- in the midst of a turn of t, k instructions done in it; the pass begins at A0 and beginTurn leads to A -/
def rd_MD (most n D t k : Nat) (A0 A : rd_St) (w : List Nat) (Q : Nat → List Nat) : Prop := ∃ (r : Int32) (m E : Nat) (B : rd_St) (x : List Nat) (R : Nat → List Nat), rd_Inv m 8 E B x R ∧ (∀ s, s < m → B 4 s ≠ 9) ∧
    (∀ (post : Int32 → SX → Prop) (ra qa ql : Nat → Int32) (i f : Nat), i + rd_mu most n D A < 1000000 → rd_mu most n D A < f → rd_XL w Q ra qa ql → (∀ u', rd_RX B x R u' → post r u') → wX_run_20 post (nI most) f (nI i) (nI w.length) (A0 25 0) (A0 26 0) (A0 27 0) (A0 28 0) (A0 29 0) (A0 30 0) (A0 31 0) (A0 0) (A0 1) (A0 2) (A0 3) (A0 4) (A0 5) (A0 6) (A0 7) (A0 8) (A0 9) (A0 10) (A0 11) (A0 12) (A0 13) (A0 14) (A0 15) (A0 16) (A0 17) (A0 18) (A0 19) (A0 20) qa ql ra (A0 21) (A0 22) (A0 32) (A0 23)) ∧
    (∀ (post : Int32 → SY → Prop) (ra qa wq am rz ob fr st : Nat → Int32) (bl : Int32) (f : Nat), rd_mu most n D A ≤ f → rd_YL 8 n D A w Q ra qa wq am rz ob fr st bl → (∀ v', rd_RY 8 m E B x R v' → post r v') → wY_turn_32 (fun r u => match u with | (f_tasks_1, f_blocks_1, f_readies_1, f_time_1, f_done_1, f_turns_1, f_notes_1, a_length_1, a_ops_1, a_as_1, a_bs_1, a_states_1, a_places_1, a_xs_1, a_limits_1, a_bodies_1, a_ends_1, a_raised_1, a_until_1, a_high_1, a_kinds_1, a_frames_1, a_on_1, a_onBlock_1, a_doomed_1, a_queues_1, a_waiting_1, a_row_1, a_dying_1, a_among_1, a_noteTask_1, a_noteInt_1) => ((r = 0 → post 2 (f_tasks_1, f_blocks_1, f_readies_1, f_time_1, f_done_1, f_turns_1, f_notes_1, a_length_1, a_ops_1, a_as_1, a_bs_1, a_states_1, a_places_1, a_xs_1, a_limits_1, a_bodies_1, a_ends_1, a_raised_1, a_until_1, a_high_1, a_kinds_1, a_frames_1, a_on_1, a_onBlock_1, a_doomed_1, a_queues_1, a_waiting_1, a_row_1, a_dying_1, a_among_1, a_noteTask_1, a_noteInt_1)) ∧ (¬ r = 0 → wY_run_55 post (nI most) f f_tasks_1 f_blocks_1 f_readies_1 f_time_1 f_done_1 f_turns_1 f_notes_1 a_length_1 a_ops_1 a_as_1 a_bs_1 a_states_1 a_places_1 a_xs_1 a_limits_1 a_bodies_1 a_ends_1 a_raised_1 a_until_1 a_high_1 a_kinds_1 a_frames_1 a_on_1 a_onBlock_1 a_doomed_1 a_queues_1 a_waiting_1 a_row_1 a_dying_1 a_among_1 a_noteTask_1 a_noteInt_1))) (nI t) (nI most) (4 - k) (nI k) (A 26 0) bl (nI w.length) (A 27 0) (A 28 0) (A 29 0) (A 25 0) (A 3) (A 0) (A 1) (A 2) st (A 5) (A 6) (A 11) (A 8) (A 7) rz (A 16) (A 18) (A 19) fr (A 9) ob (A 13) qa wq ra (A 33) am (A 21) (A 22))
def rd_bt (A0 A : rd_St) : Prop := (A0 31 0 = 0 ∧ A = rd_sw (rd_sw (rd_sw A0  29 0 (A0 29 0 + 1))  30 0 0)  31 0 1) ∨ (A0 31 0 ≠ 0 ∧ A = A0)
theorem rd_bt_i {n D : Nat} {A0 A : rd_St} {w : List Nat} {Q : Nat → List Nat} (h : rd_bt A0 A) (I : rd_Inv n 8 D A w Q) : rd_Inv n 8 D A0 w Q ∧ A0 4 = A 4 ∧ A0 26 = A 26 := by
  rcases h with ⟨_, e⟩ | ⟨_, e⟩
  · rw [e] at I
    exact ⟨I, by rw [e]; rfl, by rw [e]; rfl⟩
  · rw [e] at I
    exact ⟨I, by rw [e], by rw [e]⟩
/-- a pass of the component in a turn: up to what it does -/
theorem rd_x_pass {most n D t f i : Nat} {A0 A : rd_St} {w : List Nat} {Q : Nat → List Nat} {ra qa ql : Nat → Int32} {post : Int32 → SX → Prop} (hb : rd_bt A0 A) (I : rd_Inv n 8 D A w Q) (ht : t < n) (h0 : A 4 t = 0) (hw : w.head? = some t) (hi : i < 1000000) (hx : rd_XL w Q ra qa ql) (P0 : A 12 t = 0 → ((A 28 0 < nI most → wpX_perform (fun u => match u with | (f_rowLength_1, f_noteCount_1, f_tasks_1, f_time_1, f_done_1, f_turns_1, f_doneInTurn_1, f_inTurn_1, a_ops_1, a_firsts_1, a_seconds_1, a_lengths_1, a_condition_1, a_place_1, a_xs_1, a_ended_1, a_bodyOf_1, a_master_1, a_masterBlock_1, a_limits_1, a_pending_1, a_doomed_1, a_terminable_1, a_calledQueue_1, a_wakeTime_1, a_wakePlace_1, a_depth_1, a_frameKind_1, a_frameValue_1, a_queue_1, a_queueLength_1, a_row_1, a_noteTask_1, a_noteValue_1, a_fallen_1, a_chosen_1) => wX_run_105 post (wX_run_20 post (nI most) f) (nI most) (nI i) (nI t) f_rowLength_1 f_noteCount_1 f_tasks_1 f_time_1 f_done_1 f_turns_1 f_doneInTurn_1 f_inTurn_1 a_ops_1 a_firsts_1 a_seconds_1 a_lengths_1 a_condition_1 a_place_1 a_xs_1 a_ended_1 a_bodyOf_1 a_master_1 a_masterBlock_1 a_limits_1 a_pending_1 a_doomed_1 a_terminable_1 a_calledQueue_1 a_wakeTime_1 a_wakePlace_1 a_depth_1 a_frameKind_1 a_frameValue_1 a_queue_1 a_queueLength_1 a_row_1 a_noteTask_1 a_noteValue_1 a_fallen_1 a_chosen_1) (rd_tX A (nI w.length) ra qa ql) (nI t)) ∧ (¬ A 28 0 < nI most → post 2 (rd_tX A (nI w.length) ra qa ql)))) (P1 : A 12 t ≠ 0 → wpX_raise (fun u => match u with | (f_rowLength_1, f_noteCount_1, f_tasks_1, f_time_1, f_done_1, f_turns_1, f_doneInTurn_1, f_inTurn_1, a_ops_1, a_firsts_1, a_seconds_1, a_lengths_1, a_condition_1, a_place_1, a_xs_1, a_ended_1, a_bodyOf_1, a_master_1, a_masterBlock_1, a_limits_1, a_pending_1, a_doomed_1, a_terminable_1, a_calledQueue_1, a_wakeTime_1, a_wakePlace_1, a_depth_1, a_frameKind_1, a_frameValue_1, a_queue_1, a_queueLength_1, a_row_1, a_noteTask_1, a_noteValue_1, a_fallen_1, a_chosen_1) => wX_run_105 post (wX_run_20 post (nI most) f) (nI most) (nI i) (nI t) f_rowLength_1 f_noteCount_1 f_tasks_1 f_time_1 f_done_1 f_turns_1 f_doneInTurn_1 f_inTurn_1 a_ops_1 a_firsts_1 a_seconds_1 a_lengths_1 a_condition_1 a_place_1 a_xs_1 a_ended_1 a_bodyOf_1 a_master_1 a_masterBlock_1 a_limits_1 a_pending_1 a_doomed_1 a_terminable_1 a_calledQueue_1 a_wakeTime_1 a_wakePlace_1 a_depth_1 a_frameKind_1 a_frameValue_1 a_queue_1 a_queueLength_1 a_row_1 a_noteTask_1 a_noteValue_1 a_fallen_1 a_chosen_1) (rd_tX A (nI w.length) ra qa ql) (nI t)) : wX_run_20 post (nI most) (f + 1) (nI i) (nI w.length) (A0 25 0) (A0 26 0) (A0 27 0) (A0 28 0) (A0 29 0) (A0 30 0) (A0 31 0) (A0 0) (A0 1) (A0 2) (A0 3) (A0 4) (A0 5) (A0 6) (A0 7) (A0 8) (A0 9) (A0 10) (A0 11) (A0 12) (A0 13) (A0 14) (A0 15) (A0 16) (A0 17) (A0 18) (A0 19) (A0 20) qa ql ra (A0 21) (A0 22) (A0 32) (A0 23) := by
  have hn := I.vN.2
  obtain ⟨I0, ecd, etk⟩ := rd_bt_i hb I
  have ct : (nI t).toNatClampNeg = t := nI_clamp (by omega)
  have i8 : vp_in (nI t) 8 := vp_in_nI (by omega) (by omega)
  have n8 : A0 4 0 ≠ 8 := by
    intro y
    rw [ecd] at y
    have := rd_all8 I y (t + 1) t (by omega) ht
    rw [h0] at this
    exact absurd this (by decide)
  have wlen := rd_wlen I
  cases hw' : w with
  | nil => rw [hw'] at hw; simp at hw
  | cons q l =>
    have e : q = t := by rw [hw'] at hw; simpa using hw
    subst e
    have r0 : ra 0 = nI q := by
      have := hx.1
      rw [hw'] at this
      exact this.1
    rw [← hw']
    have l0 : 0 < w.length := by rw [hw']; simp
    refine br_f (nI_ge (b := 1000000) hi (by omega)) (br_f n8 (br_f (nI_ne0 l0 (by omega)) (nm_r r0 ?_)))
    have fin : (vp_in (nI q) 8 ∧ ((A 12 (nI q).toNatClampNeg = 0 → ((A 28 0 < nI most → wpX_perform (fun u => match u with | (f_rowLength_1, f_noteCount_1, f_tasks_1, f_time_1, f_done_1, f_turns_1, f_doneInTurn_1, f_inTurn_1, a_ops_1, a_firsts_1, a_seconds_1, a_lengths_1, a_condition_1, a_place_1, a_xs_1, a_ended_1, a_bodyOf_1, a_master_1, a_masterBlock_1, a_limits_1, a_pending_1, a_doomed_1, a_terminable_1, a_calledQueue_1, a_wakeTime_1, a_wakePlace_1, a_depth_1, a_frameKind_1, a_frameValue_1, a_queue_1, a_queueLength_1, a_row_1, a_noteTask_1, a_noteValue_1, a_fallen_1, a_chosen_1) => wX_run_105 post (wX_run_20 post (nI most) f) (nI most) (nI i) (nI q) f_rowLength_1 f_noteCount_1 f_tasks_1 f_time_1 f_done_1 f_turns_1 f_doneInTurn_1 f_inTurn_1 a_ops_1 a_firsts_1 a_seconds_1 a_lengths_1 a_condition_1 a_place_1 a_xs_1 a_ended_1 a_bodyOf_1 a_master_1 a_masterBlock_1 a_limits_1 a_pending_1 a_doomed_1 a_terminable_1 a_calledQueue_1 a_wakeTime_1 a_wakePlace_1 a_depth_1 a_frameKind_1 a_frameValue_1 a_queue_1 a_queueLength_1 a_row_1 a_noteTask_1 a_noteValue_1 a_fallen_1 a_chosen_1) (rd_tX A (nI w.length) ra qa ql) (nI q)) ∧ (¬ A 28 0 < nI most → post 2 (rd_tX A (nI w.length) ra qa ql)))) ∧ (¬ A 12 (nI q).toNatClampNeg = 0 → wpX_raise (fun u => match u with | (f_rowLength_1, f_noteCount_1, f_tasks_1, f_time_1, f_done_1, f_turns_1, f_doneInTurn_1, f_inTurn_1, a_ops_1, a_firsts_1, a_seconds_1, a_lengths_1, a_condition_1, a_place_1, a_xs_1, a_ended_1, a_bodyOf_1, a_master_1, a_masterBlock_1, a_limits_1, a_pending_1, a_doomed_1, a_terminable_1, a_calledQueue_1, a_wakeTime_1, a_wakePlace_1, a_depth_1, a_frameKind_1, a_frameValue_1, a_queue_1, a_queueLength_1, a_row_1, a_noteTask_1, a_noteValue_1, a_fallen_1, a_chosen_1) => wX_run_105 post (wX_run_20 post (nI most) f) (nI most) (nI i) (nI q) f_rowLength_1 f_noteCount_1 f_tasks_1 f_time_1 f_done_1 f_turns_1 f_doneInTurn_1 f_inTurn_1 a_ops_1 a_firsts_1 a_seconds_1 a_lengths_1 a_condition_1 a_place_1 a_xs_1 a_ended_1 a_bodyOf_1 a_master_1 a_masterBlock_1 a_limits_1 a_pending_1 a_doomed_1 a_terminable_1 a_calledQueue_1 a_wakeTime_1 a_wakePlace_1 a_depth_1 a_frameKind_1 a_frameValue_1 a_queue_1 a_queueLength_1 a_row_1 a_noteTask_1 a_noteValue_1 a_fallen_1 a_chosen_1) (rd_tX A (nI w.length) ra qa ql) (nI q)))) := by
      refine ⟨i8, ?_⟩
      rw [ct]
      exact ⟨P0, P1⟩
    unfold wpX_beginTurn
    rcases hb with ⟨b1, b2⟩ | ⟨b1, b2⟩
    · subst b2
      exact br_t b1 (nm_r rfl fin)
    · subst b2
      exact br_f b1 fin
end
section
/-! behind a pass -/
def rd_IM (most mu : Nat) : Prop := ∀ (n D : Nat) (A : rd_St) (w : List Nat) (Q : Nat → List Nat), rd_mu most n D A < mu → D ≤ most → 0 < n → rd_Inv n 8 D A w Q → (∀ s, s < n → A 4 s ≠ 9) → A 31 0 = 0 → rd_MN most n D A w Q
def rd_ID (most mu : Nat) : Prop := ∀ (n D t k : Nat) (A : rd_St) (w : List Nat) (Q : Nat → List Nat), rd_mu most n D A < mu → D ≤ most → rd_Inv n 8 D A w Q → (∀ s, s < n → A 4 s ≠ 9) → A 31 0 ≠ 0 → A 30 0 = nI k → k < 3 → t < n → A 4 t = 0 → A 12 t = 0 → w.head? = some t → rd_MD most n D t k A A w Q
def rd_AF (most n D t k : Nat) (A : rd_St) (w : List Nat) (Q : Nat → List Nat) : Prop := ∃ (r : Int32) (m E : Nat) (B : rd_St) (x : List Nat) (R : Nat → List Nat), rd_Inv m 8 E B x R ∧ (∀ s, s < m → B 4 s ≠ 9) ∧
    (∀ (post : Int32 → SX → Prop) (u : SX) (i f : Nat), i + 1 + rd_mu most n D A < 1000000 → rd_mu most n D A < f → rd_RX A w Q u → (∀ u', rd_RX B x R u' → post r u') → wpX_endTurn (fun u => match u with | (f_rowLength_1, f_noteCount_1, f_tasks_1, f_time_1, f_done_1, f_turns_1, f_doneInTurn_1, f_inTurn_1, a_ops_1, a_firsts_1, a_seconds_1, a_lengths_1, a_condition_1, a_place_1, a_xs_1, a_ended_1, a_bodyOf_1, a_master_1, a_masterBlock_1, a_limits_1, a_pending_1, a_doomed_1, a_terminable_1, a_calledQueue_1, a_wakeTime_1, a_wakePlace_1, a_depth_1, a_frameKind_1, a_frameValue_1, a_queue_1, a_queueLength_1, a_row_1, a_noteTask_1, a_noteValue_1, a_fallen_1, a_chosen_1) => (∀ y, y = nI i + 1 → wX_run_20 post (nI most) f y f_rowLength_1 f_noteCount_1 f_tasks_1 f_time_1 f_done_1 f_turns_1 f_doneInTurn_1 f_inTurn_1 a_ops_1 a_firsts_1 a_seconds_1 a_lengths_1 a_condition_1 a_place_1 a_xs_1 a_ended_1 a_bodyOf_1 a_master_1 a_masterBlock_1 a_limits_1 a_pending_1 a_doomed_1 a_terminable_1 a_calledQueue_1 a_wakeTime_1 a_wakePlace_1 a_depth_1 a_frameKind_1 a_frameValue_1 a_queue_1 a_queueLength_1 a_row_1 a_noteTask_1 a_noteValue_1 a_fallen_1 a_chosen_1)) u (nI t)) ∧
    (∀ (post : Int32 → SY → Prop) (ra qa wq am rz ob fr st : Nat → Int32) (bl : Int32) (f : Nat), rd_mu most n D A < f → rd_YL 8 n D A w Q ra qa wq am rz ob fr st bl → (∀ v', rd_RY 8 m E B x R v' → post r v') → wY_turn_32 (fun r u => match u with | (f_tasks_1, f_blocks_1, f_readies_1, f_time_1, f_done_1, f_turns_1, f_notes_1, a_length_1, a_ops_1, a_as_1, a_bs_1, a_states_1, a_places_1, a_xs_1, a_limits_1, a_bodies_1, a_ends_1, a_raised_1, a_until_1, a_high_1, a_kinds_1, a_frames_1, a_on_1, a_onBlock_1, a_doomed_1, a_queues_1, a_waiting_1, a_row_1, a_dying_1, a_among_1, a_noteTask_1, a_noteInt_1) => ((r = 0 → post 2 (f_tasks_1, f_blocks_1, f_readies_1, f_time_1, f_done_1, f_turns_1, f_notes_1, a_length_1, a_ops_1, a_as_1, a_bs_1, a_states_1, a_places_1, a_xs_1, a_limits_1, a_bodies_1, a_ends_1, a_raised_1, a_until_1, a_high_1, a_kinds_1, a_frames_1, a_on_1, a_onBlock_1, a_doomed_1, a_queues_1, a_waiting_1, a_row_1, a_dying_1, a_among_1, a_noteTask_1, a_noteInt_1)) ∧ (¬ r = 0 → wY_run_55 post (nI most) f f_tasks_1 f_blocks_1 f_readies_1 f_time_1 f_done_1 f_turns_1 f_notes_1 a_length_1 a_ops_1 a_as_1 a_bs_1 a_states_1 a_places_1 a_xs_1 a_limits_1 a_bodies_1 a_ends_1 a_raised_1 a_until_1 a_high_1 a_kinds_1 a_frames_1 a_on_1 a_onBlock_1 a_doomed_1 a_queues_1 a_waiting_1 a_row_1 a_dying_1 a_among_1 a_noteTask_1 a_noteInt_1))) (nI t) (nI most) (4 - k) (nI k) (A 26 0) bl (nI w.length) (A 27 0) (A 28 0) (A 29 0) (A 25 0) (A 3) (A 0) (A 1) (A 2) st (A 5) (A 6) (A 11) (A 8) (A 7) rz (A 16) (A 18) (A 19) fr (A 9) ob (A 13) qa wq ra (A 33) am (A 21) (A 22))
theorem rd_after {most mu n D t k : Nat} {A : rd_St} {w : List Nat} {Q : Nat → List Nat} (IM : rd_IM most mu) (ID : rd_ID most mu) (hmu : rd_mu most n D A < mu) (hD : D ≤ most) (I : rd_Inv n 8 D A w Q) (n9 : ∀ s, s < n → A 4 s ≠ 9) (hit : A 31 0 ≠ 0) (hdt : A 30 0 = nI k) (hk : k ≤ 3) (ht : t < n) (hc : A 4 t = 0 → A 12 t = 0 ∧ w.head? = some t) : rd_AF most n D t k A w Q := by
  have hn := I.vN.2
  have ct : (nI t).toNatClampNeg = t := nI_clamp (by omega)
  have i8 : vp_in (nI t) 8 := vp_in_nI (by omega) (by omega)
  by_cases c0 : A 4 t = 0
  · obtain ⟨p0, hd⟩ := hc c0
    by_cases k3 : k < 3
    · obtain ⟨r, m, E, B, x, R, J, m9, X, Y⟩ := ID n D t k A w Q hmu hD I n9 hit hdt k3 ht c0 p0 hd
      refine ⟨r, m, E, B, x, R, J, m9, ?_, ?_⟩
      · intro post u i f hi hf hu H
        refine rd_x_endTurn I hu ht hdt (by omega) (fun y => absurd c0 y) (fun _ _ => ?_) (fun _ y _ => absurd k3 (Nat.not_lt.mpr y))
        rintro u' ⟨ra1, qa1, ql1, rfl, hx1⟩
        exact nm_r (nI_1 i) (X post ra1 qa1 ql1 (i + 1) f (by omega) hf hx1 H)
      · intro post ra qa wq am rz ob fr st bl f hf hy H
        exact Y post ra qa wq am rz ob fr st bl f (by omega) hy H
    · -- it goes to the end of the row
      have k3' : k = 3 := by omega
      subst k3'
      have wk1 : A 16 t = -1 := rd_wk0 I ht ⟨by rw [c0]; decide, by rw [c0]; decide, by rw [c0]; decide⟩
      have er : rd_ready (rd_sw A  31 0 0) t = rd_sw A  31 0 0 := by
        unfold rd_ready
        rw [rd_sw_eq (A := rd_sw A  31 0 0) (k :=  4) (i := t) (x := 0) c0, rd_sw_eq (A := rd_sw A  31 0 0) (k :=  16) (i := t) (x := -1) wk1]
      have hm : t ∈ w := (I.vR.2 t).mpr ⟨ht, c0⟩
      have vR' : rd_vR n (A 4) (w.filter (fun x => x != t) ++ [t]) := by
        have h1 := rd_vR_del (t := t) (s := 9) I.vR (by decide)
        have h2 := rd_vR_add h1 ht (by rw [rd_us]; decide)
        rw [rd_uu, rd_ue c0] at h2
        exact h2
      have I1 : rd_Inv n 8 D (rd_sw A  31 0 0) (w.filter (fun x => x != t) ++ [t]) Q := ⟨I.vG, I.vN, vR', I.vQ, I.vF, I.vU, I.vM, I.vB, I.vX, I.vC, I.vE, I.vL, I.vK, I.vD, I.vW, I.vP, I.vZ, I.vA, I.rbo, I.rpl, I.rdp, I.rli, I.rdm, I.rpe, I.rcd⟩
      have hmu1 : rd_mu most n D (rd_sw A  31 0 0) < mu := hmu
      obtain ⟨r, m, E, B, x, R, J, m9, X, Y⟩ := IM n D _ _ Q hmu1 hD (by omega) I1 n9 rfl
      refine ⟨r, m, E, B, x, R, J, m9, ?_, ?_⟩
      · intro post u i f hi hf hu H
        refine rd_x_endTurn I hu ht hdt (by omega) (fun y => absurd c0 y) (fun _ y => absurd y (by rintro (q | q); omega; exact q p0)) (fun _ _ _ => ?_)
        rw [er]
        rintro u' ⟨ra1, qa1, ql1, rfl, hx1⟩
        exact nm_r (nI_1 i) (X post ra1 qa1 ql1 (i + 1) f hi hf hx1 H)
      · intro post ra qa wq am rz ob fr st bl f hf hy H
        have e0 : st t = 0 := by rw [hy.y9 t, c0]; rfl
        have wlen : (w.filter (fun x => x != t)).length < 8 := by
          have h2 := rd_wlen I1
          simp at h2
          omega
        refine br_t (nI_le (a := 3) (b := 3) (by omega) (by omega)) ⟨i8, br_t (by rw [ct]; exact e0) ?_⟩
        refine rd_y_leaveRow hy.r (by omega) (Nat.le_trans (rd_wlen I) hn) (fun x hx => Nat.lt_of_lt_of_le ((I.vR.2 x).mp hx).1 hn) (fun ra' gr => ?_)
        refine rd_y_wakeR gr (by omega) wlen (fun ra2 gr2 => ?_)
        rw [rd_sw_eq (A := A) (k :=  16) wk1, rd_ue e0]
        refine br_f (by decide) (Y post ra2 qa wq am rz ob fr st bl f hf ⟨gr2, hy.y2, hy.y3, hy.y4, hy.y5, hy.y6, hy.y7, hy.y8, hy.y9, hy.y10⟩ H)
  · have hmu1 : rd_mu most n D (rd_sw A  31 0 0) < mu := hmu
    obtain ⟨r, m, E, B, x, R, J, m9, X, Y⟩ := IM n D (rd_sw A  31 0 0) w Q hmu1 hD (by omega) I n9 rfl
    refine ⟨r, m, E, B, x, R, J, m9, ?_, ?_⟩
    · intro post u i f hi hf hu H
      refine rd_x_endTurn I hu ht hdt (by omega) (fun _ => ?_) (fun y => absurd y c0) (fun y => absurd y c0)
      rintro u' ⟨ra1, qa1, ql1, rfl, hx1⟩
      exact nm_r (nI_1 i) (X post ra1 qa1 ql1 (i + 1) f hi hf hx1 H)
    · intro post ra qa wq am rz ob fr st bl f hf hy H
      have e0 : st t ≠ 0 := by
        rw [hy.y9 t]
        exact fun y => c0 ((rd_cv_eq (by decide) (by decide)).mp y)
      have f144 : wY_turn_144 (fun r u => match u with | (f_tasks_1, f_blocks_1, f_readies_1, f_time_1, f_done_1, f_turns_1, f_notes_1, a_length_1, a_ops_1, a_as_1, a_bs_1, a_states_1, a_places_1, a_xs_1, a_limits_1, a_bodies_1, a_ends_1, a_raised_1, a_until_1, a_high_1, a_kinds_1, a_frames_1, a_on_1, a_onBlock_1, a_doomed_1, a_queues_1, a_waiting_1, a_row_1, a_dying_1, a_among_1, a_noteTask_1, a_noteInt_1) => ((r = 0 → post 2 (f_tasks_1, f_blocks_1, f_readies_1, f_time_1, f_done_1, f_turns_1, f_notes_1, a_length_1, a_ops_1, a_as_1, a_bs_1, a_states_1, a_places_1, a_xs_1, a_limits_1, a_bodies_1, a_ends_1, a_raised_1, a_until_1, a_high_1, a_kinds_1, a_frames_1, a_on_1, a_onBlock_1, a_doomed_1, a_queues_1, a_waiting_1, a_row_1, a_dying_1, a_among_1, a_noteTask_1, a_noteInt_1)) ∧ (¬ r = 0 → wY_run_55 post (nI most) f f_tasks_1 f_blocks_1 f_readies_1 f_time_1 f_done_1 f_turns_1 f_notes_1 a_length_1 a_ops_1 a_as_1 a_bs_1 a_states_1 a_places_1 a_xs_1 a_limits_1 a_bodies_1 a_ends_1 a_raised_1 a_until_1 a_high_1 a_kinds_1 a_frames_1 a_on_1 a_onBlock_1 a_doomed_1 a_queues_1 a_waiting_1 a_row_1 a_dying_1 a_among_1 a_noteTask_1 a_noteInt_1))) (nI t) (A 26 0) bl (nI w.length) (A 27 0) (A 28 0) (A 29 0) (A 25 0) (A 3) (A 0) (A 1) (A 2) st (A 5) (A 6) (A 11) (A 8) (A 7) rz (A 16) (A 18) (A 19) fr (A 9) ob (A 13) qa wq ra (A 33) am (A 21) (A 22) := ⟨i8, br_f (by rw [ct]; exact e0) (br_f (by decide) (Y post ra qa wq am rz ob fr st bl f hf hy H))⟩
      have e4 : 4 - k = (3 - k) + 1 := by omega
      rw [e4]
      exact br_c (fun _ => f144) (fun _ => ⟨i8, br_f (by rw [ct]; exact e0) f144⟩)
end
section
/-! the main loop: in the midst of a turn, and at its head -/
theorem rd_mu_dn {most n m D : Nat} {A B : rd_St} {e : Nat} {x : List Nat} {R : Nat → List Nat} (J : rd_Inv m e (D + 1) B x R) (hD : D < most) : rd_mu most m (D + 1) B < rd_mu most n D A := by
  have h1 := rd_ph_bd J
  unfold rd_mu
  have h2 : (most - D) * 161 = (most - (D + 1)) * 161 + 161 := by
    have : most - D = (most - (D + 1)) + 1 := by omega
    rw [this, Nat.add_mul]
  omega
theorem rd_mid {most mu n D t k : Nat} {A0 A : rd_St} {w : List Nat} {Q : Nat → List Nat} (hmost : most ≤ 500) (IM : rd_IM most mu) (ID : rd_ID most mu) (hmu : rd_mu most n D A ≤ mu) (hD : D ≤ most) (I : rd_Inv n 8 D A w Q) (n9 : ∀ s, s < n → A 4 s ≠ 9) (hit : A 31 0 ≠ 0) (hdt : A 30 0 = nI k) (hk : k < 3) (ht : t < n) (h0 : A 4 t = 0) (hp : A 12 t = 0) (hw : w.head? = some t) (hb : rd_bt A0 A) : rd_MD most n D t k A0 A w Q := by
  have hn := I.vN.2
  have ct : (nI t).toNatClampNeg = t := nI_clamp (by omega)
  have i8 : vp_in (nI t) 8 := vp_in_nI (by omega) (by omega)
  by_cases full : D = most
  · -- no instruction is left
    refine ⟨2, n, D, A, w, Q, I, n9, ?_, ?_⟩
    · intro post ra qa ql i f hi hf hx H
      obtain ⟨f', rfl⟩ : ∃ f', f = f' + 1 := ⟨f - 1, by omega⟩
      exact rd_x_pass hb I ht h0 hw (by omega) hx (fun _ => ⟨fun y => absurd y (by rw [I.vD.1, full]; exact nI_nlt (Nat.le_refl _) (by omega)), fun _ => H _ (rd_RX_mk hx)⟩) (fun y => absurd hp y)
    · intro post ra qa wq am rz ob fr st bl f hf hy H
      have e0 : st (nI t).toNatClampNeg = 0 := by rw [ct, hy.y9 t, h0]; rfl
      have e4 : 4 - k = (3 - k) + 1 := by omega
      rw [e4]
      exact br_f (nI_ge (b := 3) hk (by omega)) ⟨i8, br_t e0 (br_t (by rw [I.vD.1, full]) (br_t rfl (H _ (rd_RY_mk hy))))⟩
  · have hDm : D < most := by omega
    obtain ⟨b, p, L, hat⟩ := rd_at_of I ht
    obtain ⟨g1, g2, g3, g4, g5, g6⟩ := id hat
    obtain ⟨v1, v2, v3, v4⟩ := I.vD
    have I1 := rd_i_dn I (by omega)
    have C : rd_C n D t p b (rd_sw (rd_sw A  28 0 (nI (D + 1)))  30 0 (nI (k + 1))) w Q := ⟨I1, ht, h0, hp, n9, g3, g4, g1, g2, by omega, v3, v4⟩
    -- the instruction's outcome, whichever it is
    obtain ⟨a, c, a', c', hO, hX, hY⟩ : ∃ (a c a' c' : Int32), (rd_O1 n D t p (rd_op (A 0) (A 3) b p) a c a' c' (rd_sw (rd_sw A  28 0 (nI (D + 1)))  30 0 (nI (k + 1))) w Q ∨ rd_O2 n D t p (rd_op (A 0) (A 3) b p) a c a' c' (rd_sw (rd_sw A  28 0 (nI (D + 1)))  30 0 (nI (k + 1))) w Q) ∧ (∀ (post : SX → Prop) (ra qa ql : Nat → Int32), wX_perform_119 post (nI t) (nI (p + 1)) (rd_op (A 0) (A 3) b p) a c (nI w.length) ((rd_sw (rd_sw A  28 0 (nI (D + 1)))  30 0 (nI (k + 1))) 25 0) ((rd_sw (rd_sw A  28 0 (nI (D + 1)))  30 0 (nI (k + 1))) 26 0) ((rd_sw (rd_sw A  28 0 (nI (D + 1)))  30 0 (nI (k + 1))) 27 0) ((rd_sw (rd_sw A  28 0 (nI (D + 1)))  30 0 (nI (k + 1))) 28 0) ((rd_sw (rd_sw A  28 0 (nI (D + 1)))  30 0 (nI (k + 1))) 29 0) ((rd_sw (rd_sw A  28 0 (nI (D + 1)))  30 0 (nI (k + 1))) 30 0) ((rd_sw (rd_sw A  28 0 (nI (D + 1)))  30 0 (nI (k + 1))) 31 0) ((rd_sw (rd_sw A  28 0 (nI (D + 1)))  30 0 (nI (k + 1))) 0) ((rd_sw (rd_sw A  28 0 (nI (D + 1)))  30 0 (nI (k + 1))) 1) ((rd_sw (rd_sw A  28 0 (nI (D + 1)))  30 0 (nI (k + 1))) 2) ((rd_sw (rd_sw A  28 0 (nI (D + 1)))  30 0 (nI (k + 1))) 3) ((rd_sw (rd_sw A  28 0 (nI (D + 1)))  30 0 (nI (k + 1))) 4) ((rd_sw (rd_sw A  28 0 (nI (D + 1)))  30 0 (nI (k + 1))) 5) ((rd_sw (rd_sw A  28 0 (nI (D + 1)))  30 0 (nI (k + 1))) 6) ((rd_sw (rd_sw A  28 0 (nI (D + 1)))  30 0 (nI (k + 1))) 7) ((rd_sw (rd_sw A  28 0 (nI (D + 1)))  30 0 (nI (k + 1))) 8) ((rd_sw (rd_sw A  28 0 (nI (D + 1)))  30 0 (nI (k + 1))) 9) ((rd_sw (rd_sw A  28 0 (nI (D + 1)))  30 0 (nI (k + 1))) 10) ((rd_sw (rd_sw A  28 0 (nI (D + 1)))  30 0 (nI (k + 1))) 11) ((rd_sw (rd_sw A  28 0 (nI (D + 1)))  30 0 (nI (k + 1))) 12) ((rd_sw (rd_sw A  28 0 (nI (D + 1)))  30 0 (nI (k + 1))) 13) ((rd_sw (rd_sw A  28 0 (nI (D + 1)))  30 0 (nI (k + 1))) 14) ((rd_sw (rd_sw A  28 0 (nI (D + 1)))  30 0 (nI (k + 1))) 15) ((rd_sw (rd_sw A  28 0 (nI (D + 1)))  30 0 (nI (k + 1))) 16) ((rd_sw (rd_sw A  28 0 (nI (D + 1)))  30 0 (nI (k + 1))) 17) ((rd_sw (rd_sw A  28 0 (nI (D + 1)))  30 0 (nI (k + 1))) 18) ((rd_sw (rd_sw A  28 0 (nI (D + 1)))  30 0 (nI (k + 1))) 19) ((rd_sw (rd_sw A  28 0 (nI (D + 1)))  30 0 (nI (k + 1))) 20) qa ql ra ((rd_sw (rd_sw A  28 0 (nI (D + 1)))  30 0 (nI (k + 1))) 21) ((rd_sw (rd_sw A  28 0 (nI (D + 1)))  30 0 (nI (k + 1))) 22) ((rd_sw (rd_sw A  28 0 (nI (D + 1)))  30 0 (nI (k + 1))) 32) ((rd_sw (rd_sw A  28 0 (nI (D + 1)))  30 0 (nI (k + 1))) 23) → wpX_perform post (rd_tX A (nI w.length) ra qa ql) (nI t)) ∧ (∀ x y : Int32, (p < L → x = A 1 (20 * b + p) ∧ y = A 2 (20 * b + p)) → (¬ p < L → x = A 1 (20 * b) ∧ y = A 2 (20 * b)) → x = a' ∧ y = c') := by
      by_cases z : p < L
      · rw [(rd_at_op hat p).1 z]
        refine ⟨_, _, _, _, rd_instr C (by omega), fun post ra qa ql P => rd_x_perform I ht hat hdt (fun _ => P) (fun y => absurd z y), fun x y h1 _ => h1 z⟩
      · rw [(rd_at_op hat p).2 z]
        exact ⟨0, 0, A 1 (20 * b), A 2 (20 * b), rd_op25 C _ _ _ _, fun post ra qa ql P => rd_x_perform I ht hat hdt (fun y => absurd y z) (fun _ => P), fun x y _ h2 => h2 z⟩
    have dnlt : A 28 0 < nI most := by rw [I.vD.1]; exact nI_lt hDm (by omega)
    have e4 : 4 - k = (3 - k) + 1 := by omega
    have e4' : 3 - k = 4 - (k + 1) := by omega
    rcases hO with ⟨m, B, x, R, J, G, hpe, PX, PY⟩ | ⟨cc, B, x, R, cc0, cc14, J0, J, S, PX, XR, PY⟩
    · -- done at once
      have hmuB := rd_mu_dn (n := n) (A := A) J hDm
      have dtB : B 30 0 = nI (k + 1) := by rw [G.2.2.1]; rfl
      have itB : B 31 0 ≠ 0 := by rw [G.2.2.2.1]; exact hit
      obtain ⟨r, m', E, B', x', R', J', m9', XA, YA⟩ := rd_after (k := k + 1) IM ID (Nat.lt_of_lt_of_le hmuB hmu) (by omega) J G.2.2.2.2.2.1 itB dtB (by omega) (Nat.lt_of_lt_of_le ht G.1) (fun y => ⟨hpe y, G.2.2.2.2.2.2 y hw⟩)
      refine ⟨r, m', E, B', x', R', J', m9', ?_, ?_⟩
      · intro post ra qa ql i f hi hf hx H
        obtain ⟨f', rfl⟩ : ∃ f', f = f' + 1 := ⟨f - 1, by omega⟩
        refine rd_x_pass hb I ht h0 hw (by omega) hx (fun _ => ⟨fun _ => hX _ ra qa ql (PX _ ra qa ql hx ?_), fun y => absurd dnlt y⟩) (fun y => absurd hp y)
        rintro u' ⟨ra1, qa1, ql1, rfl, hx1⟩
        exact XA post _ i f' (by omega) (by omega) (rd_RX_mk hx1) H
      · intro post ra qa wq am rz ob fr st bl f hf hy H
        rw [e4]
        refine rd_y_turn I ht hat hk hy.y9 h0 hDm hmost (fun x1 y1 h1 h2 => ?_)
        obtain ⟨q1, q2⟩ := hY x1 y1 h1 h2
        rw [q1, q2]
        refine PY _ ra qa wq am rz ob fr st bl hy ?_
        rintro v' ⟨ra1, qa1, wq1, am1, rz1, ob1, fr1, st1, bl1, rfl, hy1⟩
        refine nm_r (nI_1 k) ?_
        rw [e4']
        exact YA post ra1 qa1 wq1 am1 rz1 ob1 fr1 st1 bl1 f (by omega) hy1 H
    · -- something is raised
      have hmuB := rd_mu_dn (n := n) (A := A) J hDm
      have dtB : B 30 0 = nI (k + 1) := by rw [S.1  30 (by decide) (by decide) (by decide) (by decide) (by decide) (by decide) (by decide) (by decide) (by decide) (by decide)]; rfl
      have itB : B 31 0 ≠ 0 := by rw [S.1  31 (by decide) (by decide) (by decide) (by decide) (by decide) (by decide) (by decide) (by decide) (by decide) (by decide)]; exact hit
      have hmu0 := rd_mu_dn (n := n) (A := A) J0 hDm
      have hmuS : rd_mu most n (D + 1) B < rd_mu most n (D + 1) (rd_sw (rd_sw (rd_sw A  28 0 (nI (D + 1)))  30 0 (nI (k + 1)))  12 t (nI cc)) := by
        have := S.2.1
        unfold rd_mu
        omega
      obtain ⟨r, m', E, B', x', R', J', m9', XA, YA⟩ := rd_after (k := k + 1) IM ID (Nat.lt_of_lt_of_le hmuB hmu) (by omega) J S.2.2.1 itB dtB (by omega) ht (fun y => ⟨(S.2.2.2 y).1, (S.2.2.2 y).2 hw⟩)
      refine ⟨r, m', E, B', x', R', J', m9', ?_, ?_⟩
      · intro post ra qa ql i f hi hf hx H
        obtain ⟨f', rfl⟩ : ∃ f', f = f' + 1 + 1 := ⟨f - 2, by omega⟩
        refine rd_x_pass hb I ht h0 hw (by omega) hx (fun _ => ⟨fun _ => hX _ ra qa ql (PX _ ra qa ql hx ?_), fun y => absurd dnlt y⟩) (fun y => absurd hp y)
        rintro u' ⟨ra1, qa1, ql1, rfl, hx1⟩
        -- the pass ends with the exception kept; the next one raises it
        have pe' : (rd_sw (rd_sw (rd_sw A  28 0 (nI (D + 1)))  30 0 (nI (k + 1)))  12 t (nI cc)) 12 t = nI cc := rd_us
        have pn : nI cc ≠ 0 := nI_ne0 cc0 (by omega)
        refine rd_x_endTurn J0 (rd_RX_mk hx1) ht (k := k + 1) rfl (by omega) (fun y => absurd h0 y) (fun _ _ => ?_) (fun _ _ y => absurd (pe'.symm.trans y) pn)
        rintro u' ⟨ra2, qa2, ql2, rfl, hx2⟩
        refine nm_r (nI_1 i) (rd_x_pass (Or.inr ⟨hit, rfl⟩) J0 ht h0 hw (by omega) hx2 (fun y => absurd (pe'.symm.trans y) pn) (fun _ => XR _ _ (rd_RX_mk hx2) ?_))
        rintro u' ⟨ra3, qa3, ql3, rfl, hx3⟩
        exact XA post _ (i + 1) f' (by omega) (by omega) (rd_RX_mk hx3) H
      · intro post ra qa wq am rz ob fr st bl f hf hy H
        rw [e4]
        refine rd_y_turn I ht hat hk hy.y9 h0 hDm hmost (fun x1 y1 h1 h2 => ?_)
        obtain ⟨q1, q2⟩ := hY x1 y1 h1 h2
        rw [q1, q2]
        refine PY _ ra qa wq am rz ob fr st bl hy ?_
        rintro v' ⟨ra1, qa1, wq1, am1, rz1, ob1, fr1, st1, bl1, rfl, hy1⟩
        refine nm_r (nI_1 k) ?_
        rw [e4']
        exact YA post ra1 qa1 wq1 am1 rz1 ob1 fr1 st1 bl1 f (by omega) hy1 H
end
section
/-! the main loop, whole -/
theorem rd_head {most mu n D : Nat} {A : rd_St} {w : List Nat} {Q : Nat → List Nat} (hmost : most ≤ 500) (IM : rd_IM most mu) (ID : rd_ID most mu) (hmu : rd_mu most n D A ≤ mu) (hD : D ≤ most) (hn0 : 0 < n) (I : rd_Inv n 8 D A w Q) (n9 : ∀ s, s < n → A 4 s ≠ 9) (hit : A 31 0 = 0) : rd_MN most n D A w Q := by
  have hn := I.vN.2
  by_cases c8 : A 4 0 = 8
  · refine ⟨0, n, D, A, w, Q, I, n9, ?_, ?_⟩
    · intro post ra qa ql i f hi hf hx H
      obtain ⟨f', rfl⟩ : ∃ f', f = f' + 1 := ⟨f - 1, by omega⟩
      exact br_f (nI_ge (b := 1000000) (by omega) (by omega)) (br_t c8 (H _ (rd_RX_mk hx)))
    · intro post ra qa wq am rz ob fr st bl f hf hy H
      obtain ⟨f', rfl⟩ : ∃ f', f = f' + 1 := ⟨f - 1, by omega⟩
      exact br_t (by rw [hy.y9 0, c8]; rfl) (H _ (rd_RY_mk hy))
  · have ns8 : ∀ {st : Nat → Int32}, rd_y9 (A 4) st → st 0 ≠ 8 := fun h9 y => by
      rw [h9 0] at y
      exact c8 ((rd_cv_eq (by decide) (by decide)).mp y)
    cases hw : w with
    | nil =>
      rw [hw] at I
      obtain ⟨r, B, z, R, hr, J, m9, mK, mw, mp, mz, X, Y⟩ := rd_tog I n9
      have itB : B 31 0 = 0 := by rw [mK.2.2.1]; exact hit
      have phB := rd_ph_le mw
      rcases hr with r0 | r1
      · -- TIME
        subst r0
        obtain ⟨r', B2, z2, R2, hr', J2, m92, mK2, mp2, mw2, X2, Y2⟩ := rd_pass J m9
        have itB2 : B2 31 0 = 0 := by rw [mK2.2.2.1]; exact itB
        rcases hr' with s0 | s1
        · subst s0
          refine ⟨1, n, D, B2, z2, R2, J2, m92, ?_, ?_⟩
          · intro post ra qa ql i f hi hf hx H
            obtain ⟨f', rfl⟩ : ∃ f', f = f' + 1 := ⟨f - 1, by omega⟩
            refine br_f (nI_ge (b := 1000000) (by omega) (by omega)) (br_f c8 (br_t rfl (X _ _ (rd_RX_mk hx) ?_)))
            rintro u' ⟨ra1, qa1, ql1, rfl, hx1⟩
            refine br_t rfl (X2 _ _ (rd_RX_mk hx1) ?_)
            rintro u' ⟨ra2, qa2, ql2, rfl, hx2⟩
            exact br_t rfl (H _ (rd_RX_mk hx2))
          · intro post ra qa wq am rz ob fr st bl f hf hy H
            obtain ⟨f', rfl⟩ : ∃ f', f = f' + 1 := ⟨f - 1, by omega⟩
            refine br_f (ns8 hy.y9) (br_t (nI_le (a := 0) (b := 0) (Nat.le_refl _) (by omega)) (Y _ _ (rd_RY_mk hy) ?_))
            rintro v' ⟨ra1, qa1, wq1, am1, rz1, ob1, fr1, st1, bl1, rfl, hy1⟩
            refine br_t rfl (Y2 _ _ (rd_RY_mk hy1) ?_)
            rintro v' ⟨ra2, qa2, wq2, am2, rz2, ob2, fr2, st2, bl2, rfl, hy2⟩
            exact br_t rfl (H _ (rd_RY_mk hy2))
        · subst s1
          have lt : rd_mu most n D B2 < rd_mu most n D A := by
            have := mp2 rfl
            unfold rd_mu
            omega
          obtain ⟨q, m', E, B', x', R', J', m9', XA, YA⟩ := IM n D B2 z2 R2 (by omega) hD hn0 J2 m92 itB2
          refine ⟨q, m', E, B', x', R', J', m9', ?_, ?_⟩
          · intro post ra qa ql i f hi hf hx H
            obtain ⟨f', rfl⟩ : ∃ f', f = f' + 1 := ⟨f - 1, by omega⟩
            refine br_f (nI_ge (b := 1000000) (by omega) (by omega)) (br_f c8 (br_t rfl (X _ _ (rd_RX_mk hx) ?_)))
            rintro u' ⟨ra1, qa1, ql1, rfl, hx1⟩
            refine br_t rfl (X2 _ _ (rd_RX_mk hx1) ?_)
            rintro u' ⟨ra2, qa2, ql2, rfl, hx2⟩
            exact br_f (by decide) (nm_r (nI_1 i) (XA post ra2 qa2 ql2 (i + 1) f' (by omega) (by omega) hx2 H))
          · intro post ra qa wq am rz ob fr st bl f hf hy H
            obtain ⟨f', rfl⟩ : ∃ f', f = f' + 1 := ⟨f - 1, by omega⟩
            refine br_f (ns8 hy.y9) (br_t (nI_le (a := 0) (b := 0) (Nat.le_refl _) (by omega)) (Y _ _ (rd_RY_mk hy) ?_))
            rintro v' ⟨ra1, qa1, wq1, am1, rz1, ob1, fr1, st1, bl1, rfl, hy1⟩
            refine br_t rfl (Y2 _ _ (rd_RY_mk hy1) ?_)
            rintro v' ⟨ra2, qa2, wq2, am2, rz2, ob2, fr2, st2, bl2, rfl, hy2⟩
            exact br_f (by decide) (YA post ra2 qa2 wq2 am2 rz2 ob2 fr2 st2 bl2 f' (by omega) hy2 H)
      · subst r1
        have lt : rd_mu most n D B < rd_mu most n D A := by
          have := mp rfl
          unfold rd_mu
          omega
        obtain ⟨q, m', E, B', x', R', J', m9', XA, YA⟩ := IM n D B z R (by omega) hD hn0 J m9 itB
        refine ⟨q, m', E, B', x', R', J', m9', ?_, ?_⟩
        · intro post ra qa ql i f hi hf hx H
          obtain ⟨f', rfl⟩ : ∃ f', f = f' + 1 := ⟨f - 1, by omega⟩
          refine br_f (nI_ge (b := 1000000) (by omega) (by omega)) (br_f c8 (br_t rfl (X _ _ (rd_RX_mk hx) ?_)))
          rintro u' ⟨ra1, qa1, ql1, rfl, hx1⟩
          exact br_f (by decide) (nm_r (nI_1 i) (XA post ra1 qa1 ql1 (i + 1) f' (by omega) (by omega) hx1 H))
        · intro post ra qa wq am rz ob fr st bl f hf hy H
          obtain ⟨f', rfl⟩ : ∃ f', f = f' + 1 := ⟨f - 1, by omega⟩
          refine br_f (ns8 hy.y9) (br_t (nI_le (a := 0) (b := 0) (Nat.le_refl _) (by omega)) (Y _ _ (rd_RY_mk hy) ?_))
          rintro v' ⟨ra1, qa1, wq1, am1, rz1, ob1, fr1, st1, bl1, rfl, hy1⟩
          exact br_f (by decide) (YA post ra1 qa1 wq1 am1 rz1 ob1 fr1 st1 bl1 f' (by omega) hy1 H)
    | cons t l =>
      rw [← hw]
      have hm : t ∈ w := by rw [hw]; simp
      obtain ⟨ht, h0⟩ := (I.vR.2 t).mp hm
      have hh : w.head? = some t := by rw [hw]; rfl
      have ct : (nI t).toNatClampNeg = t := nI_clamp (by omega)
      have i8 : vp_in (nI t) 8 := vp_in_nI (by omega) (by omega)
      have lw : 0 < w.length := by rw [hw]; simp
      have wl := rd_wlen I
      have hb : rd_bt A (rd_sw (rd_sw (rd_sw A  29 0 (A 29 0 + 1))  30 0 0)  31 0 1) := Or.inl ⟨hit, rfl⟩
      have I1 : rd_Inv n 8 D (rd_sw (rd_sw (rd_sw A  29 0 (A 29 0 + 1))  30 0 0)  31 0 1) w Q := I
      have r0 : ∀ {ra : Nat → Int32}, rd_LV ra 0 w → ra 0 = nI t := fun h => by rw [hw] at h; exact h.1
      have it1 : (rd_sw (rd_sw (rd_sw A  29 0 (A 29 0 + 1))  30 0 0)  31 0 1) 31 0 ≠ 0 := by
        show (1 : Int32) ≠ 0
        decide
      have n7 : A 4 t ≠ 7 := by rw [h0]; decide
      have n8 : A 4 t ≠ 8 := by rw [h0]; decide
      have n9' : A 4 t ≠ 9 := by rw [h0]; decide
      obtain ⟨c, hc, ec⟩ := I.rpe t ht
      by_cases p0 : A 12 t = 0
      · obtain ⟨q, m', E, B', x', R', J', m9', XA, YA⟩ := rd_mid (k := 0) (A0 := A) (A := rd_sw (rd_sw (rd_sw A  29 0 (A 29 0 + 1))  30 0 0)  31 0 1) hmost IM ID hmu hD I1 n9 it1 rfl (by omega) ht h0 p0 hh hb
        refine ⟨q, m', E, B', x', R', J', m9', fun post ra qa ql i f hi hf hx H => XA post ra qa ql i f hi hf hx H, ?_⟩
        intro post ra qa wq am rz ob fr st bl f hf hy H
        obtain ⟨f', rfl⟩ : ∃ f', f = f' + 1 := ⟨f - 1, by omega⟩
        have rz0 : rz t = 0 := (rd_y4_n hy.y4 ht (by omega) n7 n8 n9').trans p0
        refine br_f (ns8 hy.y9) (br_f (nI_nle lw (by omega)) ?_)
        rw [r0 hy.r]
        unfold wpY_turn
        refine nm_e ⟨i8, br_t (by rw [ct, rz0]; exact nI_le (a := 0) (b := 0) (Nat.le_refl _) (by omega)) ⟨4, ?_⟩⟩
        exact YA post ra qa wq am rz ob fr st bl f' (by have : rd_mu most n D A < f' + 1 := hf; exact Nat.lt_succ_iff.mp this) hy H
      · have cpos : 0 < c := by
          apply Classical.byContradiction
          intro y
          have : c = 0 := by omega
          rw [this] at ec
          exact p0 ec
        obtain ⟨B, x, R, J, S, XR, YR⟩ := rd_raise cpos hc I1 ht h0 ec n9
        have dtB : B 30 0 = nI 0 := by rw [S.1  30 (by decide) (by decide) (by decide) (by decide) (by decide) (by decide) (by decide) (by decide) (by decide) (by decide)]; rfl
        have itB : B 31 0 ≠ 0 := by rw [S.1  31 (by decide) (by decide) (by decide) (by decide) (by decide) (by decide) (by decide) (by decide) (by decide) (by decide)]; exact it1
        have lt : rd_mu most n D B < rd_mu most n D A := by
          have h1 : rd_ph n B < rd_ph n A := S.2.1
          unfold rd_mu
          omega
        obtain ⟨q, m', E, B', x', R', J', m9', XA, YA⟩ := rd_after (k := 0) IM ID (Nat.lt_of_lt_of_le lt hmu) hD J S.2.2.1 itB dtB (by omega) ht (fun y => ⟨(S.2.2.2 y).1, (S.2.2.2 y).2 hh⟩)
        refine ⟨q, m', E, B', x', R', J', m9', ?_, ?_⟩
        · intro post ra qa ql i f hi hf hx H
          obtain ⟨f', rfl⟩ : ∃ f', f = f' + 1 := ⟨f - 1, by omega⟩
          refine rd_x_pass hb I1 ht h0 hh (by omega) hx (fun y => absurd y p0) (fun _ => XR _ _ (rd_RX_mk hx) ?_)
          rintro u' ⟨ra1, qa1, ql1, rfl, hx1⟩
          exact XA post _ i f' (by omega) (by omega) (rd_RX_mk hx1) H
        · intro post ra qa wq am rz ob fr st bl f hf hy H
          obtain ⟨f', rfl⟩ : ∃ f', f = f' + 1 := ⟨f - 1, by omega⟩
          have rzc : rz t = nI c := (rd_y4_n hy.y4 ht (by omega) n7 n8 n9').trans ec
          refine br_f (ns8 hy.y9) (br_f (nI_nle lw (by omega)) ?_)
          rw [r0 hy.r]
          unfold wpY_turn
          refine nm_e ⟨i8, br_f (by rw [ct, rzc]; exact nI_nle cpos (by omega)) ⟨i8, ?_⟩⟩
          rw [ct, rzc]
          refine YR _ ra qa wq am rz ob fr st bl ⟨8, Or.inr rfl, hy⟩ ?_
          rintro v' ⟨ra1, qa1, wq1, am1, rz1, ob1, fr1, st1, bl1, rfl, hy1⟩
          exact ⟨4, YA post ra1 qa1 wq1 am1 rz1 ob1 fr1 st1 bl1 f' (by omega) hy1 H⟩
theorem rd_both {most : Nat} (hmost : most ≤ 500) : ∀ mu, rd_IM most mu ∧ rd_ID most mu := by
  intro mu
  induction mu with
  | zero => exact ⟨fun n D A w Q h => by omega, fun n D t k A w Q h => by omega⟩
  | succ mu ih =>
    refine ⟨fun n D A w Q h hD hn0 I n9 hit => rd_head hmost ih.1 ih.2 (by omega) hD hn0 I n9 hit, fun n D t k A w Q h hD I n9 hit hdt hk ht h0 hp hw => rd_mid hmost ih.1 ih.2 (by omega) hD I n9 hit hdt hk ht h0 hp hw (Or.inr ⟨hit, rfl⟩)⟩
theorem rd_main {most n D : Nat} {A : rd_St} {w : List Nat} {Q : Nat → List Nat} (hmost : most ≤ 500) (hD : D ≤ most) (hn0 : 0 < n) (I : rd_Inv n 8 D A w Q) (n9 : ∀ s, s < n → A 4 s ≠ 9) (hit : A 31 0 = 0) : rd_MN most n D A w Q := (rd_both hmost (rd_mu most n D A + 1)).1 n D A w Q (by omega) hD hn0 I n9 hit
end
section
/-! between calls -/
def rd_WK (n : Nat) (A : rd_St) (w : List Nat) (Q : Nat → List Nat) (u : SX) (v : SY) : Prop := rd_vG (A 0) (A 1) (A 2) (A 3) ∧ rd_vN n (A 26) ∧ w.length ≤ 8 ∧ (∀ q, (Q q).length ≤ 8) ∧ (∀ t, t < n → A 4 t ≠ 9) ∧ rd_RX A w Q u ∧ ∃ ra qa wq am rz ob fr st bl, v = rd_tY A (nI w.length) ra qa wq am rz ob fr st bl ∧ rd_LV ra 0 w ∧ rd_rng 24 8 wq ∧ rd_y3 n Q wq qa ∧ rd_y9 (A 4) st
theorem rd_WK_of {n D : Nat} {A : rd_St} {w : List Nat} {Q : Nat → List Nat} {u : SX} {v : SY} (I : rd_Inv n 8 D A w Q) (n9 : ∀ s, s < n → A 4 s ≠ 9) (hu : rd_RX A w Q u) (hv : rd_RY 8 n D A w Q v) : rd_WK n A w Q u v := by
  have hn := I.vN.2
  obtain ⟨ra, qa, wq, am, rz, ob, fr, st, bl, e, hy⟩ := hv
  exact ⟨I.vG, I.vN, Nat.le_trans (rd_wlen I) hn, fun q => Nat.le_trans (rd_qlen I) hn, n9, hu, ra, qa, wq, am, rz, ob, fr, st, bl, e, hy.r, hy.y2, hy.y3, hy.y9⟩
def i_Rel (_ : Nat) (u : SX) (v : SY) : Prop := ∃ n A w Q, rd_WK n A w Q u v
theorem i_up {k : Nat} {u : SX} {v : SY} (h : i_Rel k u v) : i_Rel (k + 5) u v := h
theorem rd_fit0 : rd_fit 0 0 0 := ⟨⟨0, by omega, rfl⟩, fun h => absurd h (by decide), fun h => absurd h (by decide), fun h => absurd h (by decide), fun h => absurd h (by decide), fun h => absurd h (by decide), fun h => absurd h (by decide), fun h => absurd h (by decide), fun h => absurd h (by decide)⟩
theorem i_vc0 : wpX_init (fun u => wpY_init (fun v => i_Rel 0 u v)) := by
  refine ⟨0, fun _ _ => 0, [], fun _ => [], ⟨fun t _ => ⟨0, by omega, rfl⟩, fun i _ => rd_fit0⟩, ⟨rfl, by omega⟩, by simp, fun q => by simp, fun t ht => by omega, ⟨fun _ => 0, fun _ => 0, fun _ => 0, rfl, trivial, fun q _ => ⟨rfl, trivial⟩⟩, fun _ => 0, fun _ => 0, fun _ => 0, fun _ => 0, fun _ => 0, fun _ => 0, fun _ => 0, fun _ => 0, 0, rfl, trivial, fun q _ => ⟨0, by omega, rfl⟩, fun q hq => by omega, fun t => rfl⟩
theorem i_vc_state {k : Nat} {u : SX} {v : SY} (I : i_Rel k u v) (hk : k + 5 ≤ 2560) (v1 : Int32) : wpX_state (fun r => wpY_state (fun r' => r' = r ∧ i_Rel (k + 5) u v) v v1) u v1 := by
  have I' : i_Rel (k + 5) u v := I
  obtain ⟨n, A, w, Q, hG, hN, hw, hQ, n9, ⟨ra, qa, ql, rfl, hx⟩, ra', qa', wq, am, rz, ob, fr, st, bl, rfl, hr, h2, h3, h9⟩ := I
  unfold wpX_state
  have z : ∀ {c : Int32}, v1 < 0 ∨ 4 < v1 → 0 ≤ c → c ≤ 4 → v1 ≠ c := by
    intro c h1 h2 h3 e
    rw [e] at h1
    rcases h1 with y | y
    · exact absurd h2 (Int32.not_le.mpr y)
    · exact absurd h3 (Int32.not_le.mpr y)
  have no : v1 < 0 ∨ 4 < v1 → wpY_state (fun r' => r' = -1 ∧ i_Rel (k + 5) (rd_tX A (nI w.length) ra qa ql) (rd_tY A (nI w.length) ra' qa' wq am rz ob fr st bl)) (rd_tY A (nI w.length) ra' qa' wq am rz ob fr st bl) v1 := fun h => br_f (z h (by decide) (by decide)) (br_f (z h (by decide) (by decide)) (br_f (z h (by decide) (by decide)) (br_f (z h (by decide) (by decide)) (br_f (z h (by decide) (by decide)) ⟨rfl, I'⟩))))
  refine br_c (fun y => no (Or.inl y)) (fun y => br_c (fun x => no (Or.inr x)) (fun x => ?_))
  refine br_c (fun e => br_t e ⟨rfl, I'⟩) (fun e0 => br_c (fun e => br_f e0 (br_t e ⟨rfl, I'⟩)) (fun e1 => br_c (fun e => br_f e0 (br_f e1 (br_t e ⟨rfl, I'⟩))) (fun e2 => br_c (fun e => br_f e0 (br_f e1 (br_f e2 (br_t e ⟨rfl, I'⟩)))) (fun e3 => br_c (fun e => br_f e0 (br_f e1 (br_f e2 (br_f e3 (br_t e ⟨rfl, I'⟩))))) (fun _ => trivial)))))
end
section
/-! the calls that ask -/
theorem rd_x_w1 {post : Int32 → Prop} {u : SX} {j n : Nat} {hi : Int32} (hj : j < n) (hn : n < 1000) (hh : hi = nI n - 1) (H : post 1) : wpX_within post u (nI j) 0 hi := by
  obtain ⟨m, rfl⟩ : ∃ m, n = m + 1 := ⟨n - 1, by omega⟩
  rw [hh, nI_pred]
  exact rd_x_within (fun _ _ => H) (fun z => absurd ⟨nI_pos' (by omega), nI_le (by omega) (by omega)⟩ z)
theorem rd_x_w0 {post : Int32 → Prop} {u : SX} {n : Nat} {a hi : Int32} (hn : n < 1000) (hh : hi = nI n - 1) (no : ¬ ∃ j, j < n ∧ a = nI j) (H : post 0) : wpX_within post u a 0 hi := by
  refine rd_x_within (fun a1 a2 => absurd ?_ no) (fun _ => H)
  obtain ⟨j, hj, e⟩ := nI_of (Int32.not_lt.mpr a1)
  refine ⟨j, ?_, e⟩
  rw [e, hh] at a2
  cases n with
  | zero =>
    rw [Int32.le_iff_toInt_le, nI_toInt hj] at a2
    have : (nI 0 - 1).toInt = -1 := by decide
    omega
  | succ m =>
    rw [nI_pred, nI_leI hj (by omega)] at a2
    omega
theorem rd_y_w1 {post : Int32 → Prop} {j n : Nat} {hi : Int32} (hj : j < n) (hn : n < 1000) (hh : hi = nI n) (H : post 1) : wpY_in post (nI j) hi := by
  rw [hh]
  exact br_f (nI_pos (by omega)) (br_f (nI_ge hj (by omega)) H)
theorem rd_y_w0 {post : Int32 → Prop} {n : Nat} {a hi : Int32} (hn : n < 1000) (hh : hi = nI n) (no : ¬ ∃ j, j < n ∧ a = nI j) (H : post 0) : wpY_in post a hi := by
  refine br_c (fun _ => H) (fun z => br_t ?_ H)
  obtain ⟨j, hj, e⟩ := nI_of z
  rw [hh, e]
  exact nI_le (Nat.le_of_not_lt (fun y => no ⟨j, y, e⟩)) hj
theorem i_vc_task {k : Nat} {u : SX} {v : SY} (I : i_Rel k u v) (hk : k + 5 ≤ 2560) (v1 : Int32) (v2 : Int32) : wpX_task (fun r => wpY_task (fun r' => r' = r ∧ i_Rel (k + 5) u v) v v1 v2) u v1 v2 := by
  have I' : i_Rel (k + 5) u v := I
  obtain ⟨n, A, w, Q, hG, hN, hw, hQ, n9, ⟨ra, qa, ql, rfl, hx⟩, ra', qa', wq, am, rz, ob, fr, st, bl, rfl, hr, h2, h3, h9⟩ := I
  have hn := hN.2
  unfold wpX_task
  by_cases e : ∃ t, t < n ∧ v1 = nI t
  · obtain ⟨t, ht, rfl⟩ := e
    have ct : (nI t).toNatClampNeg = t := nI_clamp (by omega)
    have i8 : vp_in (nI t) 8 := vp_in_nI (by omega) (by omega)
    have es : st t = A 4 t := by rw [h9 t]; exact rd_cv_n (n9 t ht)
    refine rd_x_w1 ht (by omega) (by rw [hN.1]) (br_f (by decide) ?_)
    refine br_c (fun y => by show wpY_task _ _ _ _; unfold wpY_task; exact rd_y_w1 ht (by omega) hN.1 (br_f (by decide) (br_t y ⟨rfl, I'⟩))) (fun y => br_c (fun x => by show wpY_task _ _ _ _; unfold wpY_task; exact rd_y_w1 ht (by omega) hN.1 (br_f (by decide) (br_f y (br_t x ⟨rfl, I'⟩)))) (fun x => ?_))
    refine br_c (fun e0 => ⟨i8, by show wpY_task _ _ _ _; unfold wpY_task; exact rd_y_w1 ht (by omega) hN.1 (br_f (by decide) (br_f y (br_f x (br_t e0 ⟨i8, by rw [ct]; exact es, I'⟩))))⟩) (fun e0 => ?_)
    refine br_c (fun e1 => ⟨i8, by show wpY_task _ _ _ _; unfold wpY_task; exact rd_y_w1 ht (by omega) hN.1 (br_f (by decide) (br_f y (br_f x (br_f e0 (br_t e1 ⟨i8, rfl, I'⟩)))))⟩) (fun e1 => ?_)
    refine br_c (fun e2 => ⟨i8, by show wpY_task _ _ _ _; unfold wpY_task; exact rd_y_w1 ht (by omega) hN.1 (br_f (by decide) (br_f y (br_f x (br_f e0 (br_f e1 (br_t e2 ⟨i8, rfl, I'⟩))))))⟩) (fun e2 => ?_)
    refine br_c (fun e3 => ⟨i8, by show wpY_task _ _ _ _; unfold wpY_task; exact rd_y_w1 ht (by omega) hN.1 (br_f (by decide) (br_f y (br_f x (br_f e0 (br_f e1 (br_f e2 (br_t e3 ⟨i8, rfl, I'⟩)))))))⟩) (fun e3 => ?_)
    refine br_c (fun e4 => ⟨i8, by show wpY_task _ _ _ _; unfold wpY_task; exact rd_y_w1 ht (by omega) hN.1 (br_f (by decide) (br_f y (br_f x (br_f e0 (br_f e1 (br_f e2 (br_f e3 (br_t e4 ⟨i8, rfl, I'⟩))))))))⟩) (fun e4 => ?_)
    refine br_c (fun e5 => ⟨i8, by show wpY_task _ _ _ _; unfold wpY_task; exact rd_y_w1 ht (by omega) hN.1 (br_f (by decide) (br_f y (br_f x (br_f e0 (br_f e1 (br_f e2 (br_f e3 (br_f e4 (br_t e5 ⟨i8, rfl, I'⟩)))))))))⟩) (fun e5 => ?_)
    refine br_c (fun e6 => ⟨i8, by show wpY_task _ _ _ _; unfold wpY_task; exact rd_y_w1 ht (by omega) hN.1 (br_f (by decide) (br_f y (br_f x (br_f e0 (br_f e1 (br_f e2 (br_f e3 (br_f e4 (br_f e5 (br_t e6 ⟨i8, rfl, I'⟩))))))))))⟩) (fun e6 => ?_)
    refine br_c (fun e7 => ⟨i8, by show wpY_task _ _ _ _; unfold wpY_task; exact rd_y_w1 ht (by omega) hN.1 (br_f (by decide) (br_f y (br_f x (br_f e0 (br_f e1 (br_f e2 (br_f e3 (br_f e4 (br_f e5 (br_f e6 (br_t e7 ⟨i8, rfl, I'⟩)))))))))))⟩) (fun e7 => ?_)
    trivial
  · exact rd_x_w0 (n := n) (by omega) (by rw [hN.1]) e (br_t rfl (by show wpY_task _ _ _ _; unfold wpY_task; exact rd_y_w0 (n := n) (by omega) hN.1 e (br_t rfl ⟨rfl, I'⟩)))
theorem i_vc_queued {k : Nat} {u : SX} {v : SY} (I : i_Rel k u v) (hk : k + 5 ≤ 2560) (v1 : Int32) (v2 : Int32) (v3 : Int32) : wpX_queued (fun r => wpY_queued (fun r' => r' = r ∧ i_Rel (k + 5) u v) v v1 v2 v3) u v1 v2 v3 := by
  have I' : i_Rel (k + 5) u v := I
  obtain ⟨n, A, w, Q, hG, hN, hw, hQ, n9, ⟨ra, qa, ql, rfl, hx⟩, ra', qa', wq, am, rz, ob, fr, st, bl, rfl, hr, h2, h3, h9⟩ := I
  have hn := hN.2
  unfold wpX_queued
  by_cases e : ∃ t, t < n ∧ v1 = nI t
  · obtain ⟨t, ht, rfl⟩ := e
    refine rd_x_w1 ht (by omega) (by rw [hN.1]) (br_f (by decide) ?_)
    by_cases e : ∃ t, t < 3 ∧ v2 = nI t
    · obtain ⟨m, hm, rfl⟩ := e
      have ix : nI t * 3 + nI m = nI (t * 3 + m) := rd_ix' 3 m t _ rfl
      have iy : 3 * nI t + nI m = nI (t * 3 + m) := rd_ix 3 m t _ rfl
      have cq : (nI (t * 3 + m)).toNatClampNeg = t * 3 + m := nI_clamp (by omega)
      have i24 : vp_in (nI (t * 3 + m)) 24 := vp_in_nI (by omega) (by omega)
      obtain ⟨lx, vx⟩ := hx.2 (t * 3 + m) (by omega)
      obtain ⟨ly, vy⟩ := h3 (t * 3 + m) (by omega)
      have l8 := hQ (t * 3 + m)
      refine rd_x_w1 (n := 3) hm (by omega) (by decide) (br_f (by decide) (nm_r ix ⟨i24, ?_⟩))
      rw [cq]
      by_cases e : ∃ i, i < (Q (t * 3 + m)).length ∧ v3 = nI i
      · obtain ⟨i, hi, rfl⟩ := e
        have jx : nI (t * 3 + m) * 8 + nI i = nI ((t * 3 + m) * 8 + i) := rd_ix' 8 i (t * 3 + m) _ rfl
        have jy : 8 * nI (t * 3 + m) + nI i = nI ((t * 3 + m) * 8 + i) := rd_ix 8 i (t * 3 + m) _ rfl
        have cj : (nI ((t * 3 + m) * 8 + i)).toNatClampNeg = (t * 3 + m) * 8 + i := nI_clamp (by omega)
        have i192 : vp_in (nI ((t * 3 + m) * 8 + i)) 192 := vp_in_nI (by omega) (by omega)
        have g := List.getElem?_eq_getElem hi
        have gx := rd_LV_get vx g
        have gy := rd_LV_get vy g
        rw [Nat.mul_comm 8] at gx gy
        refine rd_x_w1 hi (by omega) (by rw [lx]) (br_f (by decide) ?_)
        rw [jx, cj]
        refine ⟨i192, ?_⟩
        show wpY_queued _ _ _ _ _
        unfold wpY_queued
        refine rd_y_w1 ht (by omega) hN.1 (br_f (by decide) (rd_y_w1 (n := 3) hm (by omega) rfl (br_f (by decide) ?_)))
        rw [iy, cq]
        refine ⟨i24, rd_y_w1 hi (by omega) ly (br_f (by decide) ?_)⟩
        rw [jy, cj]
        exact ⟨i192, gy.trans gx.symm, I'⟩
      · refine rd_x_w0 (n := (Q (t * 3 + m)).length) (by omega) (by rw [lx]) e (br_t rfl ?_)
        show wpY_queued _ _ _ _ _
        unfold wpY_queued
        refine rd_y_w1 ht (by omega) hN.1 (br_f (by decide) (rd_y_w1 (n := 3) hm (by omega) rfl (br_f (by decide) ?_)))
        rw [iy, cq]
        exact ⟨i24, rd_y_w0 (by omega) ly e (br_t rfl ⟨rfl, I'⟩)⟩
    · exact rd_x_w0 (n := 3) (by omega) (by decide) e (br_t rfl (by show wpY_queued _ _ _ _ _; unfold wpY_queued; exact rd_y_w1 ht (by omega) hN.1 (br_f (by decide) (rd_y_w0 (n := 3) (by omega) rfl e (br_t rfl ⟨rfl, I'⟩)))))
  · exact rd_x_w0 (n := n) (by omega) (by rw [hN.1]) e (br_t rfl (by show wpY_queued _ _ _ _ _; unfold wpY_queued; exact rd_y_w0 (n := n) (by omega) hN.1 e (br_t rfl ⟨rfl, I'⟩)))
theorem i_vc_noted {k : Nat} {u : SX} {v : SY} (I : i_Rel k u v) (hk : k + 5 ≤ 2560) (v1 : Int32) (v2 : Int32) : wpX_noted (fun r => wpY_noted (fun r' => r' = r ∧ i_Rel (k + 5) u v) v v1 v2) u v1 v2 := by
  have I' : i_Rel (k + 5) u v := I
  obtain ⟨n, A, w, Q, hG, hN, hw, hQ, n9, ⟨ra, qa, ql, rfl, hx⟩, ra', qa', wq, am, rz, ob, fr, st, bl, rfl, hr, h2, h3, h9⟩ := I
  unfold wpX_noted
  by_cases e : ∃ j, j < 60 ∧ v1 = nI j
  · obtain ⟨j, hj, rfl⟩ := e
    have i60 : vp_in (nI j) 60 := vp_in_nI hj (by omega)
    refine rd_x_w1 (n := 60) hj (by omega) (by decide) (br_f (by decide) ?_)
    have yy : ∀ {post : Int32 → Prop}, nI j < A 25 0 → ((v2 = 0 → post (A 21 (nI j).toNatClampNeg)) ∧ (v2 ≠ 0 → (v2 = 1 → post (A 22 (nI j).toNatClampNeg)) ∧ (v2 ≠ 1 → post 0))) → wpY_noted post (rd_tY A (nI w.length) ra' qa' wq am rz ob fr st bl) (nI j) v2 := by
      intro post hl H
      have H' : ((1 : Int32) = 0 → post 0) ∧ (¬ (1 : Int32) = 0 → (v2 = 0 → vp_in (nI j) 60 ∧ post (A 21 (nI j).toNatClampNeg)) ∧ (¬ v2 = 0 → (v2 = 1 → vp_in (nI j) 60 ∧ post (A 22 (nI j).toNatClampNeg)) ∧ (¬ v2 = 1 → post 0))) := br_f (by decide) ⟨fun a => ⟨i60, H.1 a⟩, fun a => ⟨fun b => ⟨i60, (H.2 a).1 b⟩, fun b => (H.2 a).2 b⟩⟩
      exact br_c (fun _ => rd_y_w1 (n := 60) hj (by omega) rfl H') (fun _ => br_f (nI_pos (by omega)) (br_f (Int32.not_le.mpr hl) H'))
    refine br_c (fun hl => br_c (fun a => ⟨i60, yy hl ⟨fun _ => ⟨rfl, I'⟩, fun z => absurd a z⟩⟩) (fun a => br_c (fun b => ⟨i60, yy hl ⟨fun z => absurd z a, fun _ => ⟨fun _ => ⟨rfl, I'⟩, fun z => absurd b z⟩⟩⟩) (fun b => yy hl ⟨fun z => absurd z a, fun _ => ⟨fun z => absurd z b, fun _ => ⟨rfl, I'⟩⟩⟩))) (fun hl => ?_)
    refine br_f (fun z => hl ?_) (br_f (nI_pos (by omega)) (br_t (Int32.not_lt.mp hl) (br_t rfl ⟨rfl, I'⟩)))
    exact Int32.lt_of_lt_of_le (nI_lt (b := 60) hj (by omega)) z
  · refine rd_x_w0 (n := 60) (by omega) (by decide) e (br_t rfl (br_c (fun _ => rd_y_w0 (n := 60) (by omega) rfl e (br_t rfl ⟨rfl, I'⟩)) (fun z => br_c (fun _ => br_t rfl ⟨rfl, I'⟩) (fun y => br_t ?_ (br_t rfl ⟨rfl, I'⟩)))))
    obtain ⟨j, hj, ej⟩ := nI_of y
    have : (60 : Int32) ≤ v1 := by rw [ej]; exact nI_le (a := 60) (Nat.le_of_not_lt (fun x => e ⟨j, x, ej⟩)) hj
    exact Int32.le_of_lt (Int32.lt_of_lt_of_le (Int32.not_le.mp z) this)
theorem i_vc_ready {k : Nat} {u : SX} {v : SY} (I : i_Rel k u v) (hk : k + 5 ≤ 2560) (v1 : Int32) : wpX_ready (fun r => wpY_ready (fun r' => r' = r ∧ i_Rel (k + 5) u v) v v1) u v1 := by
  have I' : i_Rel (k + 5) u v := I
  obtain ⟨n, A, w, Q, hG, hN, hw, hQ, n9, ⟨ra, qa, ql, rfl, hx⟩, ra', qa', wq, am, rz, ob, fr, st, bl, rfl, hr, h2, h3, h9⟩ := I
  unfold wpX_ready
  by_cases e : ∃ j, j < w.length ∧ v1 = nI j
  · obtain ⟨j, hj, rfl⟩ := e
    have cj : (nI j).toNatClampNeg = j := nI_clamp (by omega)
    have i8 : vp_in (nI j) 8 := vp_in_nI (by omega) (by omega)
    have g := List.getElem?_eq_getElem hj
    have gx := rd_LV_get hx.1 g
    have gy := rd_LV_get hr g
    rw [Nat.zero_add] at gx gy
    refine rd_x_w1 hj (by omega) rfl (br_f (by decide) ⟨i8, ?_⟩)
    show wpY_ready _ _ _
    unfold wpY_ready
    refine rd_y_w1 hj (by omega) rfl (br_f (by decide) ⟨i8, ?_, I'⟩)
    rw [cj]
    exact gy.trans gx.symm
  · exact rd_x_w0 (by omega) rfl e (br_t rfl (by show wpY_ready _ _ _; unfold wpY_ready; exact rd_y_w0 (by omega) rfl e (br_t rfl ⟨rfl, I'⟩)))
end
section
/-! clear, add -/
theorem i_vc_clear {k : Nat} {u : SX} {v : SY} (I : i_Rel k u v) (hk : k + 5 ≤ 2560) (v1 : Int32) : wpX_clear (fun r u' => wpY_clear (fun r' v' => r' = r ∧ i_Rel (k + 5) u' v') v v1) u v1 := by
  have I' : i_Rel (k + 5) u v := I
  obtain ⟨n, A, w, Q, hG, hN, hw, hQ, n9, ⟨ra, qa, ql, rfl, hx⟩, ra', qa', wq, am, rz, ob, fr, st, bl, rfl, hr, h2, h3, h9⟩ := I
  unfold wpX_clear
  by_cases e : ∃ t, t < 4 ∧ v1 = nI t
  · obtain ⟨t, ht, rfl⟩ := e
    have ct : (nI t).toNatClampNeg = t := nI_clamp (by omega)
    have i4 : vp_in (nI t) 4 := vp_in_nI ht (by omega)
    refine rd_x_w1 (n := 4) ht (by omega) (by decide) (br_f (by decide) ⟨i4, nm_r (e' := A 3 t) (by rw [ct]) ⟨i4, nm_r (e' := upd (A 3) t 0) (by rw [ct]) ?_⟩⟩)
    show wpY_clear _ _ _
    unfold wpY_clear
    refine rd_y_w1 (n := 4) ht (by omega) rfl (br_f (by decide) ⟨i4, nm_r (e' := A 3 t) (by rw [ct]) ⟨i4, nm_r (e' := upd (A 3) t 0) (by rw [ct]) ?_⟩⟩)
    exact ⟨rfl, n, rd_sw A  3 t 0, w, Q, ⟨rd_rng_u (j := 0) hG.1 (by omega), hG.2⟩, hN, hw, hQ, n9, ⟨ra, qa, ql, rfl, hx⟩, ra', qa', wq, am, rz, ob, fr, st, bl, rfl, hr, h2, h3, h9⟩
  · exact rd_x_w0 (n := 4) (by omega) (by decide) e (br_t rfl (by show wpY_clear _ _ _; unfold wpY_clear; exact rd_y_w0 (n := 4) (by omega) rfl e (br_t rfl ⟨rfl, I'⟩)))
theorem rd_x_fits0 {post : Int32 → Prop} {A : rd_St} {rl : Int32} {ra qa ql : Nat → Int32} {o a b : Int32} (no : ¬ ∃ j, j < 26 ∧ o = nI j) (H : post 0) : wpX_fits post (rd_tX A rl ra qa ql) o a b := by
  unfold wpX_fits
  refine br_c (fun _ => rd_x_w0 (n := 26) (by omega) (by decide) no ⟨rfl, H⟩) (fun y => br_c (fun _ => rd_x_w0 (n := 26) (by omega) (by decide) no ⟨rfl, H⟩) (fun z => absurd ?_ no))
  have y1 := Int32.not_lt.mp y
  have z1 := Int32.not_lt.mp z
  rw [Int32.le_iff_toInt_le] at y1 z1
  have e1 : (4 : Int32).toInt = 4 := by decide
  have e2 : (24 : Int32).toInt = 24 := by decide
  have e0 : (0 : Int32).toInt = 0 := by decide
  obtain ⟨j, hj, ej⟩ := nI_of (x := o) (by rw [Int32.lt_iff_toInt_lt]; omega)
  rw [ej, nI_toInt hj] at y1 z1
  exact ⟨j, by omega, ej⟩
def rd_FTS (o a b : Int32) : Prop := ∃ r : Int32, (r = 1 ∧ rd_fit o a b ∨ r = 0) ∧ (∀ (post : Int32 → Prop) (A : rd_St) (rl : Int32) (ra qa ql : Nat → Int32), post r → wpX_fits post (rd_tX A rl ra qa ql) o a b) ∧ (∀ post : Int32 → Prop, post r → wpY_fits post o a b)
theorem rd_fts0 (a b : Int32) : rd_FTS 0 a b := by
  exact ⟨1, Or.inl ⟨rfl, ⟨⟨0, by omega, rfl⟩, fun h => absurd h (by decide), fun h => absurd h (by decide), fun h => absurd h (by decide), fun h => absurd h (by decide), fun h => absurd h (by decide), fun h => absurd h (by decide), fun h => absurd h (by decide), fun h => absurd h (by decide)⟩⟩, fun post A rl ra qa ql H => by unfold wpX_fits; exact br_t (by decide) (rd_x_w1 (j := 0) (n := 26) (by omega) (by omega) (by decide) ⟨rfl, H⟩), fun post H => by unfold wpY_fits; exact br_f (by decide) (br_f (by decide) (br_f (by decide) (br_f (by decide) (br_f (by decide) (br_f (by decide) (br_f (by decide) (br_f (by decide) (br_f (by decide) (br_f (by decide) (br_f (by decide) (br_f (by decide) (br_f (by decide) (br_f (by decide) (br_f (by decide) (H)))))))))))))))⟩
theorem rd_fts1 (a b : Int32) : rd_FTS 1 a b := by
  exact ⟨1, Or.inl ⟨rfl, ⟨⟨1, by omega, rfl⟩, fun h => absurd h (by decide), fun h => absurd h (by decide), fun h => absurd h (by decide), fun h => absurd h (by decide), fun h => absurd h (by decide), fun h => absurd h (by decide), fun h => absurd h (by decide), fun h => absurd h (by decide)⟩⟩, fun post A rl ra qa ql H => by unfold wpX_fits; exact br_t (by decide) (rd_x_w1 (j := 1) (n := 26) (by omega) (by omega) (by decide) ⟨rfl, H⟩), fun post H => by unfold wpY_fits; exact br_f (by decide) (br_f (by decide) (br_f (by decide) (br_f (by decide) (br_f (by decide) (br_f (by decide) (br_f (by decide) (br_f (by decide) (br_f (by decide) (br_f (by decide) (br_f (by decide) (br_f (by decide) (br_f (by decide) (br_f (by decide) (br_f (by decide) (H)))))))))))))))⟩
theorem rd_fts2 (a b : Int32) : rd_FTS 2 a b := by
  exact ⟨1, Or.inl ⟨rfl, ⟨⟨2, by omega, rfl⟩, fun h => absurd h (by decide), fun h => absurd h (by decide), fun h => absurd h (by decide), fun h => absurd h (by decide), fun h => absurd h (by decide), fun h => absurd h (by decide), fun h => absurd h (by decide), fun h => absurd h (by decide)⟩⟩, fun post A rl ra qa ql H => by unfold wpX_fits; exact br_t (by decide) (rd_x_w1 (j := 2) (n := 26) (by omega) (by omega) (by decide) ⟨rfl, H⟩), fun post H => by unfold wpY_fits; exact br_f (by decide) (br_f (by decide) (br_f (by decide) (br_f (by decide) (br_f (by decide) (br_f (by decide) (br_f (by decide) (br_f (by decide) (br_f (by decide) (br_f (by decide) (br_f (by decide) (br_f (by decide) (br_f (by decide) (br_f (by decide) (br_f (by decide) (H)))))))))))))))⟩
theorem rd_fts3 (a b : Int32) : rd_FTS 3 a b := by
  exact ⟨1, Or.inl ⟨rfl, ⟨⟨3, by omega, rfl⟩, fun h => absurd h (by decide), fun h => absurd h (by decide), fun h => absurd h (by decide), fun h => absurd h (by decide), fun h => absurd h (by decide), fun h => absurd h (by decide), fun h => absurd h (by decide), fun h => absurd h (by decide)⟩⟩, fun post A rl ra qa ql H => by unfold wpX_fits; exact br_t (by decide) (rd_x_w1 (j := 3) (n := 26) (by omega) (by omega) (by decide) ⟨rfl, H⟩), fun post H => by unfold wpY_fits; exact br_f (by decide) (br_f (by decide) (br_f (by decide) (br_f (by decide) (br_f (by decide) (br_f (by decide) (br_f (by decide) (br_f (by decide) (br_f (by decide) (br_f (by decide) (br_f (by decide) (br_f (by decide) (br_f (by decide) (br_f (by decide) (br_f (by decide) (H)))))))))))))))⟩
theorem rd_fts4 (a b : Int32) : rd_FTS 4 a b := by
  by_cases h : ∃ j, j < 21 ∧ a = nI j
  · obtain ⟨j, hj, rfl⟩ := h
    exact ⟨1, Or.inl ⟨rfl, ⟨⟨4, by omega, rfl⟩, fun _ => ⟨j, by omega, rfl⟩, fun h => absurd h (by decide), fun h => absurd h (by decide), fun h => absurd h (by decide), fun h => absurd h (by decide), fun h => absurd h (by decide), fun h => absurd h (by decide), fun h => absurd h (by decide)⟩⟩, fun post A rl ra qa ql H => by unfold wpX_fits; exact br_f (by decide) (br_f (by decide) (br_t rfl (rd_x_w1 (n := 21) hj (by omega) (by decide) ⟨rfl, H⟩))), fun post H => by unfold wpY_fits; exact br_t rfl (rd_y_w1 (n := 21) hj (by omega) rfl ⟨rfl, H⟩)⟩
  · exact ⟨0, Or.inr rfl, fun post A rl ra qa ql H => by unfold wpX_fits; exact br_f (by decide) (br_f (by decide) (br_t rfl (rd_x_w0 (n := 21) (by omega) (by decide) h ⟨rfl, H⟩))), fun post H => by unfold wpY_fits; exact br_t rfl (rd_y_w0 (n := 21) (by omega) rfl h ⟨rfl, H⟩)⟩
theorem rd_fts5 (a b : Int32) : rd_FTS 5 a b := by
  by_cases h : ∃ j, j < 21 ∧ a = nI j
  · obtain ⟨j, hj, rfl⟩ := h
    exact ⟨1, Or.inl ⟨rfl, ⟨⟨5, by omega, rfl⟩, fun _ => ⟨j, by omega, rfl⟩, fun h => absurd h (by decide), fun h => absurd h (by decide), fun h => absurd h (by decide), fun h => absurd h (by decide), fun h => absurd h (by decide), fun h => absurd h (by decide), fun h => absurd h (by decide)⟩⟩, fun post A rl ra qa ql H => by unfold wpX_fits; exact br_f (by decide) (br_f (by decide) (br_f (by decide) (br_t rfl (rd_x_w1 (n := 21) hj (by omega) (by decide) ⟨rfl, H⟩)))), fun post H => by unfold wpY_fits; exact br_f (by decide) (br_t rfl (rd_y_w1 (n := 21) hj (by omega) rfl ⟨rfl, H⟩))⟩
  · exact ⟨0, Or.inr rfl, fun post A rl ra qa ql H => by unfold wpX_fits; exact br_f (by decide) (br_f (by decide) (br_f (by decide) (br_t rfl (rd_x_w0 (n := 21) (by omega) (by decide) h ⟨rfl, H⟩)))), fun post H => by unfold wpY_fits; exact br_f (by decide) (br_t rfl (rd_y_w0 (n := 21) (by omega) rfl h ⟨rfl, H⟩))⟩
theorem rd_fts6 (a b : Int32) : rd_FTS 6 a b := by
  by_cases h : ∃ j, j < 4 ∧ a = nI j
  · obtain ⟨j, hj, rfl⟩ := h
    exact ⟨1, Or.inl ⟨rfl, ⟨⟨6, by omega, rfl⟩, fun h => absurd h (by decide), fun _ => ⟨j, by omega, rfl⟩, fun h => absurd h (by decide), fun h => absurd h (by decide), fun h => absurd h (by decide), fun h => absurd h (by decide), fun h => absurd h (by decide), fun h => absurd h (by decide)⟩⟩, fun post A rl ra qa ql H => by unfold wpX_fits; exact br_f (by decide) (br_f (by decide) (br_f (by decide) (br_f (by decide) (br_t rfl (rd_x_w1 (n := 4) hj (by omega) (by decide) ⟨rfl, H⟩))))), fun post H => by unfold wpY_fits; exact br_f (by decide) (br_f (by decide) (br_f (by decide) (br_f (by decide) (br_f (by decide) (br_t rfl (rd_y_w1 (n := 4) hj (by omega) rfl ⟨rfl, H⟩))))))⟩
  · exact ⟨0, Or.inr rfl, fun post A rl ra qa ql H => by unfold wpX_fits; exact br_f (by decide) (br_f (by decide) (br_f (by decide) (br_f (by decide) (br_t rfl (rd_x_w0 (n := 4) (by omega) (by decide) h ⟨rfl, H⟩))))), fun post H => by unfold wpY_fits; exact br_f (by decide) (br_f (by decide) (br_f (by decide) (br_f (by decide) (br_f (by decide) (br_t rfl (rd_y_w0 (n := 4) (by omega) rfl h ⟨rfl, H⟩))))))⟩
theorem rd_fts7 (a b : Int32) : rd_FTS 7 a b := by
  exact ⟨1, Or.inl ⟨rfl, ⟨⟨7, by omega, rfl⟩, fun h => absurd h (by decide), fun h => absurd h (by decide), fun h => absurd h (by decide), fun h => absurd h (by decide), fun h => absurd h (by decide), fun h => absurd h (by decide), fun h => absurd h (by decide), fun h => absurd h (by decide)⟩⟩, fun post A rl ra qa ql H => by unfold wpX_fits; exact br_f (by decide) (br_f (by decide) (br_f (by decide) (br_f (by decide) (br_f (by decide) (br_t rfl (rd_x_w1 (j := 7) (n := 26) (by omega) (by omega) (by decide) ⟨rfl, H⟩)))))), fun post H => by unfold wpY_fits; exact br_f (by decide) (br_f (by decide) (br_f (by decide) (br_f (by decide) (br_f (by decide) (br_f (by decide) (br_f (by decide) (br_f (by decide) (br_f (by decide) (br_f (by decide) (br_f (by decide) (br_f (by decide) (br_f (by decide) (br_f (by decide) (br_f (by decide) (H)))))))))))))))⟩
theorem rd_fts8 (a b : Int32) : rd_FTS 8 a b := by
  exact ⟨1, Or.inl ⟨rfl, ⟨⟨8, by omega, rfl⟩, fun h => absurd h (by decide), fun h => absurd h (by decide), fun h => absurd h (by decide), fun h => absurd h (by decide), fun h => absurd h (by decide), fun h => absurd h (by decide), fun h => absurd h (by decide), fun h => absurd h (by decide)⟩⟩, fun post A rl ra qa ql H => by unfold wpX_fits; exact br_f (by decide) (br_f (by decide) (br_f (by decide) (br_f (by decide) (br_f (by decide) (br_f (by decide) (br_t rfl (rd_x_w1 (j := 8) (n := 26) (by omega) (by omega) (by decide) ⟨rfl, H⟩))))))), fun post H => by unfold wpY_fits; exact br_f (by decide) (br_f (by decide) (br_f (by decide) (br_f (by decide) (br_f (by decide) (br_f (by decide) (br_f (by decide) (br_f (by decide) (br_f (by decide) (br_f (by decide) (br_f (by decide) (br_f (by decide) (br_f (by decide) (br_f (by decide) (br_f (by decide) (H)))))))))))))))⟩
theorem rd_fts9 (a b : Int32) : rd_FTS 9 a b := by
  by_cases h : ∃ j, j < 8 ∧ a = nI j
  · obtain ⟨j, hj, rfl⟩ := h
    by_cases h : ∃ j, j < 3 ∧ b = nI j
    · obtain ⟨i, hi, rfl⟩ := h
      exact ⟨1, Or.inl ⟨rfl, ⟨⟨9, by omega, rfl⟩, fun h => absurd h (by decide), fun h => absurd h (by decide), fun _ => ⟨⟨j, by omega, rfl⟩, ⟨i, by omega, rfl⟩⟩, fun h => absurd h (by decide), fun h => absurd h (by decide), fun h => absurd h (by decide), fun h => absurd h (by decide), fun h => absurd h (by decide)⟩⟩, fun post A rl ra qa ql H => by unfold wpX_fits; exact br_f (by decide) (br_f (by decide) (br_f (by decide) (br_f (by decide) (br_f (by decide) (br_f (by decide) (br_f (by decide) (br_t rfl (rd_x_w1 (n := 8) hj (by omega) (by decide) (br_f (by decide) (rd_x_w1 (n := 3) hi (by omega) (by decide) (br_f (by decide) H))))))))))), fun post H => by unfold wpY_fits; exact br_f (by decide) (br_f (by decide) (br_f (by decide) (br_f (by decide) (br_f (by decide) (br_f (by decide) (br_t rfl (rd_y_w1 (n := 8) hj (by omega) rfl (br_f (by decide) (rd_y_w1 (n := 3) hi (by omega) rfl (br_f (by decide) H))))))))))⟩
    · exact ⟨0, Or.inr rfl, fun post A rl ra qa ql H => by unfold wpX_fits; exact br_f (by decide) (br_f (by decide) (br_f (by decide) (br_f (by decide) (br_f (by decide) (br_f (by decide) (br_f (by decide) (br_t rfl (rd_x_w1 (n := 8) hj (by omega) (by decide) (br_f (by decide) (rd_x_w0 (n := 3) (by omega) (by decide) h (br_t rfl H))))))))))), fun post H => by unfold wpY_fits; exact br_f (by decide) (br_f (by decide) (br_f (by decide) (br_f (by decide) (br_f (by decide) (br_f (by decide) (br_t rfl (rd_y_w1 (n := 8) hj (by omega) rfl (br_f (by decide) (rd_y_w0 (n := 3) (by omega) rfl h (br_t rfl H))))))))))⟩
  · exact ⟨0, Or.inr rfl, fun post A rl ra qa ql H => by unfold wpX_fits; exact br_f (by decide) (br_f (by decide) (br_f (by decide) (br_f (by decide) (br_f (by decide) (br_f (by decide) (br_f (by decide) (br_t rfl (rd_x_w0 (n := 8) (by omega) (by decide) h (br_t rfl H))))))))), fun post H => by unfold wpY_fits; exact br_f (by decide) (br_f (by decide) (br_f (by decide) (br_f (by decide) (br_f (by decide) (br_f (by decide) (br_t rfl (rd_y_w0 (n := 8) (by omega) rfl h (br_t rfl H))))))))⟩
theorem rd_fts10 (a b : Int32) : rd_FTS 10 a b := by
  by_cases h : ∃ j, j < 100 ∧ a = nI j
  · obtain ⟨j, hj, rfl⟩ := h
    exact ⟨1, Or.inl ⟨rfl, ⟨⟨10, by omega, rfl⟩, fun h => absurd h (by decide), fun h => absurd h (by decide), fun h => absurd h (by decide), fun h => absurd h (by decide), fun _ => ⟨j, by omega, rfl⟩, fun h => absurd h (by decide), fun h => absurd h (by decide), fun h => absurd h (by decide)⟩⟩, fun post A rl ra qa ql H => by unfold wpX_fits; exact br_f (by decide) (br_f (by decide) (br_f (by decide) (br_f (by decide) (br_f (by decide) (br_f (by decide) (br_f (by decide) (br_f (by decide) (br_t rfl (rd_x_w1 (n := 100) hj (by omega) (by decide) ⟨rfl, H⟩))))))))), fun post H => by unfold wpY_fits; exact br_f (by decide) (br_f (by decide) (br_f (by decide) (br_f (by decide) (br_f (by decide) (br_f (by decide) (br_f (by decide) (br_f (by decide) (br_t rfl (rd_y_w1 (n := 100) hj (by omega) rfl ⟨rfl, H⟩)))))))))⟩
  · exact ⟨0, Or.inr rfl, fun post A rl ra qa ql H => by unfold wpX_fits; exact br_f (by decide) (br_f (by decide) (br_f (by decide) (br_f (by decide) (br_f (by decide) (br_f (by decide) (br_f (by decide) (br_f (by decide) (br_t rfl (rd_x_w0 (n := 100) (by omega) (by decide) h ⟨rfl, H⟩))))))))), fun post H => by unfold wpY_fits; exact br_f (by decide) (br_f (by decide) (br_f (by decide) (br_f (by decide) (br_f (by decide) (br_f (by decide) (br_f (by decide) (br_f (by decide) (br_t rfl (rd_y_w0 (n := 100) (by omega) rfl h ⟨rfl, H⟩)))))))))⟩
theorem rd_fts11 (a b : Int32) : rd_FTS 11 a b := by
  by_cases h : ∃ j, j < 8 ∧ a = nI j
  · obtain ⟨j, hj, rfl⟩ := h
    by_cases h : ∃ j, j < 3 ∧ b = nI j
    · obtain ⟨i, hi, rfl⟩ := h
      exact ⟨1, Or.inl ⟨rfl, ⟨⟨11, by omega, rfl⟩, fun h => absurd h (by decide), fun h => absurd h (by decide), fun _ => ⟨⟨j, by omega, rfl⟩, ⟨i, by omega, rfl⟩⟩, fun h => absurd h (by decide), fun h => absurd h (by decide), fun h => absurd h (by decide), fun h => absurd h (by decide), fun h => absurd h (by decide)⟩⟩, fun post A rl ra qa ql H => by unfold wpX_fits; exact br_f (by decide) (br_f (by decide) (br_f (by decide) (br_f (by decide) (br_f (by decide) (br_f (by decide) (br_f (by decide) (br_f (by decide) (br_f (by decide) (br_t rfl (rd_x_w1 (n := 8) hj (by omega) (by decide) (br_f (by decide) (rd_x_w1 (n := 3) hi (by omega) (by decide) (br_f (by decide) H))))))))))))), fun post H => by unfold wpY_fits; exact br_f (by decide) (br_f (by decide) (br_f (by decide) (br_f (by decide) (br_f (by decide) (br_f (by decide) (br_f (by decide) (br_t rfl (rd_y_w1 (n := 8) hj (by omega) rfl (br_f (by decide) (rd_y_w1 (n := 3) hi (by omega) rfl (br_f (by decide) H)))))))))))⟩
    · exact ⟨0, Or.inr rfl, fun post A rl ra qa ql H => by unfold wpX_fits; exact br_f (by decide) (br_f (by decide) (br_f (by decide) (br_f (by decide) (br_f (by decide) (br_f (by decide) (br_f (by decide) (br_f (by decide) (br_f (by decide) (br_t rfl (rd_x_w1 (n := 8) hj (by omega) (by decide) (br_f (by decide) (rd_x_w0 (n := 3) (by omega) (by decide) h (br_t rfl H))))))))))))), fun post H => by unfold wpY_fits; exact br_f (by decide) (br_f (by decide) (br_f (by decide) (br_f (by decide) (br_f (by decide) (br_f (by decide) (br_f (by decide) (br_t rfl (rd_y_w1 (n := 8) hj (by omega) rfl (br_f (by decide) (rd_y_w0 (n := 3) (by omega) rfl h (br_t rfl H)))))))))))⟩
  · exact ⟨0, Or.inr rfl, fun post A rl ra qa ql H => by unfold wpX_fits; exact br_f (by decide) (br_f (by decide) (br_f (by decide) (br_f (by decide) (br_f (by decide) (br_f (by decide) (br_f (by decide) (br_f (by decide) (br_f (by decide) (br_t rfl (rd_x_w0 (n := 8) (by omega) (by decide) h (br_t rfl H))))))))))), fun post H => by unfold wpY_fits; exact br_f (by decide) (br_f (by decide) (br_f (by decide) (br_f (by decide) (br_f (by decide) (br_f (by decide) (br_f (by decide) (br_t rfl (rd_y_w0 (n := 8) (by omega) rfl h (br_t rfl H)))))))))⟩
theorem rd_fts12 (a b : Int32) : rd_FTS 12 a b := by
  by_cases h : ∃ j, j < 100 ∧ a = nI j
  · obtain ⟨j, hj, rfl⟩ := h
    exact ⟨1, Or.inl ⟨rfl, ⟨⟨12, by omega, rfl⟩, fun h => absurd h (by decide), fun h => absurd h (by decide), fun h => absurd h (by decide), fun h => absurd h (by decide), fun _ => ⟨j, by omega, rfl⟩, fun h => absurd h (by decide), fun h => absurd h (by decide), fun h => absurd h (by decide)⟩⟩, fun post A rl ra qa ql H => by unfold wpX_fits; exact br_f (by decide) (br_f (by decide) (br_f (by decide) (br_f (by decide) (br_f (by decide) (br_f (by decide) (br_f (by decide) (br_f (by decide) (br_f (by decide) (br_f (by decide) (br_t rfl (rd_x_w1 (n := 100) hj (by omega) (by decide) ⟨rfl, H⟩))))))))))), fun post H => by unfold wpY_fits; exact br_f (by decide) (br_f (by decide) (br_f (by decide) (br_f (by decide) (br_f (by decide) (br_f (by decide) (br_f (by decide) (br_f (by decide) (br_f (by decide) (br_t rfl (rd_y_w1 (n := 100) hj (by omega) rfl ⟨rfl, H⟩))))))))))⟩
  · exact ⟨0, Or.inr rfl, fun post A rl ra qa ql H => by unfold wpX_fits; exact br_f (by decide) (br_f (by decide) (br_f (by decide) (br_f (by decide) (br_f (by decide) (br_f (by decide) (br_f (by decide) (br_f (by decide) (br_f (by decide) (br_f (by decide) (br_t rfl (rd_x_w0 (n := 100) (by omega) (by decide) h ⟨rfl, H⟩))))))))))), fun post H => by unfold wpY_fits; exact br_f (by decide) (br_f (by decide) (br_f (by decide) (br_f (by decide) (br_f (by decide) (br_f (by decide) (br_f (by decide) (br_f (by decide) (br_f (by decide) (br_t rfl (rd_y_w0 (n := 100) (by omega) rfl h ⟨rfl, H⟩))))))))))⟩
theorem rd_fts13 (a b : Int32) : rd_FTS 13 a b := by
  by_cases h : ∃ j, j < 3 ∧ a = nI j
  · obtain ⟨j, hj, rfl⟩ := h
    exact ⟨1, Or.inl ⟨rfl, ⟨⟨13, by omega, rfl⟩, fun h => absurd h (by decide), fun h => absurd h (by decide), fun h => absurd h (by decide), fun h => absurd h (by decide), fun h => absurd h (by decide), fun _ => ⟨j, by omega, rfl⟩, fun h => absurd h (by decide), fun h => absurd h (by decide)⟩⟩, fun post A rl ra qa ql H => by unfold wpX_fits; exact br_f (by decide) (br_f (by decide) (br_f (by decide) (br_f (by decide) (br_f (by decide) (br_f (by decide) (br_f (by decide) (br_f (by decide) (br_f (by decide) (br_f (by decide) (br_f (by decide) (br_t rfl (rd_x_w1 (n := 3) hj (by omega) (by decide) ⟨rfl, H⟩)))))))))))), fun post H => by unfold wpY_fits; exact br_f (by decide) (br_f (by decide) (br_f (by decide) (br_f (by decide) (br_f (by decide) (br_f (by decide) (br_f (by decide) (br_f (by decide) (br_f (by decide) (br_f (by decide) (br_f (by decide) (br_f (by decide) (br_f (by decide) (br_t rfl (rd_y_w1 (n := 3) hj (by omega) rfl ⟨rfl, H⟩))))))))))))))⟩
  · exact ⟨0, Or.inr rfl, fun post A rl ra qa ql H => by unfold wpX_fits; exact br_f (by decide) (br_f (by decide) (br_f (by decide) (br_f (by decide) (br_f (by decide) (br_f (by decide) (br_f (by decide) (br_f (by decide) (br_f (by decide) (br_f (by decide) (br_f (by decide) (br_t rfl (rd_x_w0 (n := 3) (by omega) (by decide) h ⟨rfl, H⟩)))))))))))), fun post H => by unfold wpY_fits; exact br_f (by decide) (br_f (by decide) (br_f (by decide) (br_f (by decide) (br_f (by decide) (br_f (by decide) (br_f (by decide) (br_f (by decide) (br_f (by decide) (br_f (by decide) (br_f (by decide) (br_f (by decide) (br_f (by decide) (br_t rfl (rd_y_w0 (n := 3) (by omega) rfl h ⟨rfl, H⟩))))))))))))))⟩
theorem rd_fts14 (a b : Int32) : rd_FTS 14 a b := by
  exact ⟨1, Or.inl ⟨rfl, ⟨⟨14, by omega, rfl⟩, fun h => absurd h (by decide), fun h => absurd h (by decide), fun h => absurd h (by decide), fun h => absurd h (by decide), fun h => absurd h (by decide), fun h => absurd h (by decide), fun h => absurd h (by decide), fun h => absurd h (by decide)⟩⟩, fun post A rl ra qa ql H => by unfold wpX_fits; exact br_f (by decide) (br_f (by decide) (br_f (by decide) (br_f (by decide) (br_f (by decide) (br_f (by decide) (br_f (by decide) (br_f (by decide) (br_f (by decide) (br_f (by decide) (br_f (by decide) (br_f (by decide) (br_t rfl (rd_x_w1 (j := 14) (n := 26) (by omega) (by omega) (by decide) ⟨rfl, H⟩))))))))))))), fun post H => by unfold wpY_fits; exact br_f (by decide) (br_f (by decide) (br_f (by decide) (br_f (by decide) (br_f (by decide) (br_f (by decide) (br_f (by decide) (br_f (by decide) (br_f (by decide) (br_f (by decide) (br_f (by decide) (br_f (by decide) (br_f (by decide) (br_f (by decide) (br_f (by decide) (H)))))))))))))))⟩
theorem rd_fts15 (a b : Int32) : rd_FTS 15 a b := by
  exact ⟨1, Or.inl ⟨rfl, ⟨⟨15, by omega, rfl⟩, fun h => absurd h (by decide), fun h => absurd h (by decide), fun h => absurd h (by decide), fun h => absurd h (by decide), fun h => absurd h (by decide), fun h => absurd h (by decide), fun h => absurd h (by decide), fun h => absurd h (by decide)⟩⟩, fun post A rl ra qa ql H => by unfold wpX_fits; exact br_f (by decide) (br_f (by decide) (br_f (by decide) (br_f (by decide) (br_f (by decide) (br_f (by decide) (br_f (by decide) (br_f (by decide) (br_f (by decide) (br_f (by decide) (br_f (by decide) (br_f (by decide) (br_f (by decide) (br_t rfl (rd_x_w1 (j := 15) (n := 26) (by omega) (by omega) (by decide) ⟨rfl, H⟩)))))))))))))), fun post H => by unfold wpY_fits; exact br_f (by decide) (br_f (by decide) (br_f (by decide) (br_f (by decide) (br_f (by decide) (br_f (by decide) (br_f (by decide) (br_f (by decide) (br_f (by decide) (br_f (by decide) (br_f (by decide) (br_f (by decide) (br_f (by decide) (br_f (by decide) (br_f (by decide) (H)))))))))))))))⟩
theorem rd_fts16 (a b : Int32) : rd_FTS 16 a b := by
  by_cases h : ∃ j, j < 3 ∧ a = nI j
  · obtain ⟨j, hj, rfl⟩ := h
    by_cases h : ∃ j, j < 21 ∧ b = nI j
    · obtain ⟨i, hi, rfl⟩ := h
      exact ⟨1, Or.inl ⟨rfl, ⟨⟨16, by omega, rfl⟩, fun h => absurd h (by decide), fun h => absurd h (by decide), fun h => absurd h (by decide), fun h => absurd h (by decide), fun h => absurd h (by decide), fun h => absurd h (by decide), fun _ => ⟨⟨j, by omega, rfl⟩, ⟨i, by omega, rfl⟩⟩, fun h => absurd h (by decide)⟩⟩, fun post A rl ra qa ql H => by unfold wpX_fits; exact br_f (by decide) (br_f (by decide) (br_f (by decide) (br_f (by decide) (br_f (by decide) (br_f (by decide) (br_f (by decide) (br_f (by decide) (br_f (by decide) (br_f (by decide) (br_f (by decide) (br_f (by decide) (br_f (by decide) (br_f (by decide) (br_t rfl (rd_x_w1 (n := 3) hj (by omega) (by decide) (br_f (by decide) (rd_x_w1 (n := 21) hi (by omega) (by decide) (br_f (by decide) H)))))))))))))))))), fun post H => by unfold wpY_fits; exact br_f (by decide) (br_f (by decide) (br_f (by decide) (br_f (by decide) (br_f (by decide) (br_f (by decide) (br_f (by decide) (br_f (by decide) (br_f (by decide) (br_f (by decide) (br_t rfl (rd_y_w1 (n := 3) hj (by omega) rfl (br_f (by decide) (rd_y_w1 (n := 21) hi (by omega) rfl (br_f (by decide) H))))))))))))))⟩
    · exact ⟨0, Or.inr rfl, fun post A rl ra qa ql H => by unfold wpX_fits; exact br_f (by decide) (br_f (by decide) (br_f (by decide) (br_f (by decide) (br_f (by decide) (br_f (by decide) (br_f (by decide) (br_f (by decide) (br_f (by decide) (br_f (by decide) (br_f (by decide) (br_f (by decide) (br_f (by decide) (br_f (by decide) (br_t rfl (rd_x_w1 (n := 3) hj (by omega) (by decide) (br_f (by decide) (rd_x_w0 (n := 21) (by omega) (by decide) h (br_t rfl H)))))))))))))))))), fun post H => by unfold wpY_fits; exact br_f (by decide) (br_f (by decide) (br_f (by decide) (br_f (by decide) (br_f (by decide) (br_f (by decide) (br_f (by decide) (br_f (by decide) (br_f (by decide) (br_f (by decide) (br_t rfl (rd_y_w1 (n := 3) hj (by omega) rfl (br_f (by decide) (rd_y_w0 (n := 21) (by omega) rfl h (br_t rfl H))))))))))))))⟩
  · exact ⟨0, Or.inr rfl, fun post A rl ra qa ql H => by unfold wpX_fits; exact br_f (by decide) (br_f (by decide) (br_f (by decide) (br_f (by decide) (br_f (by decide) (br_f (by decide) (br_f (by decide) (br_f (by decide) (br_f (by decide) (br_f (by decide) (br_f (by decide) (br_f (by decide) (br_f (by decide) (br_f (by decide) (br_t rfl (rd_x_w0 (n := 3) (by omega) (by decide) h (br_t rfl H)))))))))))))))), fun post H => by unfold wpY_fits; exact br_f (by decide) (br_f (by decide) (br_f (by decide) (br_f (by decide) (br_f (by decide) (br_f (by decide) (br_f (by decide) (br_f (by decide) (br_f (by decide) (br_f (by decide) (br_t rfl (rd_y_w0 (n := 3) (by omega) rfl h (br_t rfl H))))))))))))⟩
theorem rd_fts17 (a b : Int32) : rd_FTS 17 a b := by
  by_cases h : ∃ j, j < 3 ∧ a = nI j
  · obtain ⟨j, hj, rfl⟩ := h
    by_cases h : ∃ j, j < 21 ∧ b = nI j
    · obtain ⟨i, hi, rfl⟩ := h
      exact ⟨1, Or.inl ⟨rfl, ⟨⟨17, by omega, rfl⟩, fun h => absurd h (by decide), fun h => absurd h (by decide), fun h => absurd h (by decide), fun h => absurd h (by decide), fun h => absurd h (by decide), fun h => absurd h (by decide), fun _ => ⟨⟨j, by omega, rfl⟩, ⟨i, by omega, rfl⟩⟩, fun h => absurd h (by decide)⟩⟩, fun post A rl ra qa ql H => by unfold wpX_fits; exact br_f (by decide) (br_f (by decide) (br_f (by decide) (br_f (by decide) (br_f (by decide) (br_f (by decide) (br_f (by decide) (br_f (by decide) (br_f (by decide) (br_f (by decide) (br_f (by decide) (br_f (by decide) (br_f (by decide) (br_f (by decide) (br_f (by decide) (br_t rfl (rd_x_w1 (n := 3) hj (by omega) (by decide) (br_f (by decide) (rd_x_w1 (n := 21) hi (by omega) (by decide) (br_f (by decide) H))))))))))))))))))), fun post H => by unfold wpY_fits; exact br_f (by decide) (br_f (by decide) (br_f (by decide) (br_f (by decide) (br_f (by decide) (br_f (by decide) (br_f (by decide) (br_f (by decide) (br_f (by decide) (br_f (by decide) (br_f (by decide) (br_t rfl (rd_y_w1 (n := 3) hj (by omega) rfl (br_f (by decide) (rd_y_w1 (n := 21) hi (by omega) rfl (br_f (by decide) H)))))))))))))))⟩
    · exact ⟨0, Or.inr rfl, fun post A rl ra qa ql H => by unfold wpX_fits; exact br_f (by decide) (br_f (by decide) (br_f (by decide) (br_f (by decide) (br_f (by decide) (br_f (by decide) (br_f (by decide) (br_f (by decide) (br_f (by decide) (br_f (by decide) (br_f (by decide) (br_f (by decide) (br_f (by decide) (br_f (by decide) (br_f (by decide) (br_t rfl (rd_x_w1 (n := 3) hj (by omega) (by decide) (br_f (by decide) (rd_x_w0 (n := 21) (by omega) (by decide) h (br_t rfl H))))))))))))))))))), fun post H => by unfold wpY_fits; exact br_f (by decide) (br_f (by decide) (br_f (by decide) (br_f (by decide) (br_f (by decide) (br_f (by decide) (br_f (by decide) (br_f (by decide) (br_f (by decide) (br_f (by decide) (br_f (by decide) (br_t rfl (rd_y_w1 (n := 3) hj (by omega) rfl (br_f (by decide) (rd_y_w0 (n := 21) (by omega) rfl h (br_t rfl H)))))))))))))))⟩
  · exact ⟨0, Or.inr rfl, fun post A rl ra qa ql H => by unfold wpX_fits; exact br_f (by decide) (br_f (by decide) (br_f (by decide) (br_f (by decide) (br_f (by decide) (br_f (by decide) (br_f (by decide) (br_f (by decide) (br_f (by decide) (br_f (by decide) (br_f (by decide) (br_f (by decide) (br_f (by decide) (br_f (by decide) (br_f (by decide) (br_t rfl (rd_x_w0 (n := 3) (by omega) (by decide) h (br_t rfl H))))))))))))))))), fun post H => by unfold wpY_fits; exact br_f (by decide) (br_f (by decide) (br_f (by decide) (br_f (by decide) (br_f (by decide) (br_f (by decide) (br_f (by decide) (br_f (by decide) (br_f (by decide) (br_f (by decide) (br_f (by decide) (br_t rfl (rd_y_w0 (n := 3) (by omega) rfl h (br_t rfl H)))))))))))))⟩
theorem rd_fts18 (a b : Int32) : rd_FTS 18 a b := by
  by_cases h : ∃ j, j < 21 ∧ a = nI j
  · obtain ⟨j, hj, rfl⟩ := h
    exact ⟨1, Or.inl ⟨rfl, ⟨⟨18, by omega, rfl⟩, fun _ => ⟨j, by omega, rfl⟩, fun h => absurd h (by decide), fun h => absurd h (by decide), fun h => absurd h (by decide), fun h => absurd h (by decide), fun h => absurd h (by decide), fun h => absurd h (by decide), fun h => absurd h (by decide)⟩⟩, fun post A rl ra qa ql H => by unfold wpX_fits; exact br_f (by decide) (br_f (by decide) (br_f (by decide) (br_f (by decide) (br_f (by decide) (br_f (by decide) (br_f (by decide) (br_f (by decide) (br_f (by decide) (br_f (by decide) (br_f (by decide) (br_f (by decide) (br_f (by decide) (br_f (by decide) (br_f (by decide) (br_f (by decide) (br_t rfl (rd_x_w1 (n := 21) hj (by omega) (by decide) ⟨rfl, H⟩))))))))))))))))), fun post H => by unfold wpY_fits; exact br_f (by decide) (br_f (by decide) (br_t rfl (rd_y_w1 (n := 21) hj (by omega) rfl ⟨rfl, H⟩)))⟩
  · exact ⟨0, Or.inr rfl, fun post A rl ra qa ql H => by unfold wpX_fits; exact br_f (by decide) (br_f (by decide) (br_f (by decide) (br_f (by decide) (br_f (by decide) (br_f (by decide) (br_f (by decide) (br_f (by decide) (br_f (by decide) (br_f (by decide) (br_f (by decide) (br_f (by decide) (br_f (by decide) (br_f (by decide) (br_f (by decide) (br_f (by decide) (br_t rfl (rd_x_w0 (n := 21) (by omega) (by decide) h ⟨rfl, H⟩))))))))))))))))), fun post H => by unfold wpY_fits; exact br_f (by decide) (br_f (by decide) (br_t rfl (rd_y_w0 (n := 21) (by omega) rfl h ⟨rfl, H⟩)))⟩
theorem rd_fts19 (a b : Int32) : rd_FTS 19 a b := by
  by_cases h : ∃ j, j < 21 ∧ a = nI j
  · obtain ⟨j, hj, rfl⟩ := h
    exact ⟨1, Or.inl ⟨rfl, ⟨⟨19, by omega, rfl⟩, fun _ => ⟨j, by omega, rfl⟩, fun h => absurd h (by decide), fun h => absurd h (by decide), fun h => absurd h (by decide), fun h => absurd h (by decide), fun h => absurd h (by decide), fun h => absurd h (by decide), fun h => absurd h (by decide)⟩⟩, fun post A rl ra qa ql H => by unfold wpX_fits; exact br_f (by decide) (br_f (by decide) (br_f (by decide) (br_f (by decide) (br_f (by decide) (br_f (by decide) (br_f (by decide) (br_f (by decide) (br_f (by decide) (br_f (by decide) (br_f (by decide) (br_f (by decide) (br_f (by decide) (br_f (by decide) (br_f (by decide) (br_f (by decide) (br_f (by decide) (br_t rfl (rd_x_w1 (n := 21) hj (by omega) (by decide) ⟨rfl, H⟩)))))))))))))))))), fun post H => by unfold wpY_fits; exact br_f (by decide) (br_f (by decide) (br_f (by decide) (br_t rfl (rd_y_w1 (n := 21) hj (by omega) rfl ⟨rfl, H⟩))))⟩
  · exact ⟨0, Or.inr rfl, fun post A rl ra qa ql H => by unfold wpX_fits; exact br_f (by decide) (br_f (by decide) (br_f (by decide) (br_f (by decide) (br_f (by decide) (br_f (by decide) (br_f (by decide) (br_f (by decide) (br_f (by decide) (br_f (by decide) (br_f (by decide) (br_f (by decide) (br_f (by decide) (br_f (by decide) (br_f (by decide) (br_f (by decide) (br_f (by decide) (br_t rfl (rd_x_w0 (n := 21) (by omega) (by decide) h ⟨rfl, H⟩)))))))))))))))))), fun post H => by unfold wpY_fits; exact br_f (by decide) (br_f (by decide) (br_f (by decide) (br_t rfl (rd_y_w0 (n := 21) (by omega) rfl h ⟨rfl, H⟩))))⟩
theorem rd_fts20 (a b : Int32) : rd_FTS 20 a b := by
  exact ⟨1, Or.inl ⟨rfl, ⟨⟨20, by omega, rfl⟩, fun h => absurd h (by decide), fun h => absurd h (by decide), fun h => absurd h (by decide), fun h => absurd h (by decide), fun h => absurd h (by decide), fun h => absurd h (by decide), fun h => absurd h (by decide), fun h => absurd h (by decide)⟩⟩, fun post A rl ra qa ql H => by unfold wpX_fits; exact br_f (by decide) (br_f (by decide) (br_f (by decide) (br_f (by decide) (br_f (by decide) (br_f (by decide) (br_f (by decide) (br_f (by decide) (br_f (by decide) (br_f (by decide) (br_f (by decide) (br_f (by decide) (br_f (by decide) (br_f (by decide) (br_f (by decide) (br_f (by decide) (br_f (by decide) (br_f (by decide) (br_t rfl (rd_x_w1 (j := 20) (n := 26) (by omega) (by omega) (by decide) ⟨rfl, H⟩))))))))))))))))))), fun post H => by unfold wpY_fits; exact br_f (by decide) (br_f (by decide) (br_f (by decide) (br_f (by decide) (br_f (by decide) (br_f (by decide) (br_f (by decide) (br_f (by decide) (br_f (by decide) (br_f (by decide) (br_f (by decide) (br_f (by decide) (br_f (by decide) (br_f (by decide) (br_f (by decide) (H)))))))))))))))⟩
theorem rd_fts21 (a b : Int32) : rd_FTS 21 a b := by
  have e0 : (0 : Int32).toInt = 0 := by decide
  have e1 : (1 : Int32).toInt = 1 := by decide
  have e9 : (9 : Int32).toInt = 9 := by decide
  have e10 : (10 : Int32).toInt = 10 := by decide
  by_cases h : 1 ≤ a ∧ a ≤ 9
  · have h1 := h.1
    have h2 := h.2
    rw [Int32.le_iff_toInt_le] at h1 h2
    obtain ⟨j, hj, rfl⟩ := nI_of (x := a) (by rw [Int32.lt_iff_toInt_lt]; omega)
    rw [nI_toInt hj] at h1 h2
    exact ⟨1, Or.inl ⟨rfl, ⟨⟨21, by omega, rfl⟩, fun h => absurd h (by decide), fun h => absurd h (by decide), fun h => absurd h (by decide), fun h => absurd h (by decide), fun h => absurd h (by decide), fun h => absurd h (by decide), fun h => absurd h (by decide), fun _ => ⟨j, by omega, by omega, rfl⟩⟩⟩, fun post A rl ra qa ql H => by unfold wpX_fits; exact br_f (by decide) (br_f (by decide) (br_f (by decide) (br_f (by decide) (br_f (by decide) (br_f (by decide) (br_f (by decide) (br_f (by decide) (br_f (by decide) (br_f (by decide) (br_f (by decide) (br_f (by decide) (br_f (by decide) (br_f (by decide) (br_f (by decide) (br_f (by decide) (br_f (by decide) (br_f (by decide) (br_f (by decide) (br_t rfl (rd_x_within (fun _ _ => ⟨rfl, H⟩) (fun z => absurd h z))))))))))))))))))))), fun post H => by unfold wpY_fits; exact br_f (by decide) (br_f (by decide) (br_f (by decide) (br_f (by decide) (br_f (by decide) (br_f (by decide) (br_f (by decide) (br_f (by decide) (br_f (by decide) (br_f (by decide) (br_f (by decide) (br_f (by decide) (br_f (by decide) (br_f (by decide) (br_t rfl (br_f (nI_nle (by omega) hj) (br_f (nI_ge (b := 10) (by omega) (by omega)) H))))))))))))))))⟩
  · have ge : ¬ a ≤ 0 → 10 ≤ a := by
      intro z
      rw [Int32.le_iff_toInt_le] at z ⊢
      rw [Int32.le_iff_toInt_le, Int32.le_iff_toInt_le] at h
      omega
    exact ⟨0, Or.inr rfl, fun post A rl ra qa ql H => by unfold wpX_fits; exact br_f (by decide) (br_f (by decide) (br_f (by decide) (br_f (by decide) (br_f (by decide) (br_f (by decide) (br_f (by decide) (br_f (by decide) (br_f (by decide) (br_f (by decide) (br_f (by decide) (br_f (by decide) (br_f (by decide) (br_f (by decide) (br_f (by decide) (br_f (by decide) (br_f (by decide) (br_f (by decide) (br_f (by decide) (br_t rfl (rd_x_within (fun y z => absurd ⟨y, z⟩ h) (fun _ => ⟨rfl, H⟩))))))))))))))))))))), fun post H => by unfold wpY_fits; exact br_f (by decide) (br_f (by decide) (br_f (by decide) (br_f (by decide) (br_f (by decide) (br_f (by decide) (br_f (by decide) (br_f (by decide) (br_f (by decide) (br_f (by decide) (br_f (by decide) (br_f (by decide) (br_f (by decide) (br_f (by decide) (br_t rfl (br_c (fun _ => H) (fun z => br_t (ge z) H))))))))))))))))⟩
theorem rd_fts22 (a b : Int32) : rd_FTS 22 a b := by
  by_cases h : ∃ j, j < 21 ∧ a = nI j
  · obtain ⟨j, hj, rfl⟩ := h
    exact ⟨1, Or.inl ⟨rfl, ⟨⟨22, by omega, rfl⟩, fun _ => ⟨j, by omega, rfl⟩, fun h => absurd h (by decide), fun h => absurd h (by decide), fun h => absurd h (by decide), fun h => absurd h (by decide), fun h => absurd h (by decide), fun h => absurd h (by decide), fun h => absurd h (by decide)⟩⟩, fun post A rl ra qa ql H => by unfold wpX_fits; exact br_f (by decide) (br_f (by decide) (br_f (by decide) (br_f (by decide) (br_f (by decide) (br_f (by decide) (br_f (by decide) (br_f (by decide) (br_f (by decide) (br_f (by decide) (br_f (by decide) (br_f (by decide) (br_f (by decide) (br_f (by decide) (br_f (by decide) (br_f (by decide) (br_f (by decide) (br_f (by decide) (br_f (by decide) (br_f (by decide) (br_t rfl (rd_x_w1 (n := 21) hj (by omega) (by decide) ⟨rfl, H⟩))))))))))))))))))))), fun post H => by unfold wpY_fits; exact br_f (by decide) (br_f (by decide) (br_f (by decide) (br_f (by decide) (br_t rfl (rd_y_w1 (n := 21) hj (by omega) rfl ⟨rfl, H⟩)))))⟩
  · exact ⟨0, Or.inr rfl, fun post A rl ra qa ql H => by unfold wpX_fits; exact br_f (by decide) (br_f (by decide) (br_f (by decide) (br_f (by decide) (br_f (by decide) (br_f (by decide) (br_f (by decide) (br_f (by decide) (br_f (by decide) (br_f (by decide) (br_f (by decide) (br_f (by decide) (br_f (by decide) (br_f (by decide) (br_f (by decide) (br_f (by decide) (br_f (by decide) (br_f (by decide) (br_f (by decide) (br_f (by decide) (br_t rfl (rd_x_w0 (n := 21) (by omega) (by decide) h ⟨rfl, H⟩))))))))))))))))))))), fun post H => by unfold wpY_fits; exact br_f (by decide) (br_f (by decide) (br_f (by decide) (br_f (by decide) (br_t rfl (rd_y_w0 (n := 21) (by omega) rfl h ⟨rfl, H⟩)))))⟩
theorem rd_fts23 (a b : Int32) : rd_FTS 23 a b := by
  exact ⟨1, Or.inl ⟨rfl, ⟨⟨23, by omega, rfl⟩, fun h => absurd h (by decide), fun h => absurd h (by decide), fun h => absurd h (by decide), fun h => absurd h (by decide), fun h => absurd h (by decide), fun h => absurd h (by decide), fun h => absurd h (by decide), fun h => absurd h (by decide)⟩⟩, fun post A rl ra qa ql H => by unfold wpX_fits; exact br_f (by decide) (br_f (by decide) (br_f (by decide) (br_f (by decide) (br_f (by decide) (br_f (by decide) (br_f (by decide) (br_f (by decide) (br_f (by decide) (br_f (by decide) (br_f (by decide) (br_f (by decide) (br_f (by decide) (br_f (by decide) (br_f (by decide) (br_f (by decide) (br_f (by decide) (br_f (by decide) (br_f (by decide) (br_f (by decide) (br_f (by decide) (br_t rfl (rd_x_w1 (j := 23) (n := 26) (by omega) (by omega) (by decide) ⟨rfl, H⟩)))))))))))))))))))))), fun post H => by unfold wpY_fits; exact br_f (by decide) (br_f (by decide) (br_f (by decide) (br_f (by decide) (br_f (by decide) (br_f (by decide) (br_f (by decide) (br_f (by decide) (br_f (by decide) (br_f (by decide) (br_f (by decide) (br_f (by decide) (br_f (by decide) (br_f (by decide) (br_f (by decide) (H)))))))))))))))⟩
theorem rd_fts24 (a b : Int32) : rd_FTS 24 a b := by
  by_cases h : ∃ j, j < 8 ∧ a = nI j
  · obtain ⟨j, hj, rfl⟩ := h
    exact ⟨1, Or.inl ⟨rfl, ⟨⟨24, by omega, rfl⟩, fun h => absurd h (by decide), fun h => absurd h (by decide), fun h => absurd h (by decide), fun _ => ⟨j, by omega, rfl⟩, fun h => absurd h (by decide), fun h => absurd h (by decide), fun h => absurd h (by decide), fun h => absurd h (by decide)⟩⟩, fun post A rl ra qa ql H => by unfold wpX_fits; exact br_f (by decide) (br_f (by decide) (br_f (by decide) (br_f (by decide) (br_f (by decide) (br_f (by decide) (br_f (by decide) (br_f (by decide) (br_f (by decide) (br_f (by decide) (br_f (by decide) (br_f (by decide) (br_f (by decide) (br_f (by decide) (br_f (by decide) (br_f (by decide) (br_f (by decide) (br_f (by decide) (br_f (by decide) (br_f (by decide) (br_f (by decide) (br_f (by decide) (br_t rfl (rd_x_w1 (n := 8) hj (by omega) (by decide) ⟨rfl, H⟩))))))))))))))))))))))), fun post H => by unfold wpY_fits; exact br_f (by decide) (br_f (by decide) (br_f (by decide) (br_f (by decide) (br_f (by decide) (br_f (by decide) (br_f (by decide) (br_f (by decide) (br_f (by decide) (br_f (by decide) (br_f (by decide) (br_f (by decide) (br_t rfl (rd_y_w1 (n := 8) hj (by omega) rfl ⟨rfl, H⟩)))))))))))))⟩
  · exact ⟨0, Or.inr rfl, fun post A rl ra qa ql H => by unfold wpX_fits; exact br_f (by decide) (br_f (by decide) (br_f (by decide) (br_f (by decide) (br_f (by decide) (br_f (by decide) (br_f (by decide) (br_f (by decide) (br_f (by decide) (br_f (by decide) (br_f (by decide) (br_f (by decide) (br_f (by decide) (br_f (by decide) (br_f (by decide) (br_f (by decide) (br_f (by decide) (br_f (by decide) (br_f (by decide) (br_f (by decide) (br_f (by decide) (br_f (by decide) (br_t rfl (rd_x_w0 (n := 8) (by omega) (by decide) h ⟨rfl, H⟩))))))))))))))))))))))), fun post H => by unfold wpY_fits; exact br_f (by decide) (br_f (by decide) (br_f (by decide) (br_f (by decide) (br_f (by decide) (br_f (by decide) (br_f (by decide) (br_f (by decide) (br_f (by decide) (br_f (by decide) (br_f (by decide) (br_f (by decide) (br_t rfl (rd_y_w0 (n := 8) (by omega) rfl h ⟨rfl, H⟩)))))))))))))⟩
theorem rd_fts25 (a b : Int32) : rd_FTS 25 a b := by
  exact ⟨1, Or.inl ⟨rfl, ⟨⟨25, by omega, rfl⟩, fun h => absurd h (by decide), fun h => absurd h (by decide), fun h => absurd h (by decide), fun h => absurd h (by decide), fun h => absurd h (by decide), fun h => absurd h (by decide), fun h => absurd h (by decide), fun h => absurd h (by decide)⟩⟩, fun post A rl ra qa ql H => by unfold wpX_fits; exact br_f (by decide) (br_t (by decide) (rd_x_w1 (j := 25) (n := 26) (by omega) (by omega) (by decide) ⟨rfl, H⟩)), fun post H => by unfold wpY_fits; exact br_f (by decide) (br_f (by decide) (br_f (by decide) (br_f (by decide) (br_f (by decide) (br_f (by decide) (br_f (by decide) (br_f (by decide) (br_f (by decide) (br_f (by decide) (br_f (by decide) (br_f (by decide) (br_f (by decide) (br_f (by decide) (br_f (by decide) (H)))))))))))))))⟩
theorem rd_fts (a b : Int32) : ∀ c : Nat, c < 26 → rd_FTS (nI c) a b
  | 0, _ => rd_fts0 a b
  | 1, _ => rd_fts1 a b
  | 2, _ => rd_fts2 a b
  | 3, _ => rd_fts3 a b
  | 4, _ => rd_fts4 a b
  | 5, _ => rd_fts5 a b
  | 6, _ => rd_fts6 a b
  | 7, _ => rd_fts7 a b
  | 8, _ => rd_fts8 a b
  | 9, _ => rd_fts9 a b
  | 10, _ => rd_fts10 a b
  | 11, _ => rd_fts11 a b
  | 12, _ => rd_fts12 a b
  | 13, _ => rd_fts13 a b
  | 14, _ => rd_fts14 a b
  | 15, _ => rd_fts15 a b
  | 16, _ => rd_fts16 a b
  | 17, _ => rd_fts17 a b
  | 18, _ => rd_fts18 a b
  | 19, _ => rd_fts19 a b
  | 20, _ => rd_fts20 a b
  | 21, _ => rd_fts21 a b
  | 22, _ => rd_fts22 a b
  | 23, _ => rd_fts23 a b
  | 24, _ => rd_fts24 a b
  | 25, _ => rd_fts25 a b
  | _ + 26, h => absurd h (by omega)
theorem i_vc_add {k : Nat} {u : SX} {v : SY} (I : i_Rel k u v) (hk : k + 5 ≤ 2560) (v1 : Int32) (v2 : Int32) (v3 : Int32) (v4 : Int32) : wpX_add (fun r u' => wpY_add (fun r' v' => r' = r ∧ i_Rel (k + 5) u' v') v v1 v2 v3 v4) u v1 v2 v3 v4 := by
  have I' : i_Rel (k + 5) u v := I
  obtain ⟨n, A, w, Q, hG, hN, hw, hQ, n9, ⟨ra, qa, ql, rfl, hx⟩, ra', qa', wq, am, rz, ob, fr, st, bl, rfl, hr, h2, h3, h9⟩ := I
  unfold wpX_add
  by_cases e : ∃ t, t < 4 ∧ v1 = nI t
  · obtain ⟨t, ht, rfl⟩ := e
    have ct : (nI t).toNatClampNeg = t := nI_clamp (by omega)
    have i4 : vp_in (nI t) 4 := vp_in_nI ht (by omega)
    refine rd_x_w1 (n := 4) ht (by omega) (by decide) (br_f (by decide) ?_)
    by_cases e : ∃ c, c < 26 ∧ v2 = nI c
    · obtain ⟨c, hc, rfl⟩ := e
      obtain ⟨r, hr', fx, fy⟩ := rd_fts v3 v4 c hc
      refine fx _ _ _ _ _ _ ?_
      rcases hr' with ⟨rfl, ft⟩ | rfl
      · refine br_f (by decide) ⟨i4, ?_⟩
        obtain ⟨L, hL, eL⟩ := hG.1 t ht
        have ix : nI t * 20 + nI L = nI (t * 20 + L) := rd_ix' 20 L t _ rfl
        have iy : 20 * nI t + nI L = nI (t * 20 + L) := rd_ix 20 L t _ rfl
        have ci : (nI (t * 20 + L)).toNatClampNeg = t * 20 + L := nI_clamp (by omega)
        refine nm_r (e' := nI L) (by rw [ct, eL]) ?_
        rcases Nat.lt_or_ge L 20 with l | l
        · have i80 : vp_in (nI (t * 20 + L)) 80 := vp_in_nI (by omega) (by omega)
          refine br_t (nI_lt (b := 20) l (by omega)) (nm_r ix ⟨i80, nm_r (e' := upd (A 0) (t * 20 + L) (nI c)) (by rw [ci]) ⟨i80, nm_r (e' := upd (A 1) (t * 20 + L) v3) (by rw [ci]) ⟨i80, nm_r (e' := upd (A 2) (t * 20 + L) v4) (by rw [ci]) ⟨i4, nm_r (e' := upd (A 3) t (nI (L + 1))) (by rw [ct, nI_1]) ?_⟩⟩⟩⟩)
          show wpY_add _ _ _ _ _ _
          unfold wpY_add
          refine rd_y_w1 (n := 4) ht (by omega) rfl (br_f (by decide) (rd_y_w1 (n := 26) hc (by omega) rfl (br_f (by decide) (fy _ (br_f (by decide) ⟨i4, br_f ?_ ⟨i4, nm_r (e' := nI (t * 20 + L)) (by rw [ct, eL, iy]) ⟨i80, nm_r (e' := upd (A 0) (t * 20 + L) (nI c)) (by rw [ci]) ⟨i80, nm_r (e' := upd (A 1) (t * 20 + L) v3) (by rw [ci]) ⟨i80, nm_r (e' := upd (A 2) (t * 20 + L) v4) (by rw [ci]) ⟨i4, i4, nm_r (e' := upd (A 3) t (nI (L + 1))) (by rw [ct, eL, nI_1]) ⟨i4, ?_, ?_⟩⟩⟩⟩⟩⟩⟩)))))
          · intro z
            rw [ct, eL] at z
            exact absurd (Int32.le_of_eq z.symm) (nI_ge (b := 20) l (by omega))
          · rw [ct, rd_us, nI_1]
          · refine ⟨n, rd_sw (rd_sw (rd_sw (rd_sw A  0 (t * 20 + L) (nI c))  1 (t * 20 + L) v3)  2 (t * 20 + L) v4)  3 t (nI (L + 1)), w, Q, ⟨rd_rng_u hG.1 (by omega), fun i hi => ?_⟩, hN, hw, hQ, n9, ⟨ra, qa, ql, rfl, hx⟩, ra', qa', wq, am, rz, ob, fr, st, bl, rfl, hr, h2, h3, h9⟩
            show rd_fit (upd (A 0) (t * 20 + L) (nI c) i) (upd (A 1) (t * 20 + L) v3 i) (upd (A 2) (t * 20 + L) v4 i)
            by_cases ei : i = t * 20 + L
            · rw [ei, rd_us, rd_us, rd_us]
              exact ft
            · rw [rd_un ei, rd_un ei, rd_un ei]
              exact hG.2 i hi
        · have e20 : L = 20 := by omega
          subst e20
          refine br_f (nI_nlt (a := 20) (b := 20) (by omega) (by omega)) ?_
          show wpY_add _ _ _ _ _ _
          unfold wpY_add
          exact rd_y_w1 (n := 4) ht (by omega) rfl (br_f (by decide) (rd_y_w1 (n := 26) hc (by omega) rfl (br_f (by decide) (fy _ (br_f (by decide) ⟨i4, br_t (by rw [ct, eL]; rfl) ⟨rfl, I'⟩⟩)))))
      · refine br_t rfl ?_
        show wpY_add _ _ _ _ _ _
        unfold wpY_add
        exact rd_y_w1 (n := 4) ht (by omega) rfl (br_f (by decide) (rd_y_w1 (n := 26) hc (by omega) rfl (br_f (by decide) (fy _ (br_t rfl ⟨rfl, I'⟩)))))
    · refine rd_x_fits0 e (br_t rfl ?_)
      show wpY_add _ _ _ _ _ _
      unfold wpY_add
      exact rd_y_w1 (n := 4) ht (by omega) rfl (br_f (by decide) (rd_y_w0 (n := 26) (by omega) rfl e (br_t rfl ⟨rfl, I'⟩)))
  · exact rd_x_w0 (n := 4) (by omega) (by decide) e (br_t rfl (by show wpY_add _ _ _ _ _ _; unfold wpY_add; exact rd_y_w0 (n := 4) (by omega) rfl e (br_t rfl ⟨rfl, I'⟩)))
end
section
/-! run -/
theorem rd_xl_begin {post : SX → Prop} {A : rd_St} {ra qa : Nat → Int32} (hk : A 26 0 = nI 0) (H : ∀ ra' ql', rd_LV ra' 0 ([] ++ [0]) → (∀ q, q < 24 → ql' q = 0) → post (rd_tX (rd_new A 0 (nI 0) (-1) (-1)) (nI ([] ++ [0]).length) ra' qa ql')) : ∀ (d k : Nat) (ql : Nat → Int32), k + d = 24 → (∀ q, q < k → ql q = 0) → wX_beginRun_37 post (nI ([] : List Nat).length) (A 25 0) (A 26 0) (A 27 0) (A 28 0) (A 29 0) (A 30 0) (A 31 0) (d + 1) (nI k) (A 0) (A 1) (A 2) (A 3) (A 4) (A 5) (A 6) (A 7) (A 8) (A 9) (A 10) (A 11) (A 12) (A 13) (A 14) (A 15) (A 16) (A 17) (A 18) (A 19) (A 20) qa ql ra (A 21) (A 22) (A 32) (A 23)
  | 0, k, ql, h1, h2 => by
    have e : k = 24 := by omega
    subst e
    exact br_t (nI_le (a := 24) (b := 24) (by omega) (by omega)) (rd_x_makeTask (n := 0) (w := []) (b := nI 0) hk (by omega) (by simp) trivial (fun ra' h => H ra' ql h h2))
  | d + 1, k, ql, h1, h2 => by
    have ck : (nI k).toNatClampNeg = k := nI_clamp (by omega)
    refine br_f (nI_ge (b := 24) (by omega) (by omega)) ⟨vp_in_nI (by omega) (by omega), nm_r (e' := upd ql k 0) (by rw [ck]) (nm_r (nI_1 k) (rd_xl_begin hk H d (k + 1) _ (by omega) (fun q hq => ?_)))⟩
    rw [rd_up]
    by_cases y : q = k
    · rw [if_pos y]
    · rw [if_neg y]
      exact h2 q (by omega)
/-- where a run begins, ahead of its first task -/
def rd_b0 (A : rd_St) (am : Nat → Int32) : rd_St := rd_sa (rd_sa (rd_sa (rd_sa (rd_sa (rd_sa (rd_sa (rd_sa A  25 (fun _ => 0))  26 (fun _ => 0))  27 (fun _ => 0))  28 (fun _ => 0))  29 (fun _ => 0))  31 (fun _ => 0))  24 am)  34 (fun _ => 1)
theorem rd_b0_i {A : rd_St} {am : Nat → Int32} (hG : rd_vG (A 0) (A 1) (A 2) (A 3)) : rd_Inv 0 8 0 (rd_b0 A am) [] (fun _ => []) := by
  have z : ∀ {P : Nat → Prop}, ∀ t, t < 0 → P t := fun t h => absurd h (by omega)
  refine ⟨hG, ⟨rfl, by omega⟩, ⟨List.nodup_nil, fun t => ⟨fun h => absurd h (by simp), fun h => absurd h.1 (by omega)⟩⟩, fun q => ⟨List.nodup_nil, fun c h => absurd h (by simp)⟩, z, z, z, z, z, z, z, z, z, ⟨rfl, by omega, ⟨0, by omega, rfl⟩, ⟨0, by omega, rfl⟩⟩, z, z, z, z, z, z, z, z, z, z, z⟩
theorem rd_b0_y {A : rd_St} {ra qa wq am rz ob fr st : Nat → Int32} (h2 : rd_rng 24 8 wq) (h9 : rd_y9 (A 4) st) : rd_YL 8 0 0 (rd_b0 A am) [] (fun _ => []) ra qa wq am rz ob fr st 0 := by
  have z : ∀ {P : Nat → Prop}, ∀ t, t < 0 → P t := fun t h => absurd h (by omega)
  exact ⟨trivial, h2, fun q h => absurd h (by omega), z, z, ⟨0, by omega, rfl, z⟩, z, z, h9, fun u _ _ => rfl⟩
theorem i_vc_run {k : Nat} {u : SX} {v : SY} (I : i_Rel k u v) (hk : k + 5 ≤ 2560) (v1 : Int32) : wpX_run (fun r u' => wpY_run (fun r' v' => r' = r ∧ i_Rel (k + 5) u' v') v v1) u v1 := by
  have I' : i_Rel (k + 5) u v := I
  obtain ⟨n, A, w, Q, hG, hN, hw, hQ, n9, ⟨ra, qa, ql, rfl, hx⟩, ra', qa', wq, am, rz, ob, fr, st, bl, rfl, hr, h2, h3, h9⟩ := I
  have e0 : (0 : Int32).toInt = 0 := by decide
  have e1 : (1 : Int32).toInt = 1 := by decide
  have e5 : (500 : Int32).toInt = 500 := by decide
  unfold wpX_run
  refine rd_x_within (fun a1 a2 => br_f (by decide) ?_) (fun no => br_t rfl ?_)
  · obtain ⟨M, hM, e⟩ : ∃ M, M ≤ 500 ∧ v1 = nI M := by
      have b1 := a1
      have b2 := a2
      rw [Int32.le_iff_toInt_le] at b1 b2
      obtain ⟨j, hj, ej⟩ := nI_of (x := v1) (by rw [Int32.lt_iff_toInt_lt]; omega)
      rw [ej, nI_toInt hj] at b2
      exact ⟨j, by omega, ej⟩
    subst e
    have I0 := rd_b0_i (am := am) hG
    have I1 := rd_i_new (b := 0) (mk := -1) (bl := -1) I0 (by omega) (by omega) (Or.inl ⟨rfl, rfl, rfl⟩)
    obtain ⟨r, m, E, B, x, R, J, m9, X, Y⟩ := rd_main hM (Nat.zero_le M) (by omega) I1 (fun s hs => by
      have : s = 0 := by omega
      subst this
      show upd (A 4) 0 0 0 ≠ 9
      rw [rd_us]
      decide) rfl
    have mu : rd_mu M (0 + 1) 0 (rd_new (rd_b0 A am) 0 (nI 0) (-1) (-1)) ≤ 80660 := by
      have := rd_ph_bd I1
      unfold rd_mu
      omega
    unfold wpX_beginRun
    refine ⟨25, rd_xl_begin (A := rd_b0 A am) (ra := ra) (qa := qa) rfl (fun ra1 ql1 hr1 hq1 => ?_) 24 0 ql (by omega) (fun q hq => absurd hq (by omega))⟩
    refine ⟨80661, X _ ra1 qa ql1 0 80661 (by omega) (by omega) ⟨hr1, fun q hq => ⟨hq1 q hq, trivial⟩⟩ (fun u' hu' => ?_)⟩
    show wpY_run _ _ _
    unfold wpY_run
    refine br_f (Int32.not_lt.mpr a1) (br_t a2 ?_)
    refine rd_y_make (A := rd_b0 A am) (n := 0) (w := []) (b := nI 0) (mk := -1) (blk := -1) rfl (by omega) (by simp) trivial (-1) (Or.inl ⟨rfl, rfl⟩) (fun ra2 wq2 hr2 hq2 => ?_)
    exact ⟨80661, Y _ ra2 qa' wq2 am _ _ fr _ 0 80661 (by omega) (rd_YL_new I0 (rd_b0_y (ra := ra') h2 h9) (by omega) (by omega) (Or.inl ⟨rfl, rfl, rfl⟩) hr2 hq2) (fun v' hv' => ⟨rfl, m, B, x, R, rd_WK_of J m9 hu' hv'⟩)⟩
  · show wpY_run _ _ _
    unfold wpY_run
    exact br_c (fun _ => ⟨rfl, I'⟩) (fun y => br_c (fun z => absurd ⟨Int32.not_lt.mp y, z⟩ no) (fun _ => ⟨rfl, I'⟩))
end
