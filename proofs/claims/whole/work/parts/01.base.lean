/-! the bundle of arrays, lists laid in arrays, weights -/
abbrev rd_St : Type := Nat → Nat → Int32
def rd_sa (A : rd_St) (k : Nat) (f : Nat → Int32) : rd_St := fun j => cond (Nat.beq j k) f (A j)
def rd_sw (A : rd_St) (k i : Nat) (v : Int32) : rd_St := rd_sa A k (upd (A k) i v)
theorem rd_sa_ap (A : rd_St) (k : Nat) (f : Nat → Int32) (j : Nat) : rd_sa A k f j = if j = k then f else A j := by
  unfold rd_sa
  cases hb : Nat.beq j k
  · have := Nat.ne_of_beq_eq_false hb
    simp [this]
  · have := Nat.eq_of_beq_eq_true hb
    simp [this]
theorem rd_sw_ap (A : rd_St) (k i : Nat) (v : Int32) (j : Nat) : rd_sw A k i v j = if j = k then upd (A k) i v else A j := rd_sa_ap _ _ _ _
theorem rd_up (f : Nat → Int32) (k : Nat) (x : Int32) (j : Nat) : upd f k x j = if j = k then x else f j := rfl
theorem rd_us {f : Nat → Int32} {k : Nat} {x : Int32} : upd f k x k = x := by rw [rd_up, if_pos rfl]
theorem rd_un {f : Nat → Int32} {k j : Nat} {x : Int32} (h : j ≠ k) : upd f k x j = f j := by rw [rd_up, if_neg h]
theorem rd_ue {f : Nat → Int32} {k : Nat} {x : Int32} (h : f k = x) : upd f k x = f := by
  funext j
  rw [rd_up]
  by_cases e : j = k
  · rw [if_pos e, e, h]
  · rw [if_neg e]
theorem rd_uu {f : Nat → Int32} {k : Nat} {x y : Int32} : upd (upd f k x) k y = upd f k y := by
  funext j
  simp only [rd_up]
  by_cases e : j = k <;> simp [e]
theorem rd_ix (a b k : Nat) (x : Int32) (hx : x = nI k) : nI a * x + nI b = nI (k * a + b) := by
  subst hx
  show Int32.ofNat a * Int32.ofNat k + Int32.ofNat b = Int32.ofNat (k * a + b)
  rw [Nat.mul_comm k a, Int32.ofNat_add, Int32.ofNat_mul]
theorem rd_ix' (a b k : Nat) (x : Int32) (hx : x = nI k) : x * nI a + nI b = nI (k * a + b) := by
  subst hx
  show Int32.ofNat k * Int32.ofNat a + Int32.ofNat b = Int32.ofNat (k * a + b)
  rw [Int32.ofNat_add, Int32.ofNat_mul]
/-- a list laid in an array from o on -/
def rd_LV (a : Nat → Int32) : Nat → List Nat → Prop
  | _, [] => True
  | o, x :: l => a o = nI x ∧ rd_LV a (o + 1) l
theorem rd_LV_fr {a b : Nat → Int32} : ∀ {l : List Nat} {o : Nat}, rd_LV a o l → (∀ i, o ≤ i → i < o + l.length → b i = a i) → rd_LV b o l
  | [], _, _, _ => trivial
  | x :: l, o, h, f => ⟨(f o (Nat.le_refl _) (by simp)).trans h.1, rd_LV_fr h.2 (fun i h1 h2 => f i (by omega) (by simp only [List.length_cons]; omega))⟩
theorem rd_LV_app {a : Nat → Int32} : ∀ {l : List Nat} {o x : Nat}, rd_LV a o l → a (o + l.length) = nI x → rd_LV a o (l ++ [x])
  | [], _, _, _, h => ⟨h, trivial⟩
  | y :: l, o, x, h, e => ⟨h.1, rd_LV_app h.2 (by rw [← e]; congr 1; simp only [List.length_cons]; omega)⟩
theorem rd_LV_get {a : Nat → Int32} : ∀ {l : List Nat} {o i x : Nat}, rd_LV a o l → l[i]? = some x → a (o + i) = nI x
  | [], _, _, _, _, h => by simp at h
  | y :: l, o, 0, x, h, e => by
    simp at e
    subst e
    exact h.1
  | y :: l, o, i + 1, x, h, e => by
    simp at e
    have := rd_LV_get h.2 e
    rw [← this]
    congr 1
    omega
theorem rd_LV_put {a : Nat → Int32} {l : List Nat} {o x : Nat} (h : rd_LV a o l) : rd_LV (upd a (o + l.length) (nI x)) o (l ++ [x]) :=
  rd_LV_app (rd_LV_fr h (fun i _ h2 => rd_un (by omega))) rd_us
theorem rd_fl_not {l : List Nat} {t : Nat} (h : t ∉ l) : l.filter (fun x => x != t) = l := by
  rw [List.filter_eq_self]
  intro a ha
  simp
  intro e
  exact h (e ▸ ha)
theorem rd_fl_mem {l : List Nat} {t x : Nat} : x ∈ l.filter (fun x => x != t) ↔ x ∈ l ∧ x ≠ t := by
  simp
theorem rd_flen (t : Nat) : ∀ l : List Nat, l.Nodup → l.length ≤ (l.filter (fun x => x != t)).length + 1
  | [], _ => by simp
  | x :: l, h => by
    have h1 := (List.nodup_cons.mp h).1
    have h2 := rd_flen t l (List.nodup_cons.mp h).2
    by_cases e : x = t
    · subst e
      rw [List.filter_cons, if_neg (by simp), rd_fl_not h1]
      simp
    · rw [List.filter_cons, if_pos (by simp [e])]
      simp only [List.length_cons]
      omega
theorem rd_pig : ∀ (n : Nat) (l : List Nat), l.Nodup → (∀ x, x ∈ l → x < n) → l.length ≤ n
  | 0, [], _, _ => Nat.le_refl _
  | 0, x :: l, _, h => absurd (h x (by simp)) (by omega)
  | n + 1, l, hd, h => by
    have h1 := rd_pig n (l.filter (fun x => x != n)) (List.Pairwise.filter _ hd) (by
      intro x hx
      rw [rd_fl_mem] at hx
      have := h x hx.1
      omega)
    have h2 := rd_flen n l hd
    omega
def rd_sum (f : Nat → Nat) : Nat → Nat
  | 0 => 0
  | n + 1 => rd_sum f n + f n
theorem rd_sum_le {f g : Nat → Nat} : ∀ {n : Nat}, (∀ t, t < n → f t ≤ g t) → rd_sum f n ≤ rd_sum g n
  | 0, _ => Nat.le_refl _
  | n + 1, h => Nat.add_le_add (rd_sum_le (fun t ht => h t (by omega))) (h n (by omega))
theorem rd_sum_lt {f g : Nat → Nat} {s : Nat} : ∀ {n : Nat}, (∀ t, t < n → f t ≤ g t) → s < n → f s < g s → rd_sum f n < rd_sum g n
  | 0, _, h, _ => by omega
  | n + 1, h, hs, hl => by
    simp only [rd_sum]
    rcases Nat.lt_or_ge s n with z | z
    · have := rd_sum_lt (fun t ht => h t (by omega)) z hl
      have := h n (by omega)
      omega
    · have e : s = n := by omega
      subst e
      have := rd_sum_le (n := s) (fun t ht => h t (by omega))
      omega
theorem rd_sum_bd {f : Nat → Nat} {K : Nat} : ∀ {n : Nat}, (∀ t, t < n → f t ≤ K) → rd_sum f n ≤ n * K
  | 0, _ => by simp [rd_sum]
  | n + 1, h => by
    have := rd_sum_bd (n := n) (fun t ht => h t (by omega))
    have := h n (by omega)
    simp only [rd_sum, Nat.succ_mul]
    omega
/-- a task's weight: what a turn without an instruction takes from -/
def rd_c (x p : Int32) : Nat := if x = 8 then 0 else if x = 7 then 1 else if x = 9 ∨ x = 6 then 2 else if x = 0 then (if p = 0 then 2 else 3) else 4
theorem rd_c8 (p : Int32) : rd_c 8 p = 0 := by simp [rd_c]
theorem rd_c7 (p : Int32) : rd_c 7 p = 1 := by simp [rd_c]
theorem rd_c9 (p : Int32) : rd_c 9 p = 2 := by simp [rd_c]
theorem rd_c6 (p : Int32) : rd_c 6 p = 2 := by simp [rd_c]
theorem rd_c00 : rd_c 0 0 = 2 := by simp [rd_c]
theorem rd_c0 {p : Int32} (h : p ≠ 0) : rd_c 0 p = 3 := by simp [rd_c, h]
theorem rd_c0_le (p : Int32) : rd_c 0 p ≤ 3 := by by_cases h : p = 0 <;> simp [rd_c, h]
theorem rd_c_le (x p : Int32) : rd_c x p ≤ 4 := by
  unfold rd_c
  repeat' split
  all_goals omega
theorem rd_c_w {x : Int32} (p : Int32) (h : x = 1 ∨ x = 2 ∨ x = 3 ∨ x = 4 ∨ x = 5) : rd_c x p = 4 := by
  rcases h with e | e | e | e | e <;> subst e <;> simp [rd_c]
theorem rd_c_ge {x : Int32} (p : Int32) (h7 : x ≠ 7) (h8 : x ≠ 8) : 2 ≤ rd_c x p := by
  unfold rd_c
  rw [if_neg h8, if_neg h7]
  repeat' split
  all_goals omega
def rd_w (cd pe dp : Nat → Int32) (t : Nat) : Nat := rd_c (cd t) (pe t) + 2 * (dp t).toNatClampNeg
def rd_ph (n : Nat) (A : rd_St) : Nat := rd_sum (rd_w (A 4) (A 12) (A 18)) n
/-! the invariant -/
def rd_rng (n K : Nat) (f : Nat → Int32) : Prop := ∀ t, t < n → ∃ j, j ≤ K ∧ f t = nI j
theorem rd_rng_u {n K : Nat} {f : Nat → Int32} {t j : Nat} (h : rd_rng n K f) (hj : j ≤ K) : rd_rng n K (upd f t (nI j)) := by
  intro s hs
  rw [rd_up]
  by_cases e : s = t
  · rw [if_pos e]; exact ⟨j, hj, rfl⟩
  · rw [if_neg e]; exact h s hs
def rd_op (ops ln : Nat → Int32) (b i : Nat) : Int32 := if i < (ln b).toNatClampNeg then ops (20 * b + i) else 25
def rd_scan (f : Nat → Int32) (P : Nat → Bool) : Nat → Nat → Option Nat
  | 0, _ => none
  | d + 1, i => if 16 ≤ f i ∧ f i ≤ 20 then (if P i then some i else rd_scan f P d (i + 1)) else none
def rd_oth (ops ln : Nat → Int32) (b p : Nat) : Option Nat := rd_scan (rd_op ops ln b) (fun i => decide (18 ≤ rd_op ops ln b i)) 21 (p + 1)
/-- an instruction whose operands are as said -/
def rd_fit (op a b : Int32) : Prop :=
  (∃ o, o < 26 ∧ op = nI o) ∧
  (op = 4 ∨ op = 5 ∨ op = 18 ∨ op = 19 ∨ op = 22 → ∃ j, j ≤ 20 ∧ a = nI j) ∧
  (op = 6 → ∃ j, j < 4 ∧ a = nI j) ∧
  (op = 9 ∨ op = 11 → (∃ j, j < 8 ∧ a = nI j) ∧ ∃ j, j < 3 ∧ b = nI j) ∧
  (op = 24 → ∃ j, j < 8 ∧ a = nI j) ∧
  (op = 10 ∨ op = 12 → ∃ j, j < 100 ∧ a = nI j) ∧
  (op = 13 → ∃ j, j < 3 ∧ a = nI j) ∧
  (op = 16 ∨ op = 17 → (∃ j, j < 3 ∧ a = nI j) ∧ ∃ j, j ≤ 20 ∧ b = nI j) ∧
  (op = 21 → ∃ j, j < 10 ∧ 0 < j ∧ a = nI j)
def rd_vG (ops as bs ln : Nat → Int32) : Prop := rd_rng 4 20 ln ∧ ∀ i, i < 80 → rd_fit (ops i) (as i) (bs i)
def rd_vN (n : Nat) (tk : Nat → Int32) : Prop := tk 0 = nI n ∧ n ≤ 8
def rd_vR (n : Nat) (cd : Nat → Int32) (w : List Nat) : Prop := w.Nodup ∧ ∀ t, t ∈ w ↔ (t < n ∧ cd t = 0)
def rd_vQ (n : Nat) (cd cq : Nat → Int32) (Q : Nat → List Nat) : Prop := ∀ q, (Q q).Nodup ∧ ∀ c, c ∈ Q q → c < n ∧ cd c = 1 ∧ cq c = nI q ∧ q < 3 * n
def rd_vF (n : Nat) (dp fk fv cd : Nat → Int32) : Prop := ∀ t, t < n → ∀ l, l < (dp t).toNatClampNeg → fk (8 * t + l) = 0 ∨ (fk (8 * t + l) = 1 ∧ ∃ c, c < n ∧ fv (8 * t + l) = nI c ∧ cd c = 2) ∨ (fk (8 * t + l) = 2 ∧ ∃ p, p ≤ 20 ∧ fv (8 * t + l) = nI p)
def rd_vU (n : Nat) (dp fk fv : Nat → Int32) : Prop := ∀ t, t < n → ∀ s, s < n → ∀ l, l < (dp t).toNatClampNeg → ∀ k, k < (dp s).toNatClampNeg → fk (8 * t + l) = 1 → fk (8 * s + k) = 1 → fv (8 * t + l) = fv (8 * s + k) → t = s ∧ l = k
def rd_vM (n : Nat) (ma : Nat → Int32) : Prop := ∀ t, t < n → (t = 0 ∧ ma t = -1) ∨ ∃ m, m < t ∧ ma t = nI m
def rd_vB (n : Nat) (dp fk ma mb cd : Nat → Int32) : Prop := ∀ u, u < n → cd u ≠ 8 → mb u = -1 ∨ ∃ m l, m < n ∧ ma u = nI m ∧ mb u = nI l ∧ l < (dp m).toNatClampNeg ∧ fk (8 * m + l) = 0
def rd_vX (n : Nat) (ma cd : Nat → Int32) : Prop := ∀ u, u < n → ∀ m, m < n → ma u = nI m → cd m = 8 → cd u = 8
def rd_vC (n : Nat) (dp cd : Nat → Int32) : Prop := ∀ t, t < n → cd t = 7 ∨ cd t = 8 → dp t = 0
def rd_lv (n : Nat) (ma mb cd : Nat → Int32) (t : Nat) (b : Int32) : Prop := ∃ u, u < n ∧ ma u = nI t ∧ mb u = b ∧ cd u ≠ 8
def rd_vE (n : Nat) (dp fk cd : Nat → Int32) : Prop := ∀ t, t < n → (cd t = 6 → ∃ d, d < 8 ∧ dp t = nI (d + 1) ∧ fk (8 * t + d) = 0) ∧ (cd t = 3 ∨ cd t = 4 → ∃ d, d < 8 ∧ dp t = nI d)
def rd_vL (n e : Nat) (dp ma mb cd : Nat → Int32) : Prop := ∀ t, t < n → t ≠ e → cd t = 6 → rd_lv n ma mb cd t (dp t - 1)
def rd_vK (n e : Nat) (ma mb cd : Nat → Int32) : Prop := ∀ t, t < n → t ≠ e → cd t = 7 → rd_lv n ma mb cd t (-1)
def rd_vD (D : Nat) (tm dn nc : Nat → Int32) : Prop := dn 0 = nI D ∧ D ≤ 500 ∧ (∃ T, T ≤ 99 * D ∧ tm 0 = nI T) ∧ ∃ c, c ≤ D ∧ nc 0 = nI c
def rd_vW (n D : Nat) (ops as ln cd pl bo wk wp : Nat → Int32) : Prop := ∀ t, t < n → wk t = -1 ∨ ((∃ x, x ≤ 99 * D ∧ wk t = nI x) ∧ (∃ y, y ≤ 21 ∧ wp t = nI y) ∧ (cd t = 1 ∧ wp t = pl t + 2 ∨ cd t = 5 ∧ wp t = pl t + 1 ∨ cd t = 4 ∧ ∃ b p i, (b < 4 ∧ p ≤ 21) ∧ bo t = nI b ∧ pl t = nI p ∧ rd_oth ops ln b p = some i ∧ wp t = as (20 * b + i)))
def rd_vP (n : Nat) (cd pe : Nat → Int32) : Prop := ∀ t, t < n → (cd t = 1 ∨ cd t = 2 ∨ cd t = 3 ∨ cd t = 4 ∨ cd t = 5) → pe t = 0
def rd_vZ (n : Nat) (cd cq : Nat → Int32) : Prop := ∀ t, t < n → cd t = 1 → ∃ q, q < 3 * n ∧ cq t = nI q
def rd_vA (n : Nat) (ops ln cd pl bo te pe : Nat → Int32) : Prop := ∀ t, t < n → (cd t = 1 ∨ cd t = 2 ∨ cd t = 3 ∨ cd t = 5 ∨ (cd t = 6 ∧ pe t = 0) → ∃ p, p < 20 ∧ pl t = nI p) ∧ (cd t = 4 → ∃ b p, p < 20 ∧ b < 4 ∧ bo t = nI b ∧ pl t = nI p ∧ te t = if (rd_oth ops ln b p).any (fun i => decide (rd_op ops ln b i = 20)) then 1 else 0)
def rd_Inv (n e D : Nat) (A : rd_St) (w : List Nat) (Q : Nat → List Nat) : Prop :=
  rd_vG (A 0) (A 1) (A 2) (A 3) ∧ rd_vN n (A 26) ∧ rd_vR n (A 4) w ∧ rd_vQ n (A 4) (A 15) Q ∧ rd_vF n (A 18) (A 19) (A 20) (A 4) ∧ rd_vU n (A 18) (A 19) (A 20) ∧ rd_vM n (A 9) ∧ rd_vB n (A 18) (A 19) (A 9) (A 10) (A 4) ∧ rd_vX n (A 9) (A 4) ∧ rd_vC n (A 18) (A 4) ∧ rd_vE n (A 18) (A 19) (A 4) ∧ rd_vL n e (A 18) (A 9) (A 10) (A 4) ∧ rd_vK n e (A 9) (A 10) (A 4) ∧ rd_vD D (A 27) (A 28) (A 25) ∧ rd_vW n D (A 0) (A 1) (A 3) (A 4) (A 5) (A 8) (A 16) (A 17) ∧ rd_vP n (A 4) (A 12) ∧ rd_vZ n (A 4) (A 15) ∧ rd_vA n (A 0) (A 3) (A 4) (A 5) (A 8) (A 14) (A 12) ∧
  rd_rng n 3 (A 8) ∧ rd_rng n 21 (A 5) ∧ rd_rng n 8 (A 18) ∧ rd_rng n 99 (A 11) ∧ rd_rng n 1 (A 13) ∧ rd_rng n 14 (A 12) ∧ rd_rng n 9 (A 4)
theorem rd_Inv.vG {n e D : Nat} {A : rd_St} {w : List Nat} {Q : Nat → List Nat} (h : rd_Inv n e D A w Q) : rd_vG (A 0) (A 1) (A 2) (A 3) := h.1
theorem rd_Inv.vN {n e D : Nat} {A : rd_St} {w : List Nat} {Q : Nat → List Nat} (h : rd_Inv n e D A w Q) : rd_vN n (A 26) := h.2.1
theorem rd_Inv.vR {n e D : Nat} {A : rd_St} {w : List Nat} {Q : Nat → List Nat} (h : rd_Inv n e D A w Q) : rd_vR n (A 4) w := h.2.2.1
theorem rd_Inv.vQ {n e D : Nat} {A : rd_St} {w : List Nat} {Q : Nat → List Nat} (h : rd_Inv n e D A w Q) : rd_vQ n (A 4) (A 15) Q := h.2.2.2.1
theorem rd_Inv.vF {n e D : Nat} {A : rd_St} {w : List Nat} {Q : Nat → List Nat} (h : rd_Inv n e D A w Q) : rd_vF n (A 18) (A 19) (A 20) (A 4) := h.2.2.2.2.1
theorem rd_Inv.vU {n e D : Nat} {A : rd_St} {w : List Nat} {Q : Nat → List Nat} (h : rd_Inv n e D A w Q) : rd_vU n (A 18) (A 19) (A 20) := h.2.2.2.2.2.1
theorem rd_Inv.vM {n e D : Nat} {A : rd_St} {w : List Nat} {Q : Nat → List Nat} (h : rd_Inv n e D A w Q) : rd_vM n (A 9) := h.2.2.2.2.2.2.1
theorem rd_Inv.vB {n e D : Nat} {A : rd_St} {w : List Nat} {Q : Nat → List Nat} (h : rd_Inv n e D A w Q) : rd_vB n (A 18) (A 19) (A 9) (A 10) (A 4) := h.2.2.2.2.2.2.2.1
theorem rd_Inv.vX {n e D : Nat} {A : rd_St} {w : List Nat} {Q : Nat → List Nat} (h : rd_Inv n e D A w Q) : rd_vX n (A 9) (A 4) := h.2.2.2.2.2.2.2.2.1
theorem rd_Inv.vC {n e D : Nat} {A : rd_St} {w : List Nat} {Q : Nat → List Nat} (h : rd_Inv n e D A w Q) : rd_vC n (A 18) (A 4) := h.2.2.2.2.2.2.2.2.2.1
theorem rd_Inv.vE {n e D : Nat} {A : rd_St} {w : List Nat} {Q : Nat → List Nat} (h : rd_Inv n e D A w Q) : rd_vE n (A 18) (A 19) (A 4) := h.2.2.2.2.2.2.2.2.2.2.1
theorem rd_Inv.vL {n e D : Nat} {A : rd_St} {w : List Nat} {Q : Nat → List Nat} (h : rd_Inv n e D A w Q) : rd_vL n e (A 18) (A 9) (A 10) (A 4) := h.2.2.2.2.2.2.2.2.2.2.2.1
theorem rd_Inv.vK {n e D : Nat} {A : rd_St} {w : List Nat} {Q : Nat → List Nat} (h : rd_Inv n e D A w Q) : rd_vK n e (A 9) (A 10) (A 4) := h.2.2.2.2.2.2.2.2.2.2.2.2.1
theorem rd_Inv.vD {n e D : Nat} {A : rd_St} {w : List Nat} {Q : Nat → List Nat} (h : rd_Inv n e D A w Q) : rd_vD D (A 27) (A 28) (A 25) := h.2.2.2.2.2.2.2.2.2.2.2.2.2.1
theorem rd_Inv.vW {n e D : Nat} {A : rd_St} {w : List Nat} {Q : Nat → List Nat} (h : rd_Inv n e D A w Q) : rd_vW n D (A 0) (A 1) (A 3) (A 4) (A 5) (A 8) (A 16) (A 17) := h.2.2.2.2.2.2.2.2.2.2.2.2.2.2.1
theorem rd_Inv.vP {n e D : Nat} {A : rd_St} {w : List Nat} {Q : Nat → List Nat} (h : rd_Inv n e D A w Q) : rd_vP n (A 4) (A 12) := h.2.2.2.2.2.2.2.2.2.2.2.2.2.2.2.1
theorem rd_Inv.vZ {n e D : Nat} {A : rd_St} {w : List Nat} {Q : Nat → List Nat} (h : rd_Inv n e D A w Q) : rd_vZ n (A 4) (A 15) := h.2.2.2.2.2.2.2.2.2.2.2.2.2.2.2.2.1
theorem rd_Inv.vA {n e D : Nat} {A : rd_St} {w : List Nat} {Q : Nat → List Nat} (h : rd_Inv n e D A w Q) : rd_vA n (A 0) (A 3) (A 4) (A 5) (A 8) (A 14) (A 12) := h.2.2.2.2.2.2.2.2.2.2.2.2.2.2.2.2.2.1
theorem rd_Inv.rbo {n e D : Nat} {A : rd_St} {w : List Nat} {Q : Nat → List Nat} (h : rd_Inv n e D A w Q) : rd_rng n 3 (A 8) := h.2.2.2.2.2.2.2.2.2.2.2.2.2.2.2.2.2.2.1
theorem rd_Inv.rpl {n e D : Nat} {A : rd_St} {w : List Nat} {Q : Nat → List Nat} (h : rd_Inv n e D A w Q) : rd_rng n 21 (A 5) := h.2.2.2.2.2.2.2.2.2.2.2.2.2.2.2.2.2.2.2.1
theorem rd_Inv.rdp {n e D : Nat} {A : rd_St} {w : List Nat} {Q : Nat → List Nat} (h : rd_Inv n e D A w Q) : rd_rng n 8 (A 18) := h.2.2.2.2.2.2.2.2.2.2.2.2.2.2.2.2.2.2.2.2.1
theorem rd_Inv.rli {n e D : Nat} {A : rd_St} {w : List Nat} {Q : Nat → List Nat} (h : rd_Inv n e D A w Q) : rd_rng n 99 (A 11) := h.2.2.2.2.2.2.2.2.2.2.2.2.2.2.2.2.2.2.2.2.2.1
theorem rd_Inv.rdm {n e D : Nat} {A : rd_St} {w : List Nat} {Q : Nat → List Nat} (h : rd_Inv n e D A w Q) : rd_rng n 1 (A 13) := h.2.2.2.2.2.2.2.2.2.2.2.2.2.2.2.2.2.2.2.2.2.2.1
theorem rd_Inv.rpe {n e D : Nat} {A : rd_St} {w : List Nat} {Q : Nat → List Nat} (h : rd_Inv n e D A w Q) : rd_rng n 14 (A 12) := h.2.2.2.2.2.2.2.2.2.2.2.2.2.2.2.2.2.2.2.2.2.2.2.1
theorem rd_Inv.rcd {n e D : Nat} {A : rd_St} {w : List Nat} {Q : Nat → List Nat} (h : rd_Inv n e D A w Q) : rd_rng n 9 (A 4) := h.2.2.2.2.2.2.2.2.2.2.2.2.2.2.2.2.2.2.2.2.2.2.2.2
