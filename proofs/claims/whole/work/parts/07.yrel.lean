/-! the reference's own arrays against the bundle -/
def rd_cv (x : Int32) : Int32 := if x = 9 then -1 else x
theorem rd_cv_n {x : Int32} (h : x ≠ 9) : rd_cv x = x := if_neg h
theorem rd_cv_9 : rd_cv 9 = -1 := rfl
theorem rd_cv_eq {x s : Int32} (h1 : s ≠ -1) (h9 : s ≠ 9) : rd_cv x = s ↔ x = s := by
  unfold rd_cv
  by_cases e : x = 9
  · rw [if_pos e]
    constructor
    · intro z; exact absurd z.symm h1
    · intro z; exact absurd (z.symm.trans e) h9
  · rw [if_neg e]
def rd_y3 (n : Nat) (Q : Nat → List Nat) (wq qa : Nat → Int32) : Prop := ∀ q, q < 3 * n → wq q = nI (Q q).length ∧ rd_LV qa (8 * q) (Q q)
def rd_y4 (ex n : Nat) (cd pe rz : Nat → Int32) : Prop := ∀ t, t < n → cd t ≠ 7 → cd t ≠ 8 → cd t ≠ 9 → rz t = if t = ex then 0 else pe t
def rd_y5 (n : Nat) (dp fk fv fr : Nat → Int32) : Prop := ∀ t, t < n → ∀ l, l < (dp t).toNatClampNeg → fk (8 * t + l) ≠ 0 → fr (8 * t + l) = fv (8 * t + l)
def rd_y6 (n D : Nat) (dp fk fr : Nat → Int32) (bl : Int32) : Prop := ∃ b, b ≤ D ∧ bl = nI b ∧ ∀ t, t < n → ∀ l, l < (dp t).toNatClampNeg → fk (8 * t + l) = 0 → ∃ x, x < b ∧ fr (8 * t + l) = nI x
def rd_y7 (n : Nat) (dp fk fr : Nat → Int32) : Prop := ∀ t, t < n → ∀ l, l < (dp t).toNatClampNeg → ∀ k, k < (dp t).toNatClampNeg → fk (8 * t + l) = 0 → fk (8 * t + k) = 0 → fr (8 * t + l) = fr (8 * t + k) → l = k
def rd_y8 (n : Nat) (ma mb cd ob fr : Nat → Int32) : Prop := ∀ u, u < n → cd u ≠ 8 → (ma u = -1 → ob u = -1) ∧ ∀ m, m < n → ma u = nI m → (cd m = 9 → ob u = -1) ∧ (cd m ≠ 9 → mb u = -1 → ob u = -1) ∧ (cd m ≠ 9 → ∀ l, l < 8 → mb u = nI l → ob u = fr (8 * m + l))
def rd_y9 (cd st : Nat → Int32) : Prop := ∀ t, st t = rd_cv (cd t)
def rd_y10 (gl a0 am : Nat → Int32) : Prop := ∀ u, u < 8 → gl u = 1 → am u = a0 u
def rd_YL (ex n D : Nat) (A : rd_St) (w : List Nat) (Q : Nat → List Nat) (ra qa wq am rz ob fr st : Nat → Int32) (bl : Int32) : Prop :=
  rd_LV ra 0 w ∧ rd_rng 24 8 wq ∧ rd_y3 n Q wq qa ∧ rd_y4 ex n (A 4) (A 12) rz ∧ rd_y5 n (A 18) (A 19) (A 20) fr ∧ rd_y6 n D (A 18) (A 19) fr bl ∧ rd_y7 n (A 18) (A 19) fr ∧ rd_y8 n (A 9) (A 10) (A 4) ob fr ∧ rd_y9 (A 4) st ∧ rd_y10 (A 34) (A 24) am
section
variable {ex n D : Nat} {A : rd_St} {w : List Nat} {Q : Nat → List Nat} {ra qa wq am rz ob fr st : Nat → Int32} {bl : Int32}
theorem rd_YL.r (h : rd_YL ex n D A w Q ra qa wq am rz ob fr st bl) : rd_LV ra 0 w := h.1
theorem rd_YL.y2 (h : rd_YL ex n D A w Q ra qa wq am rz ob fr st bl) : rd_rng 24 8 wq := h.2.1
theorem rd_YL.y3 (h : rd_YL ex n D A w Q ra qa wq am rz ob fr st bl) : rd_y3 n Q wq qa := h.2.2.1
theorem rd_YL.y4 (h : rd_YL ex n D A w Q ra qa wq am rz ob fr st bl) : rd_y4 ex n (A 4) (A 12) rz := h.2.2.2.1
theorem rd_YL.y5 (h : rd_YL ex n D A w Q ra qa wq am rz ob fr st bl) : rd_y5 n (A 18) (A 19) (A 20) fr := h.2.2.2.2.1
theorem rd_YL.y6 (h : rd_YL ex n D A w Q ra qa wq am rz ob fr st bl) : rd_y6 n D (A 18) (A 19) fr bl := h.2.2.2.2.2.1
theorem rd_YL.y7 (h : rd_YL ex n D A w Q ra qa wq am rz ob fr st bl) : rd_y7 n (A 18) (A 19) fr := h.2.2.2.2.2.2.1
theorem rd_YL.y8 (h : rd_YL ex n D A w Q ra qa wq am rz ob fr st bl) : rd_y8 n (A 9) (A 10) (A 4) ob fr := h.2.2.2.2.2.2.2.1
theorem rd_YL.y9 (h : rd_YL ex n D A w Q ra qa wq am rz ob fr st bl) : rd_y9 (A 4) st := h.2.2.2.2.2.2.2.2.1
theorem rd_YL.y10 (h : rd_YL ex n D A w Q ra qa wq am rz ob fr st bl) : rd_y10 (A 34) (A 24) am := h.2.2.2.2.2.2.2.2.2
end
theorem rd_y9_u {cd st : Nat → Int32} {t : Nat} {s x : Int32} (h : rd_y9 cd st) (hx : x = rd_cv s) : rd_y9 (upd cd t s) (upd st t x) := by
  intro u
  rw [rd_up, rd_up]
  by_cases e : u = t
  · rw [if_pos e, if_pos e]; exact hx
  · rw [if_neg e, if_neg e]; exact h u
theorem rd_y4_cd {ex n : Nat} {cd pe rz : Nat → Int32} {t : Nat} {s : Int32} (h : rd_y4 ex n cd pe rz) (hs : (s = 7 ∨ s = 8 ∨ s = 9) ∨ (cd t ≠ 7 ∧ cd t ≠ 8 ∧ cd t ≠ 9)) : rd_y4 ex n (upd cd t s) pe rz := by
  intro u hu a b c
  by_cases e : u = t
  · subst e
    rw [rd_us] at a b c
    rcases hs with hs | hs
    · rcases hs with z | z | z
      · exact absurd z a
      · exact absurd z b
      · exact absurd z c
    · exact h u hu hs.1 hs.2.1 hs.2.2
  · rw [rd_un e] at a b c; exact h u hu a b c
theorem rd_y4_pe {ex n : Nat} {cd pe rz : Nat → Int32} {t : Nat} {v : Int32} (h : rd_y4 ex n cd pe rz) (ht : t ≠ ex) : rd_y4 ex n cd (upd pe t v) (upd rz t v) := by
  intro u hu a b c
  rw [rd_up, rd_up]
  by_cases e : u = t
  · rw [if_pos e, if_pos e, if_neg (by rw [e]; exact ht)]
  · rw [if_neg e, if_neg e]; exact h u hu a b c
theorem rd_y4_rz {ex n : Nat} {cd pe rz : Nat → Int32} {t : Nat} {v : Int32} (h : rd_y4 ex n cd pe rz) (hc : cd t = 7 ∨ cd t = 8 ∨ cd t = 9) : rd_y4 ex n cd pe (upd rz t v) := by
  intro u hu a b c
  by_cases e : u = t
  · subst e
    rcases hc with z | z | z
    · exact absurd z a
    · exact absurd z b
    · exact absurd z c
  · rw [rd_un e]; exact h u hu a b c
theorem rd_y4_n {ex n : Nat} {cd pe rz : Nat → Int32} {t : Nat} (h : rd_y4 ex n cd pe rz) (ht : t < n) (he : t ≠ ex) (h7 : cd t ≠ 7) (h8 : cd t ≠ 8) (h9 : cd t ≠ 9) : rz t = pe t := by
  have := h t ht h7 h8 h9
  rw [if_neg he] at this
  exact this
theorem rd_y8_cd {n : Nat} {ma mb cd ob fr : Nat → Int32} {t : Nat} {s : Int32} (h : rd_y8 n ma mb cd ob fr) (hs : s ≠ 9) (h9 : cd t ≠ 9) (h8 : cd t ≠ 8) : rd_y8 n ma mb (upd cd t s) ob fr := by
  intro u hu hc
  have hc' : cd u ≠ 8 := by
    by_cases e : u = t
    · rw [e]; exact h8
    · rw [rd_un e] at hc; exact hc
  obtain ⟨a, b⟩ := h u hu hc'
  refine ⟨a, fun m hm f => ?_⟩
  obtain ⟨b1, b2, b3⟩ := b m hm f
  by_cases e : m = t
  · subst e
    rw [rd_us]
    exact ⟨fun z => absurd z hs, fun _ => b2 h9, fun _ => b3 h9⟩
  · rw [rd_un e]; exact ⟨b1, b2, b3⟩
/-- a falling task without frames is completed -/
theorem rd_y8_cmp {n : Nat} {dp fk ma mb cd ob fr : Nat → Int32} {t : Nat} (h : rd_y8 n ma mb cd ob fr) (hn : n ≤ 8) (hB : rd_vB n dp fk ma mb cd) (h9 : cd t = 9) (hd : dp t = 0) : rd_y8 n ma mb (upd cd t 7) ob fr := by
  intro u hu hc
  have hc' : cd u ≠ 8 := by
    by_cases e : u = t
    · rw [e, h9]; decide
    · rw [rd_un e] at hc; exact hc
  obtain ⟨a, b⟩ := h u hu hc'
  refine ⟨a, fun m hm f => ?_⟩
  obtain ⟨b1, b2, b3⟩ := b m hm f
  by_cases e : m = t
  · subst e
    rw [rd_us]
    refine ⟨fun z => absurd z (by decide), fun _ _ => b1 h9, fun _ l hl z => ?_⟩
    rcases hB u hu hc' with y | ⟨m', l', hm', f1, f2, f3, f4⟩
    · exact absurd (z.symm.trans y) (rd_nm (by omega))
    · have : m' = m := rd_inj (by omega) (by omega) (f1.symm.trans f)
      subst this
      rw [hd] at f3
      have : (0 : Int32).toNatClampNeg = 0 := by decide
      omega
  · rw [rd_un e]; exact ⟨b1, b2, b3⟩
/-- a task begins to fall: what depended on its blocks depends on it -/
theorem rd_y8_fall {n : Nat} {ma mb cd ob ob' fr : Nat → Int32} {t : Nat} (hn : n ≤ 8) (ht : t < n) (h : rd_y8 n ma mb cd ob fr) (h8 : cd t ≠ 8) (ho : ∀ u, u < n → ob' u = if ma u = nI t then -1 else ob u) : rd_y8 n ma mb (upd cd t 9) ob' fr := by
  intro u hu hc
  have hc' : cd u ≠ 8 := by
    by_cases e : u = t
    · rw [e]; exact h8
    · rw [rd_un e] at hc; exact hc
  obtain ⟨a, b⟩ := h u hu hc'
  rw [ho u hu]
  refine ⟨fun f => ?_, fun m hm f => ?_⟩
  · rw [f, if_neg (fun z => rd_nm (a := t) (by omega) z.symm)]; exact a f
  · obtain ⟨b1, b2, b3⟩ := b m hm f
    by_cases e : m = t
    · subst e
      rw [rd_us, if_pos f]
      exact ⟨fun _ => rfl, fun _ _ => rfl, fun z => absurd rfl z⟩
    · rw [rd_un e, f, if_neg (fun z => e (rd_inj (by omega) (by omega) z))]
      exact ⟨b1, b2, b3⟩
/-- children at a block of a falling task -/
theorem rd_y8_re {n : Nat} {ma mb cd ob fr : Nat → Int32} {t d : Nat} (hn : n ≤ 8) (ht : t < n) (h : rd_y8 n ma mb cd ob fr) (h9 : cd t = 9) : rd_y8 n ma (rd_re n ma mb t d) cd ob fr := by
  intro u hu hc
  obtain ⟨a, b⟩ := h u hu hc
  refine ⟨a, fun m hm f => ?_⟩
  obtain ⟨b1, b2, b3⟩ := b m hm f
  by_cases e : m = t
  · subst e
    exact ⟨b1, fun z => absurd h9 z, fun z => absurd h9 z⟩
  · unfold rd_re
    rw [if_neg (fun z => e (rd_inj (by omega) (by omega) (f.symm.trans z.2.1)))]
    exact ⟨b1, b2, b3⟩
theorem rd_lv_m1 {n : Nat} {dp fk ma mb cd ob fr : Nat → Int32} {D t : Nat} {bl : Int32} (hn : n ≤ 8) (hDD : D ≤ 500) (ht : t < n) (hB : rd_vB n dp fk ma mb cd) (hr : rd_rng n 8 dp) (h6 : rd_y6 n D dp fk fr bl) (h8 : rd_y8 n ma mb cd ob fr) (h9 : cd t ≠ 9) : rd_lv n ma ob cd t (-1) ↔ rd_lv n ma mb cd t (-1) := by
  constructor
  · rintro ⟨u, hu, e1, e2, e3⟩
    refine ⟨u, hu, e1, ?_, e3⟩
    obtain ⟨_, b⟩ := h8 u hu e3
    obtain ⟨_, b2, b3⟩ := b t ht e1
    rcases hB u hu e3 with y | ⟨m, l, hm, f1, f2, f3, f4⟩
    · exact y
    · have : m = t := rd_inj (by omega) (by omega) (f1.symm.trans e1)
      subst this
      obtain ⟨b', hb', _, g⟩ := h6
      obtain ⟨x, hx, gx⟩ := g m hm l f3 f4
      obtain ⟨j, hj, gj⟩ := hr m hm
      rw [gj, nI_clamp (by omega)] at f3
      have := b3 h9 l (by omega) f2
      rw [e2, gx] at this
      exact absurd this.symm (rd_nm (by omega))
  · rintro ⟨u, hu, e1, e2, e3⟩
    refine ⟨u, hu, e1, ?_, e3⟩
    obtain ⟨_, b⟩ := h8 u hu e3
    exact (b t ht e1).2.1 h9 e2
theorem rd_lv_bl {n : Nat} {dp fk ma mb cd ob fr : Nat → Int32} {D t l : Nat} {bl : Int32} (hn : n ≤ 8) (hDD : D ≤ 500) (ht : t < n) (hB : rd_vB n dp fk ma mb cd) (hr : rd_rng n 8 dp) (h6 : rd_y6 n D dp fk fr bl) (h7 : rd_y7 n dp fk fr) (h8 : rd_y8 n ma mb cd ob fr) (h9 : cd t ≠ 9) (hl : l < (dp t).toNatClampNeg) (hk : fk (8 * t + l) = 0) : rd_lv n ma ob cd t (fr (8 * t + l)) ↔ rd_lv n ma mb cd t (nI l) := by
  have l8 : ∀ l, l < (dp t).toNatClampNeg → l < 8 := by
    intro l hl
    obtain ⟨j, hj, gj⟩ := hr t ht
    rw [gj, nI_clamp (by omega)] at hl
    omega
  constructor
  · rintro ⟨u, hu, e1, e2, e3⟩
    refine ⟨u, hu, e1, ?_, e3⟩
    obtain ⟨_, b⟩ := h8 u hu e3
    obtain ⟨_, b2, b3⟩ := b t ht e1
    rcases hB u hu e3 with y | ⟨m, k, hm, f1, f2, f3, f4⟩
    · obtain ⟨b', hb', _, g⟩ := h6
      obtain ⟨x, hx, gx⟩ := g t ht l hl hk
      have := b2 h9 y
      rw [e2, gx] at this
      exact absurd this (rd_nm (by omega))
    · have : m = t := rd_inj (by omega) (by omega) (f1.symm.trans e1)
      subst this
      have := b3 h9 k (l8 k f3) f2
      rw [e2] at this
      rw [h7 m hm l hl k f3 hk f4 this]
      exact f2
  · rintro ⟨u, hu, e1, e2, e3⟩
    refine ⟨u, hu, e1, ?_, e3⟩
    obtain ⟨_, b⟩ := h8 u hu e3
    exact (b t ht e1).2.2 h9 l (l8 l hl) e2
theorem rd_YL_pop {ex n D : Nat} {A : rd_St} {w : List Nat} {Q : Nat → List Nat} {ra qa wq am rz ob fr st : Nat → Int32} {bl : Int32} {t d : Nat} (h : rd_YL ex n D A w Q ra qa wq am rz ob fr st bl) (hd : A 18 t = nI (d + 1)) (h8 : d < 8) : rd_YL ex n D (rd_sw A  18 t (nI d)) w Q ra qa wq am rz ob fr st bl := by
  have old : ∀ u l, l < (upd (A 18) t (nI d) u).toNatClampNeg → l < (A 18 u).toNatClampNeg := by
    intro u l hl
    by_cases y : u = t
    · subst y
      rw [rd_us, nI_clamp (by omega)] at hl
      rw [rd_cl hd (by omega)]; omega
    · rw [rd_un y] at hl; exact hl
  obtain ⟨b, b1, b2, b3⟩ := h.y6
  exact ⟨h.r, h.y2, h.y3, h.y4, fun u hu l hl => h.y5 u hu l (old u l hl), ⟨b, b1, b2, fun u hu l hl => b3 u hu l (old u l hl)⟩, fun u hu l hl k hk => h.y7 u hu l (old u l hl) k (old u k hk), h.y8, h.y9, h.y10⟩
