/-! completing, ending, frames -/
theorem rd_i_weak {n e D : Nat} {A : rd_St} {w : List Nat} {Q : Nat → List Nat} (h : rd_Inv n 8 D A w Q) : rd_Inv n e D A w Q :=
  have h8 := h.vN.2
  ⟨h.vG, h.vN, h.vR, h.vQ, h.vF, h.vU, h.vM, h.vB, h.vX, h.vC, h.vE, fun t ht _ => h.vL t ht (by omega), fun t ht _ => h.vK t ht (by omega), h.vD, h.vW, h.vP, h.vZ, h.vA, h.rbo, h.rpl, h.rdp, h.rli, h.rdm, h.rpe, h.rcd⟩
theorem rd_i_close {n e D : Nat} {A : rd_St} {w : List Nat} {Q : Nat → List Nat} (h : rd_Inv n e D A w Q) (h6 : A 4 e = 6 → rd_lv n (A 9) (A 10) (A 4) e (A 18 e - 1)) (h7 : A 4 e = 7 → rd_lv n (A 9) (A 10) (A 4) e (-1)) : rd_Inv n 8 D A w Q :=
  ⟨h.vG, h.vN, h.vR, h.vQ, h.vF, h.vU, h.vM, h.vB, h.vX, h.vC, h.vE, fun t ht _ z => by
    by_cases y : t = e
    · rw [y] at z ⊢; exact h6 z
    · exact h.vL t ht y z, fun t ht _ z => by
    by_cases y : t = e
    · rw [y] at z ⊢; exact h7 z
    · exact h.vK t ht y z, h.vD, h.vW, h.vP, h.vZ, h.vA, h.rbo, h.rpl, h.rdp, h.rli, h.rdm, h.rpe, h.rcd⟩
theorem rd_i_cmp {n D : Nat} {A : rd_St} {w : List Nat} {Q : Nat → List Nat} {t : Nat} (h : rd_Inv n 8 D A w Q) (ht : t < n) (h9 : A 4 t = 9) (hd : A 18 t = 0) : rd_Inv n t D (rd_sw A  4 t 7) w Q :=
  have k := rd_i_weak (e := t) h
  have c1 : A 4 t ≠ 8 := by rw [h9]; decide
  have c2 : A 4 t ≠ 0 := by rw [h9]; decide
  have c3 : A 4 t ≠ 1 := by rw [h9]; decide
  have c4 : A 4 t ≠ 2 := by rw [h9]; decide
  have c5 : A 4 t ≠ 4 := by rw [h9]; decide
  have c6 : A 4 t ≠ 5 := by rw [h9]; decide
  ⟨h.vG, h.vN, rd_vR_oth h.vR c2 (by decide), rd_vQ_cd h.vQ (rd_vQ_no h.vQ c3), rd_vF_cd h.vF (rd_nf_of h.vN.2 h.vF ht c4), h.vU, h.vM, rd_vB_cd h.vB c1, rd_vX_cd h.vX c1 (by decide), rd_vC_cd h.vC (fun _ => hd), rd_vE_cd h.vE (fun z => absurd z (by decide)) (fun z => absurd z (by decide)), rd_vL_cd k.vL (by decide) (fun z => absurd z (by decide)), rd_vK_cd k.vK (by decide) (fun _ => rfl), h.vD, rd_vW_cd' h.vW (rd_wk0 (A := A) h ht ⟨c3, c6, c5⟩), rd_vP_cd h.vP (fun z => absurd z (by decide)), rd_vZ_cd h.vZ (fun z => absurd z (by decide)), rd_vA_cd h.vA (Or.inr (Or.inl rfl)), h.rbo, h.rpl, h.rdp, h.rli, h.rdm, h.rpe, rd_rng_u (j := 7) h.rcd (by omega)⟩
/-- a completed task for which nothing lives ends; what is left to look at is the one that it depends on -/
theorem rd_i_term {n D : Nat} {A : rd_St} {w : List Nat} {Q : Nat → List Nat} {t e : Nat} (h : rd_Inv n t D A w Q) (ht : t < n) (h7 : A 4 t = 7) (hl : ¬ rd_lv n (A 9) (A 10) (A 4) t (-1)) (he : ∀ m, m < n → A 9 t = nI m → m = e) : rd_Inv n e D (rd_sw A  4 t 8) w Q := by
  have c1 : A 4 t ≠ 8 := by rw [h7]; decide
  have c2 : A 4 t ≠ 0 := by rw [h7]; decide
  have c3 : A 4 t ≠ 1 := by rw [h7]; decide
  have c4 : A 4 t ≠ 2 := by rw [h7]; decide
  have c5 : A 4 t ≠ 4 := by rw [h7]; decide
  have c6 : A 4 t ≠ 5 := by rw [h7]; decide
  have c7 : A 4 t ≠ 6 := by rw [h7]; decide
  have h8 := h.vN.2
  have hd : A 18 t = 0 := h.vC t ht (Or.inl h7)
  have live : ∀ k b, k < n → k ≠ e → k ≠ t → rd_lv n (A 9) (A 10) (A 4) k b → rd_lv n (A 9) (A 10) (upd (A 4) t 8) k b := by
    rintro k b hk hke hkt ⟨u, hu, e1, e2, e3⟩
    refine ⟨u, hu, e1, e2, ?_⟩
    rw [rd_un]
    · exact e3
    · intro z
      subst z
      exact hke (he k hk e1)
  refine ⟨h.vG, h.vN, rd_vR_oth h.vR c2 (by decide), rd_vQ_cd h.vQ (rd_vQ_no h.vQ c3), rd_vF_cd h.vF (rd_nf_of h8 h.vF ht c4), h.vU, h.vM, rd_vB_cd h.vB c1, ?_, rd_vC_cd h.vC (fun _ => hd), rd_vE_cd h.vE (fun z => absurd z (by decide)) (fun z => absurd z (by decide)), ?_, ?_, h.vD, rd_vW_cd' h.vW (rd_wk0 (A := A) h ht ⟨c3, c6, c5⟩), rd_vP_cd h.vP (fun z => absurd z (by decide)), rd_vZ_cd h.vZ (fun z => absurd z (by decide)), rd_vA_cd h.vA (Or.inr (Or.inr (Or.inl rfl))), h.rbo, h.rpl, h.rdp, h.rli, h.rdm, h.rpe, rd_rng_u (j := 8) h.rcd (by omega)⟩
  · intro u hu m hm e1 e2
    show upd (A 4) t 8 u = 8
    have e2 : upd (A 4) t 8 m = 8 := e2
    by_cases y : u = t
    · rw [y, rd_us]
    · rw [rd_un y]
      by_cases z : m = t
      · subst z
        apply Classical.byContradiction
        intro g
        rcases h.vB u hu g with x | ⟨m', l, hm', f1, f2, f3, f4⟩
        · exact hl ⟨u, hu, e1, x, g⟩
        · have : m' = m := rd_inj (by omega) (by omega) (f1.symm.trans e1)
          subst this
          rw [hd] at f3
          have : (0 : Int32).toNatClampNeg = 0 := by decide
          omega
      · rw [rd_un z] at e2
        exact h.vX u hu m hm e1 e2
  · intro k hk hke f
    have f : upd (A 4) t 8 k = 6 := f
    by_cases y : k = t
    · rw [y, rd_us] at f; exact absurd f (by decide)
    · rw [rd_un y] at f
      exact live k _ hk hke y (h.vL k hk y f)
  · intro k hk hke f
    have f : upd (A 4) t 8 k = 7 := f
    by_cases y : k = t
    · rw [y, rd_us] at f; exact absurd f (by decide)
    · rw [rd_un y] at f
      exact live k _ hk hke y (h.vK k hk y f)
/-! frames -/
theorem rd_cl {x : Int32} {d : Nat} (h : x = nI d) (hd : d < 2 ^ 31) : x.toNatClampNeg = d := by rw [h]; exact nI_clamp hd
theorem rd_i_push {n e D : Nat} {A : rd_St} {w : List Nat} {Q : Nat → List Nat} {t d : Nat} {k v : Int32} (h : rd_Inv n e D A w Q) (ht : t < n) (hd : A 18 t = nI d) (hd8 : d < 8) (hc : A 4 t ≠ 6 ∧ A 4 t ≠ 7 ∧ A 4 t ≠ 8 ∧ A 4 t ≠ 3 ∧ A 4 t ≠ 4) (hk : k = 0 ∨ (k = 1 ∧ ∃ c, c < n ∧ v = nI c ∧ A 4 c = 2 ∧ rd_nf n (A 18) (A 19) (A 20) c) ∨ (k = 2 ∧ ∃ p, p ≤ 20 ∧ v = nI p)) : rd_Inv n e D (rd_sw (rd_sw (rd_sw A  19 (8 * t + d) k)  20 (8 * t + d) v)  18 t (nI (d + 1))) w Q := by
  have h8 := h.vN.2
  have old : ∀ u, u < n → ∀ l, l < (upd (A 18) t (nI (d + 1)) u).toNatClampNeg → (u = t ∧ l = d) ∨ (l < (A 18 u).toNatClampNeg ∧ 8 * u + l ≠ 8 * t + d) := by
    intro u hu l hl
    by_cases y : u = t
    · subst y
      rw [rd_us, nI_clamp (by omega)] at hl
      by_cases z : l = d
      · exact Or.inl ⟨rfl, z⟩
      · refine Or.inr ⟨?_, by omega⟩
        rw [rd_cl hd (by omega)]; omega
    · rw [rd_un y] at hl
      obtain ⟨x, hx, e1, e2⟩ := rd_dpos h hu
      exact Or.inr ⟨hl, by omega⟩
  refine ⟨h.vG, h.vN, h.vR, h.vQ, ?_, ?_, h.vM, ?_, h.vX, ?_, ?_, ?_, h.vK, h.vD, h.vW, h.vP, h.vZ, h.vA, h.rbo, h.rpl, rd_rng_u h.rdp (by omega), h.rli, h.rdm, h.rpe, h.rcd⟩
  · intro u hu l hl
    show upd (A 19) (8 * t + d) k (8 * u + l) = 0 ∨ (upd (A 19) (8 * t + d) k (8 * u + l) = 1 ∧ ∃ c, c < n ∧ upd (A 20) (8 * t + d) v (8 * u + l) = nI c ∧ A 4 c = 2) ∨ (upd (A 19) (8 * t + d) k (8 * u + l) = 2 ∧ ∃ p, p ≤ 20 ∧ upd (A 20) (8 * t + d) v (8 * u + l) = nI p)
    rcases old u hu l hl with ⟨y, z⟩ | ⟨y, z⟩
    · subst y; subst z
      rw [rd_us, rd_us]
      rcases hk with a | ⟨a, c, b1, b2, b3, _⟩ | a
      · exact Or.inl a
      · exact Or.inr (Or.inl ⟨a, c, b1, b2, b3⟩)
      · exact Or.inr (Or.inr a)
    · rw [rd_un z, rd_un z]; exact h.vF u hu l y
  · intro u hu s hs l hl m hm
    show upd (A 19) (8 * t + d) k (8 * u + l) = 1 → upd (A 19) (8 * t + d) k (8 * s + m) = 1 → upd (A 20) (8 * t + d) v (8 * u + l) = upd (A 20) (8 * t + d) v (8 * s + m) → u = s ∧ l = m
    intro f1 f2 f3
    rcases old u hu l hl with ⟨y, z⟩ | ⟨y, z⟩
    · rcases old s hs m hm with ⟨y', z'⟩ | ⟨y', z'⟩
      · exact ⟨y.trans y'.symm, z.trans z'.symm⟩
      · subst y; subst z
        rw [rd_us] at f1 f3
        rw [rd_un z'] at f2 f3
        rcases hk with a | ⟨a, c, b1, b2, b3, b4⟩ | a
        · rw [a] at f1; exact absurd f1 (by decide)
        · exact absurd (f3.symm.trans b2) (b4 s hs m y' f2)
        · rw [a.1] at f1; exact absurd f1 (by decide)
    · rcases old s hs m hm with ⟨y', z'⟩ | ⟨y', z'⟩
      · subst y'; subst z'
        rw [rd_us] at f2 f3
        rw [rd_un z] at f1 f3
        rcases hk with a | ⟨a, c, b1, b2, b3, b4⟩ | a
        · rw [a] at f2; exact absurd f2 (by decide)
        · exact absurd (f3.trans b2) (b4 u hu l y f1)
        · rw [a.1] at f2; exact absurd f2 (by decide)
      · rw [rd_un z] at f1 f3
        rw [rd_un z'] at f2 f3
        exact h.vU u hu s hs l y m y' f1 f2 f3
  · intro u hu hcu
    rcases h.vB u hu hcu with a | ⟨m, l, hm, b1, b2, b3, b4⟩
    · exact Or.inl a
    · obtain ⟨x, hx, e1, e2⟩ := rd_dpos h hm
      refine Or.inr ⟨m, l, hm, b1, b2, ?_, ?_⟩
      · show l < (upd (A 18) t (nI (d + 1)) m).toNatClampNeg
        by_cases y : m = t
        · subst y
          rw [rd_us, nI_clamp (by omega)]
          rw [rd_cl hd (by omega)] at b3
          omega
        · rw [rd_un y]; exact b3
      · show upd (A 19) (8 * t + d) k (8 * m + l) = 0
        rw [rd_un]
        · exact b4
        · intro z
          have : m = t ∧ l = d := by omega
          obtain ⟨y, y'⟩ := this
          subst y
          rw [rd_cl hd (by omega)] at b3
          omega
  · intro u hu f
    show upd (A 18) t (nI (d + 1)) u = 0
    rw [rd_un]
    · exact h.vC u hu f
    · intro y
      subst y
      rcases f with f | f
      · exact hc.2.1 f
      · exact hc.2.2.1 f
  · intro u hu
    refine ⟨fun f => ?_, fun f => ?_⟩
    · have y : u ≠ t := by intro y; subst y; exact hc.1 f
      obtain ⟨x, hx, e1, e2⟩ := (h.vE u hu).1 f
      refine ⟨x, hx, ?_, ?_⟩
      · show upd (A 18) t (nI (d + 1)) u = _
        rw [rd_un y]; exact e1
      · show upd (A 19) (8 * t + d) k (8 * u + x) = 0
        rw [rd_un (by omega)]; exact e2
    · have y : u ≠ t := by
        intro y; subst y
        rcases f with f | f
        · exact hc.2.2.2.1 f
        · exact hc.2.2.2.2 f
      obtain ⟨x, hx, e1⟩ := (h.vE u hu).2 f
      refine ⟨x, hx, ?_⟩
      show upd (A 18) t (nI (d + 1)) u = _
      rw [rd_un y]; exact e1
  · intro u hu he f
    have y : u ≠ t := by intro y; subst y; exact hc.1 f
    show rd_lv n (A 9) (A 10) (A 4) u (upd (A 18) t (nI (d + 1)) u - 1)
    rw [rd_un y]; exact h.vL u hu he f
theorem rd_i_pop {n e D : Nat} {A : rd_St} {w : List Nat} {Q : Nat → List Nat} {t d : Nat} (h : rd_Inv n e D A w Q) (ht : t < n) (hd : A 18 t = nI (d + 1)) (hd8 : d < 8) (h6 : A 4 t ≠ 6) (hb : A 19 (8 * t + d) ≠ 0 ∨ ¬ rd_lv n (A 9) (A 10) (A 4) t (nI d)) : rd_Inv n e D (rd_sw A  18 t (nI d)) w Q := by
  have h8 := h.vN.2
  have old : ∀ u, u < n → ∀ l, l < (upd (A 18) t (nI d) u).toNatClampNeg → l < (A 18 u).toNatClampNeg := by
    intro u hu l hl
    by_cases y : u = t
    · subst y
      rw [rd_us, nI_clamp (by omega)] at hl
      rw [rd_cl hd (by omega)]; omega
    · rw [rd_un y] at hl; exact hl
  refine ⟨h.vG, h.vN, h.vR, h.vQ, fun u hu l hl => h.vF u hu l (old u hu l hl), fun u hu s hs l hl k hk => h.vU u hu s hs l (old u hu l hl) k (old s hs k hk), h.vM, ?_, h.vX, ?_, ?_, ?_, h.vK, h.vD, h.vW, h.vP, h.vZ, h.vA, h.rbo, h.rpl, rd_rng_u h.rdp (by omega), h.rli, h.rdm, h.rpe, h.rcd⟩
  · intro u hu hcu
    rcases h.vB u hu hcu with a | ⟨m, l, hm, b1, b2, b3, b4⟩
    · exact Or.inl a
    · refine Or.inr ⟨m, l, hm, b1, b2, ?_, b4⟩
      show l < (upd (A 18) t (nI d) m).toNatClampNeg
      by_cases y : m = t
      · subst y
        rw [rd_us, nI_clamp (by omega)]
        rw [rd_cl hd (by omega)] at b3
        have : l ≠ d := by
          intro z
          subst z
          rcases hb with hb | hb
          · exact hb b4
          · exact hb ⟨u, hu, b1, b2, hcu⟩
        omega
      · rw [rd_un y]; exact b3
  · intro u hu f
    have y : u ≠ t := by
      intro y; subst y
      have := h.vC u hu f
      rw [hd] at this
      exact absurd this (nI_ne0 (by omega) (by omega))
    show upd (A 18) t (nI d) u = 0
    rw [rd_un y]; exact h.vC u hu f
  · intro u hu
    refine ⟨fun f => ?_, fun f => ?_⟩
    · have y : u ≠ t := by intro y; subst y; exact h6 f
      obtain ⟨x, hx, e1, e2⟩ := (h.vE u hu).1 f
      refine ⟨x, hx, ?_, e2⟩
      show upd (A 18) t (nI d) u = _
      rw [rd_un y]; exact e1
    · by_cases y : u = t
      · subst y
        exact ⟨d, hd8, rd_us⟩
      · obtain ⟨x, hx, e1⟩ := (h.vE u hu).2 f
        refine ⟨x, hx, ?_⟩
        show upd (A 18) t (nI d) u = _
        rw [rd_un y]; exact e1
  · intro u hu he f
    have y : u ≠ t := by intro y; subst y; exact h6 f
    show rd_lv n (A 9) (A 10) (A 4) u (upd (A 18) t (nI d) u - 1)
    rw [rd_un y]; exact h.vL u hu he f
/-- the children at a block that goes depend on the task itself -/
def rd_re (n : Nat) (ma mb : Nat → Int32) (t d : Nat) : Nat → Int32 := fun u => if u < n ∧ ma u = nI t ∧ mb u = nI d then -1 else mb u
theorem rd_i_re {n e D : Nat} {A : rd_St} {w : List Nat} {Q : Nat → List Nat} {t d : Nat} (h : rd_Inv n e D A w Q) (ht : t < n) (hd8 : d < 8) (h6 : A 4 t = 9) : rd_Inv n e D (rd_sa A  10 (rd_re n (A 9) (A 10) t d)) w Q := by
  have h8 := h.vN.2
  have live : ∀ k b, k < n → k ≠ t → rd_lv n (A 9) (A 10) (A 4) k b → rd_lv n (A 9) (rd_re n (A 9) (A 10) t d) (A 4) k b := by
    rintro k b hk hkt ⟨u, hu, e1, e2, e3⟩
    refine ⟨u, hu, e1, ?_, e3⟩
    unfold rd_re
    rw [if_neg]
    · exact e2
    · rintro ⟨_, y, _⟩
      exact hkt (rd_inj (by omega) (by omega) (e1.symm.trans y))
  refine ⟨h.vG, h.vN, h.vR, h.vQ, h.vF, h.vU, h.vM, ?_, h.vX, h.vC, h.vE, ?_, ?_, h.vD, h.vW, h.vP, h.vZ, h.vA, h.rbo, h.rpl, h.rdp, h.rli, h.rdm, h.rpe, h.rcd⟩
  · intro u hu hcu
    show rd_re n (A 9) (A 10) t d u = -1 ∨ ∃ m l, m < n ∧ A 9 u = nI m ∧ rd_re n (A 9) (A 10) t d u = nI l ∧ l < (A 18 m).toNatClampNeg ∧ A 19 (8 * m + l) = 0
    unfold rd_re
    by_cases y : u < n ∧ A 9 u = nI t ∧ A 10 u = nI d
    · rw [if_pos y]; exact Or.inl rfl
    · rw [if_neg y]; exact h.vB u hu hcu
  · intro k hk hke f
    have y : k ≠ t := by
      intro y; subst y
      have f : A 4 k = 6 := f
      rw [h6] at f; exact absurd f (by decide)
    exact live k _ hk y (h.vL k hk hke f)
  · intro k hk hke f
    have y : k ≠ t := by
      intro y; subst y
      have f : A 4 k = 7 := f
      rw [h6] at f; exact absurd f (by decide)
    exact live k _ hk y (h.vK k hk hke f)
/-! places, exceptions, numbers -/
theorem rd_i_pl {n e D : Nat} {A : rd_St} {w : List Nat} {Q : Nat → List Nat} {t p : Nat} (h : rd_Inv n e D A w Q) (ht : t < n) (hp : p ≤ 21) (hc : A 4 t = 0 ∨ A 4 t = 7 ∨ A 4 t = 8 ∨ A 4 t = 9) : rd_Inv n e D (rd_sw A  5 t (nI p)) w Q := by
  have c0 : ∀ s : Int32, s = 1 ∨ s = 2 ∨ s = 3 ∨ s = 4 ∨ s = 5 ∨ s = 6 → A 4 t ≠ s := by
    intro s hs
    rcases hc with e | e | e | e <;> rw [e] <;> rcases hs with z | z | z | z | z | z <;> rw [z] <;> decide
  have hw := rd_wk0 h ht ⟨c0 1 (by simp), c0 5 (by simp), c0 4 (by simp)⟩
  refine ⟨h.vG, h.vN, h.vR, h.vQ, h.vF, h.vU, h.vM, h.vB, h.vX, h.vC, h.vE, h.vL, h.vK, h.vD, ?_, h.vP, h.vZ, ?_, h.rbo, rd_rng_u h.rpl hp, h.rdp, h.rli, h.rdm, h.rpe, h.rcd⟩
  · intro u hu
    by_cases y : u = t
    · rw [y]; exact Or.inl hw
    · show A 16 u = -1 ∨ ((∃ x, x ≤ 99 * D ∧ A 16 u = nI x) ∧ (∃ y, y ≤ 21 ∧ A 17 u = nI y) ∧ (A 4 u = 1 ∧ A 17 u = upd (A 5) t (nI p) u + 2 ∨ A 4 u = 5 ∧ A 17 u = upd (A 5) t (nI p) u + 1 ∨ A 4 u = 4 ∧ ∃ b p' i, (b < 4 ∧ p' ≤ 21) ∧ A 8 u = nI b ∧ upd (A 5) t (nI p) u = nI p' ∧ rd_oth (A 0) (A 3) b p' = some i ∧ A 17 u = A 1 (20 * b + i)))
      rw [rd_un y]; exact h.vW u hu
  · intro u hu
    by_cases y : u = t
    · subst y
      refine ⟨fun f => ?_, fun f => absurd f (c0 4 (by simp))⟩
      rcases f with f | f | f | f | f
      · exact absurd f (c0 1 (by simp))
      · exact absurd f (c0 2 (by simp))
      · exact absurd f (c0 3 (by simp))
      · exact absurd f (c0 5 (by simp))
      · exact absurd f.1 (c0 6 (by simp))
    · have := h.vA u hu
      refine ⟨fun f => ?_, fun f => ?_⟩
      · show ∃ p', p' < 20 ∧ upd (A 5) t (nI p) u = nI p'
        rw [rd_un y]; exact this.1 f
      · show ∃ b p', p' < 20 ∧ b < 4 ∧ A 8 u = nI b ∧ upd (A 5) t (nI p) u = nI p' ∧ A 14 u = if (rd_oth (A 0) (A 3) b p').any (fun i => decide (rd_op (A 0) (A 3) b i = 20)) then 1 else 0
        rw [rd_un y]; exact this.2 f
theorem rd_i_pe {n e D : Nat} {A : rd_St} {w : List Nat} {Q : Nat → List Nat} {t c : Nat} (h : rd_Inv n e D A w Q) (ht : t < n) (hp : c ≤ 14) (hc : A 4 t = 0 ∨ A 4 t = 7 ∨ A 4 t = 8 ∨ A 4 t = 9 ∨ (A 4 t = 6 ∧ c ≠ 0)) : rd_Inv n e D (rd_sw A  12 t (nI c)) w Q := by
  refine ⟨h.vG, h.vN, h.vR, h.vQ, h.vF, h.vU, h.vM, h.vB, h.vX, h.vC, h.vE, h.vL, h.vK, h.vD, h.vW, ?_, h.vZ, ?_, h.rbo, h.rpl, h.rdp, h.rli, h.rdm, rd_rng_u h.rpe hp, h.rcd⟩
  · intro u hu f
    by_cases y : u = t
    · subst y
      have f : A 4 u = 1 ∨ A 4 u = 2 ∨ A 4 u = 3 ∨ A 4 u = 4 ∨ A 4 u = 5 := f
      rcases hc with z | z | z | z | ⟨z, _⟩ <;> rw [z] at f <;> exact absurd f (by decide)
    · show upd (A 12) t (nI c) u = 0
      rw [rd_un y]; exact h.vP u hu f
  · intro u hu
    refine ⟨fun f => ?_, (h.vA u hu).2⟩
    by_cases y : u = t
    · subst y
      have f : A 4 u = 1 ∨ A 4 u = 2 ∨ A 4 u = 3 ∨ A 4 u = 5 ∨ (A 4 u = 6 ∧ upd (A 12) u (nI c) u = 0) := f
      rw [rd_us] at f
      rcases hc with z | z | z | z | ⟨z, z'⟩ <;> rw [z] at f
      · exact absurd f (by simp)
      · exact absurd f (by simp)
      · exact absurd f (by simp)
      · exact absurd f (by simp)
      · have : nI c = 0 := by
          rcases f with f | f | f | f | f
          · exact absurd f (by decide)
          · exact absurd f (by decide)
          · exact absurd f (by decide)
          · exact absurd f (by decide)
          · exact f.2
        exact absurd this (nI_ne0 (by omega) (by omega))
    · apply (h.vA u hu).1
      have f : A 4 u = 1 ∨ A 4 u = 2 ∨ A 4 u = 3 ∨ A 4 u = 5 ∨ (A 4 u = 6 ∧ upd (A 12) t (nI c) u = 0) := f
      rw [rd_un y] at f
      exact f
