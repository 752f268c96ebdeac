/-! a new task; numbers -/
theorem rd_rng_n {n K : Nat} {f : Nat → Int32} {j : Nat} {x : Int32} (h : rd_rng n K f) (hx : x = nI j) (hj : j ≤ K) : rd_rng (n + 1) K (upd f n x) := by
  intro s hs
  rw [rd_up]
  by_cases e : s = n
  · rw [if_pos e]; exact ⟨j, hj, hx⟩
  · rw [if_neg e]; exact h s (by omega)
def rd_new (A : rd_St) (n : Nat) (b mk bl : Int32) : rd_St :=
  rd_sw (rd_sw (rd_sw (rd_sw (rd_sw (rd_sw (rd_sw (rd_sw (rd_sw (rd_sw (rd_sw (rd_sw (rd_sw A  26 0 (nI (n + 1)))  5 n 0)  6 n 0)  7 n (-1))  8 n b)  9 n mk)  10 n bl)  11 n 0)  12 n 0)  13 n 0)  18 n 0)  4 n 0)  16 n (-1)
theorem rd_i_new {n D : Nat} {A : rd_St} {w : List Nat} {Q : Nat → List Nat} {b : Nat} {mk bl : Int32} (h : rd_Inv n 8 D A w Q) (hn : n < 8) (hb : b ≤ 3) (hm : (n = 0 ∧ mk = -1 ∧ bl = -1) ∨ ∃ m, m < n ∧ mk = nI m ∧ A 4 m ≠ 8 ∧ (bl = -1 ∨ ∃ l, bl = nI l ∧ l < (A 18 m).toNatClampNeg ∧ A 19 (8 * m + l) = 0)) : rd_Inv (n + 1) 8 D (rd_new A n (nI b) mk bl) (w ++ [n]) Q := by
  have c0 : (0 : Int32).toNatClampNeg = 0 := by decide
  have lv : ∀ k b', k < n → rd_lv n (A 9) (A 10) (A 4) k b' → rd_lv (n + 1) (upd (A 9) n mk) (upd (A 10) n bl) (upd (A 4) n 0) k b' := by
    rintro k b' hk ⟨u, hu, e1, e2, e3⟩
    have y : u ≠ n := by omega
    refine ⟨u, by omega, ?_, ?_, ?_⟩
    · rw [rd_un y]; exact e1
    · rw [rd_un y]; exact e2
    · rw [rd_un y]; exact e3
  refine ⟨h.vG, ⟨rfl, by omega⟩, ?_, ?_, ?_, ?_, ?_, ?_, ?_, ?_, ?_, ?_, ?_, h.vD, ?_, ?_, ?_, ?_, rd_rng_n h.rbo rfl hb, rd_rng_n (j := 0) h.rpl rfl (by omega), rd_rng_n (j := 0) h.rdp rfl (by omega), rd_rng_n (j := 0) h.rli rfl (by omega), rd_rng_n (j := 0) h.rdm rfl (by omega), rd_rng_n (j := 0) h.rpe rfl (by omega), rd_rng_n (j := 0) h.rcd rfl (by omega)⟩
  · refine ⟨?_, fun t => ?_⟩
    · rw [List.nodup_append]
      refine ⟨h.vR.1, by simp, ?_⟩
      intro a ha c hc
      simp at hc
      subst hc
      intro z
      subst z
      have := ((h.vR.2 a).mp ha).1
      omega
    · show t ∈ w ++ [n] ↔ (t < n + 1 ∧ upd (A 4) n 0 t = 0)
      rw [List.mem_append, h.vR.2 t, rd_up]
      by_cases z : t = n
      · rw [if_pos z]; subst z; simp
      · rw [if_neg z]
        simp only [List.mem_cons, List.not_mem_nil, or_false, z]
        constructor
        · rintro ⟨a, b⟩; exact ⟨by omega, b⟩
        · rintro ⟨a, b⟩; exact ⟨by omega, b⟩
  · intro q
    refine ⟨(h.vQ q).1, fun c hc => ?_⟩
    obtain ⟨a1, a2, a3, a4⟩ := (h.vQ q).2 c hc
    refine ⟨by omega, ?_, a3, by omega⟩
    show upd (A 4) n 0 c = 1
    rw [rd_un (by omega)]; exact a2
  · intro t ht l hl
    have hl : l < (upd (A 18) n 0 t).toNatClampNeg := hl
    by_cases z : t = n
    · rw [z, rd_us, c0] at hl; omega
    · rw [rd_un z] at hl
      rcases h.vF t (by omega) l hl with a | ⟨a, c, a1, a2, a3⟩ | a
      · exact Or.inl a
      · refine Or.inr (Or.inl ⟨a, c, by omega, a2, ?_⟩)
        show upd (A 4) n 0 c = 2
        rw [rd_un (by omega)]; exact a3
      · exact Or.inr (Or.inr a)
  · intro t ht s hs l hl k hk
    have hl : l < (upd (A 18) n 0 t).toNatClampNeg := hl
    have hk : k < (upd (A 18) n 0 s).toNatClampNeg := hk
    by_cases z : t = n
    · rw [z, rd_us, c0] at hl; omega
    · by_cases y : s = n
      · rw [y, rd_us, c0] at hk; omega
      · rw [rd_un z] at hl
        rw [rd_un y] at hk
        exact h.vU t (by omega) s (by omega) l hl k hk
  · intro t ht
    show (t = 0 ∧ upd (A 9) n mk t = -1) ∨ ∃ m, m < t ∧ upd (A 9) n mk t = nI m
    by_cases z : t = n
    · subst z
      rw [rd_us]
      rcases hm with ⟨a, b, _⟩ | ⟨m, a, b, _⟩
      · exact Or.inl ⟨a, b⟩
      · exact Or.inr ⟨m, a, b⟩
    · rw [rd_un z]; exact h.vM t (by omega)
  · intro u hu hc
    have hc : upd (A 4) n 0 u ≠ 8 := hc
    show upd (A 10) n bl u = -1 ∨ ∃ m l, m < n + 1 ∧ upd (A 9) n mk u = nI m ∧ upd (A 10) n bl u = nI l ∧ l < (upd (A 18) n 0 m).toNatClampNeg ∧ A 19 (8 * m + l) = 0
    by_cases z : u = n
    · subst z
      rw [rd_us, rd_us]
      rcases hm with ⟨_, _, a⟩ | ⟨m, a, b, _, d | ⟨l, d1, d2, d3⟩⟩
      · exact Or.inl a
      · exact Or.inl d
      · refine Or.inr ⟨m, l, by omega, b, d1, ?_, d3⟩
        rw [rd_un (by omega)]; exact d2
    · rw [rd_un z] at hc ⊢
      rw [rd_un z]
      rcases h.vB u (by omega) hc with a | ⟨m, l, a1, a2, a3, a4, a5⟩
      · exact Or.inl a
      · refine Or.inr ⟨m, l, by omega, a2, a3, ?_, a5⟩
        rw [rd_un (by omega)]; exact a4
  · intro u hu m hm' e1' e2'
    have e1 : upd (A 9) n mk u = nI m := e1'
    have e2 : upd (A 4) n 0 m = 8 := e2'
    clear e1' e2'
    show upd (A 4) n 0 u = 8
    by_cases y : m = n
    · rw [y, rd_us] at e2; exact absurd e2 (by decide)
    · rw [rd_un y] at e2
      by_cases z : u = n
      · subst z
        rw [rd_us] at e1
        rcases hm with ⟨_, a, _⟩ | ⟨m', a, b, c, _⟩
        · exact absurd (e1.symm.trans a) (rd_nm (by omega))
        · have : m' = m := rd_inj (by omega) (by omega) (b.symm.trans e1)
          subst this
          exact absurd e2 c
      · rw [rd_un z] at e1 ⊢
        exact h.vX u (by omega) m (by omega) e1 e2
  · intro t ht f
    have f : upd (A 4) n 0 t = 7 ∨ upd (A 4) n 0 t = 8 := f
    show upd (A 18) n 0 t = 0
    by_cases z : t = n
    · rw [z, rd_us]
    · rw [rd_un z] at f ⊢; exact h.vC t (by omega) f
  · intro t ht
    show (upd (A 4) n 0 t = 6 → ∃ d, d < 8 ∧ upd (A 18) n 0 t = nI (d + 1) ∧ A 19 (8 * t + d) = 0) ∧ (upd (A 4) n 0 t = 3 ∨ upd (A 4) n 0 t = 4 → ∃ d, d < 8 ∧ upd (A 18) n 0 t = nI d)
    by_cases z : t = n
    · rw [z, rd_us]; exact ⟨fun f => absurd f (by decide), fun f => absurd f (by decide)⟩
    · rw [rd_un z, rd_un z]; exact h.vE t (by omega)
  · intro t ht he f
    have f : upd (A 4) n 0 t = 6 := f
    by_cases z : t = n
    · rw [z, rd_us] at f; exact absurd f (by decide)
    · rw [rd_un z] at f
      show rd_lv (n + 1) (upd (A 9) n mk) (upd (A 10) n bl) (upd (A 4) n 0) t (upd (A 18) n 0 t - 1)
      rw [rd_un (f := A 18) z]
      exact lv t _ (by omega) (h.vL t (by omega) he f)
  · intro t ht he f
    have f : upd (A 4) n 0 t = 7 := f
    by_cases z : t = n
    · rw [z, rd_us] at f; exact absurd f (by decide)
    · rw [rd_un z] at f
      exact lv t _ (by omega) (h.vK t (by omega) he f)
  · intro t ht
    by_cases z : t = n
    · refine Or.inl ?_
      show upd (A 16) n (-1) t = -1
      rw [z, rd_us]
    · show upd (A 16) n (-1) t = -1 ∨ ((∃ x, x ≤ 99 * D ∧ upd (A 16) n (-1) t = nI x) ∧ (∃ y, y ≤ 21 ∧ A 17 t = nI y) ∧ (upd (A 4) n 0 t = 1 ∧ A 17 t = upd (A 5) n 0 t + 2 ∨ upd (A 4) n 0 t = 5 ∧ A 17 t = upd (A 5) n 0 t + 1 ∨ upd (A 4) n 0 t = 4 ∧ ∃ b' p i, (b' < 4 ∧ p ≤ 21) ∧ upd (A 8) n (nI b) t = nI b' ∧ upd (A 5) n 0 t = nI p ∧ rd_oth (A 0) (A 3) b' p = some i ∧ A 17 t = A 1 (20 * b' + i)))
      rw [rd_un z, rd_un z, rd_un z, rd_un z]
      exact h.vW t (by omega)
  · intro t ht f
    have f : upd (A 4) n 0 t = 1 ∨ upd (A 4) n 0 t = 2 ∨ upd (A 4) n 0 t = 3 ∨ upd (A 4) n 0 t = 4 ∨ upd (A 4) n 0 t = 5 := f
    show upd (A 12) n 0 t = 0
    by_cases z : t = n
    · rw [z, rd_us]
    · rw [rd_un z] at f ⊢; exact h.vP t (by omega) f
  · intro t ht f
    have f : upd (A 4) n 0 t = 1 := f
    by_cases z : t = n
    · rw [z, rd_us] at f; exact absurd f (by decide)
    · rw [rd_un z] at f
      obtain ⟨q, a, b⟩ := h.vZ t (by omega) f
      exact ⟨q, by omega, b⟩
  · intro t ht
    show (upd (A 4) n 0 t = 1 ∨ upd (A 4) n 0 t = 2 ∨ upd (A 4) n 0 t = 3 ∨ upd (A 4) n 0 t = 5 ∨ (upd (A 4) n 0 t = 6 ∧ upd (A 12) n 0 t = 0) → ∃ p, p < 20 ∧ upd (A 5) n 0 t = nI p) ∧ (upd (A 4) n 0 t = 4 → ∃ b' p, p < 20 ∧ b' < 4 ∧ upd (A 8) n (nI b) t = nI b' ∧ upd (A 5) n 0 t = nI p ∧ A 14 t = if (rd_oth (A 0) (A 3) b' p).any (fun i => decide (rd_op (A 0) (A 3) b' i = 20)) then 1 else 0)
    by_cases z : t = n
    · subst z
      rw [rd_us]
      exact ⟨fun f => absurd f (by simp), fun f => absurd f (by decide)⟩
    · rw [rd_un z, rd_un z, rd_un z, rd_un z]
      exact h.vA t (by omega)
theorem rd_i_dn {n e D : Nat} {A : rd_St} {w : List Nat} {Q : Nat → List Nat} (h : rd_Inv n e D A w Q) (hD : D < 500) : rd_Inv n e (D + 1) (rd_sw A  28 0 (nI (D + 1))) w Q := by
  refine ⟨h.vG, h.vN, h.vR, h.vQ, h.vF, h.vU, h.vM, h.vB, h.vX, h.vC, h.vE, h.vL, h.vK, ?_, ?_, h.vP, h.vZ, h.vA, h.rbo, h.rpl, h.rdp, h.rli, h.rdm, h.rpe, h.rcd⟩
  · obtain ⟨a, b, ⟨T, c1, c2⟩, ⟨c, d1, d2⟩⟩ := h.vD
    exact ⟨rfl, by omega, ⟨T, by omega, c2⟩, ⟨c, by omega, d2⟩⟩
  · intro t ht
    rcases h.vW t ht with a | ⟨⟨x, a1, a2⟩, b⟩
    · exact Or.inl a
    · exact Or.inr ⟨⟨x, by omega, a2⟩, b⟩
theorem rd_i_tm {n e D T : Nat} {A : rd_St} {w : List Nat} {Q : Nat → List Nat} (h : rd_Inv n e D A w Q) (hT : T ≤ 99 * D) : rd_Inv n e D (rd_sw A  27 0 (nI T)) w Q := by
  refine ⟨h.vG, h.vN, h.vR, h.vQ, h.vF, h.vU, h.vM, h.vB, h.vX, h.vC, h.vE, h.vL, h.vK, ?_, h.vW, h.vP, h.vZ, h.vA, h.rbo, h.rpl, h.rdp, h.rli, h.rdm, h.rpe, h.rcd⟩
  obtain ⟨a, b, ⟨T', c1, c2⟩, d⟩ := h.vD
  exact ⟨a, b, ⟨T, hT, rfl⟩, d⟩
theorem rd_i_nc {n e D c : Nat} {A : rd_St} {w : List Nat} {Q : Nat → List Nat} (h : rd_Inv n e D A w Q) (hc : c ≤ D) : rd_Inv n e D (rd_sw A  25 0 (nI c)) w Q := by
  refine ⟨h.vG, h.vN, h.vR, h.vQ, h.vF, h.vU, h.vM, h.vB, h.vX, h.vC, h.vE, h.vL, h.vK, ?_, h.vW, h.vP, h.vZ, h.vA, h.rbo, h.rpl, h.rdp, h.rli, h.rdm, h.rpe, h.rcd⟩
  obtain ⟨a, b, c', d⟩ := h.vD
  exact ⟨a, b, c', ⟨c, hc, rfl⟩⟩
theorem rd_i_li {n e D c t : Nat} {A : rd_St} {w : List Nat} {Q : Nat → List Nat} (h : rd_Inv n e D A w Q) (hc : c ≤ 99) : rd_Inv n e D (rd_sw A  11 t (nI c)) w Q :=
  ⟨h.vG, h.vN, h.vR, h.vQ, h.vF, h.vU, h.vM, h.vB, h.vX, h.vC, h.vE, h.vL, h.vK, h.vD, h.vW, h.vP, h.vZ, h.vA, h.rbo, h.rpl, h.rdp, rd_rng_u h.rli hc, h.rdm, h.rpe, h.rcd⟩
theorem rd_i_dm {n e D c t : Nat} {A : rd_St} {w : List Nat} {Q : Nat → List Nat} (h : rd_Inv n e D A w Q) (hc : c ≤ 1) : rd_Inv n e D (rd_sw A  13 t (nI c)) w Q :=
  ⟨h.vG, h.vN, h.vR, h.vQ, h.vF, h.vU, h.vM, h.vB, h.vX, h.vC, h.vE, h.vL, h.vK, h.vD, h.vW, h.vP, h.vZ, h.vA, h.rbo, h.rpl, h.rdp, h.rli, rd_rng_u h.rdm hc, h.rpe, h.rcd⟩
theorem rd_i_xs {n e D t : Nat} {A : rd_St} {w : List Nat} {Q : Nat → List Nat} {x : Int32} (h : rd_Inv n e D A w Q) : rd_Inv n e D (rd_sw A  6 t x) w Q :=
  ⟨h.vG, h.vN, h.vR, h.vQ, h.vF, h.vU, h.vM, h.vB, h.vX, h.vC, h.vE, h.vL, h.vK, h.vD, h.vW, h.vP, h.vZ, h.vA, h.rbo, h.rpl, h.rdp, h.rli, h.rdm, h.rpe, h.rcd⟩
theorem rd_i_en {n e D t : Nat} {A : rd_St} {w : List Nat} {Q : Nat → List Nat} {x : Int32} (h : rd_Inv n e D A w Q) : rd_Inv n e D (rd_sw A  7 t x) w Q :=
  ⟨h.vG, h.vN, h.vR, h.vQ, h.vF, h.vU, h.vM, h.vB, h.vX, h.vC, h.vE, h.vL, h.vK, h.vD, h.vW, h.vP, h.vZ, h.vA, h.rbo, h.rpl, h.rdp, h.rli, h.rdm, h.rpe, h.rcd⟩
/-- a task that waited for its block goes on without it -/
theorem rd_i_left {n D : Nat} {A : rd_St} {w : List Nat} {Q : Nat → List Nat} {t d p : Nat} (h : rd_Inv n t D A w Q) (ht : t < n) (h6 : A 4 t = 6) (hd8 : d < 8) (hd : A 18 t = nI (d + 1)) (hl : ¬ rd_lv n (A 9) (A 10) (A 4) t (nI d)) (hp : p ≤ 21) : rd_Inv n 8 D (rd_ready (rd_sw (rd_sw A  18 t (nI d))  5 t (nI p)) t) (w ++ [t]) Q := by
  have c1 : A 4 t ≠ 8 := by rw [h6]; decide
  have c2 : A 4 t ≠ 0 := by rw [h6]; decide
  have c3 : A 4 t ≠ 1 := by rw [h6]; decide
  have c4 : A 4 t ≠ 2 := by rw [h6]; decide
  have r := rd_i_ready h ht c2 c1 (rd_vQ_no h.vQ c3) (rd_nf_of h.vN.2 h.vF ht c4)
  have z : (rd_ready A t) 4 t = 0 := rd_us
  have r2 := rd_i_close r (fun y => absurd (z.symm.trans y) (by decide)) (fun y => absurd (z.symm.trans y) (by decide))
  have r3 := rd_i_pop (d := d) r2 ht hd hd8 (fun y => absurd (z.symm.trans y) (by decide)) (Or.inr (fun y => hl (rd_lv_cd' y c1)))
  exact rd_i_pl (p := p) r3 ht hp (Or.inl z)
