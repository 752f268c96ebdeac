/-! waiting, queues, new tasks, weights -/
theorem rd_sw_sw {A : rd_St} {k i : Nat} {x y : Int32} : rd_sw (rd_sw A k i x) k i y = rd_sw A k i y := by
  funext j
  simp only [rd_sw_ap]
  by_cases e : j = k
  · subst e; simp [rd_uu]
  · simp [e]
theorem rd_sw_eq {A : rd_St} {k i : Nat} {x : Int32} (h : A k i = x) : rd_sw A k i x = A := by
  funext j
  rw [rd_sw_ap]
  by_cases e : j = k
  · rw [if_pos e, rd_ue h, e]
  · rw [if_neg e]
theorem rd_i_wait {n D : Nat} {A : rd_St} {w : List Nat} {Q : Nat → List Nat} {t s : Nat} (h : rd_Inv n 8 D A w Q) (ht : t < n) (h0 : A 4 t = 0) (hs : s = 1 ∨ s = 2 ∨ s = 3 ∨ s = 5) (hp : ∃ p, p < 20 ∧ A 5 t = nI p) (he : A 12 t = 0) (h3 : nI s = 3 ∨ nI s = 4 → ∃ d, d < 8 ∧ A 18 t = nI d) (hz : nI s = 1 → ∃ q, q < 3 * n ∧ A 15 t = nI q) : rd_Inv n 8 D (rd_sw A  4 t (nI s)) (w.filter (fun x => x != t)) Q := by
  have c1 : A 4 t ≠ 8 := by rw [h0]; decide
  have c3 : A 4 t ≠ 1 := by rw [h0]; decide
  have c4 : A 4 t ≠ 2 := by rw [h0]; decide
  have c5 : A 4 t ≠ 4 := by rw [h0]; decide
  have c6 : A 4 t ≠ 5 := by rw [h0]; decide
  have ne : ∀ k : Nat, k = 0 ∨ k = 4 ∨ k = 6 ∨ k = 7 ∨ k = 8 → nI s ≠ nI k := by
    intro k hk e
    have := rd_inj (by omega) (by omega) e
    omega
  have n0 : nI s ≠ 0 := ne 0 (by simp)
  have n4 : nI s ≠ 4 := ne 4 (by simp)
  have n6 : nI s ≠ 6 := ne 6 (by simp)
  have n7 : nI s ≠ 7 := ne 7 (by simp)
  have n8 : nI s ≠ 8 := ne 8 (by simp)
  exact ⟨h.vG, h.vN, rd_vR_del h.vR n0, rd_vQ_cd h.vQ (rd_vQ_no h.vQ c3), rd_vF_cd h.vF (rd_nf_of h.vN.2 h.vF ht c4), h.vU, h.vM, rd_vB_cd h.vB c1, rd_vX_cd h.vX c1 n8, rd_vC_cd h.vC (fun z => z.elim (fun z => absurd z n7) (fun z => absurd z n8)), rd_vE_cd h.vE (fun z => absurd z n6) h3, rd_vL_cd h.vL n8 (fun z => absurd z n6), rd_vK_cd h.vK n8 (fun z => absurd z n7), h.vD, rd_vW_cd' h.vW (rd_wk0 (A := A) h ht ⟨c3, c6, c5⟩), rd_vP_cd h.vP (fun _ => he), rd_vZ_cd h.vZ hz, rd_vA_cp h.vA n4 hp, h.rbo, h.rpl, h.rdp, h.rli, h.rdm, h.rpe, rd_rng_u h.rcd (by omega)⟩
theorem rd_i_leav {n D : Nat} {A : rd_St} {w : List Nat} {Q : Nat → List Nat} {t d : Nat} (h : rd_Inv n 8 D A w Q) (ht : t < n) (h0 : A 4 t = 0) (hd : d < 8) (hdp : A 18 t = nI (d + 1)) (hk : A 19 (8 * t + d) = 0) (hl : rd_lv n (A 9) (A 10) (A 4) t (nI d)) (hp : A 12 t = 0 → ∃ p, p < 20 ∧ A 5 t = nI p) : rd_Inv n 8 D (rd_sw A  4 t 6) (w.filter (fun x => x != t)) Q := by
  have c1 : A 4 t ≠ 8 := by rw [h0]; decide
  have c3 : A 4 t ≠ 1 := by rw [h0]; decide
  have c4 : A 4 t ≠ 2 := by rw [h0]; decide
  have c5 : A 4 t ≠ 4 := by rw [h0]; decide
  have c6 : A 4 t ≠ 5 := by rw [h0]; decide
  refine ⟨h.vG, h.vN, rd_vR_del h.vR (by decide), rd_vQ_cd h.vQ (rd_vQ_no h.vQ c3), rd_vF_cd h.vF (rd_nf_of h.vN.2 h.vF ht c4), h.vU, h.vM, rd_vB_cd h.vB c1, rd_vX_cd h.vX c1 (by decide), rd_vC_cd h.vC (fun z => absurd z (by decide)), rd_vE_cd h.vE (fun _ => ⟨d, hd, hdp, hk⟩) (fun z => absurd z (by decide)), rd_vL_cd h.vL (by decide) (fun _ _ => by show rd_lv n (A 9) (A 10) (A 4) t (A 18 t - 1); rw [hdp, nI_pred]; exact hl), rd_vK_cd h.vK (by decide) (fun z => absurd z (by decide)), h.vD, rd_vW_cd' h.vW (rd_wk0 (A := A) h ht ⟨c3, c6, c5⟩), rd_vP_cd h.vP (fun z => absurd z (by decide)), rd_vZ_cd h.vZ (fun z => absurd z (by decide)), ?_, h.rbo, h.rpl, h.rdp, h.rli, h.rdm, h.rpe, rd_rng_u (j := 6) h.rcd (by omega)⟩
  intro u hu
  by_cases z : u = t
  · subst z
    refine ⟨fun f => ?_, fun f => ?_⟩
    · have f : upd (A 4) u 6 u = 1 ∨ upd (A 4) u 6 u = 2 ∨ upd (A 4) u 6 u = 3 ∨ upd (A 4) u 6 u = 5 ∨ (upd (A 4) u 6 u = 6 ∧ A 12 u = 0) := f
      rw [rd_us] at f
      rcases f with f | f | f | f | f
      · exact absurd f (by decide)
      · exact absurd f (by decide)
      · exact absurd f (by decide)
      · exact absurd f (by decide)
      · exact hp f.2
    · have f : upd (A 4) u 6 u = 4 := f
      rw [rd_us] at f
      exact absurd f (by decide)
  · have := h.vA u hu
    have e : upd (A 4) t 6 u = A 4 u := rd_un z
    refine ⟨fun f => this.1 ?_, fun f => this.2 ?_⟩
    · have f : upd (A 4) t 6 u = 1 ∨ upd (A 4) t 6 u = 2 ∨ upd (A 4) t 6 u = 3 ∨ upd (A 4) t 6 u = 5 ∨ (upd (A 4) t 6 u = 6 ∧ A 12 u = 0) := f
      rw [e] at f
      exact f
    · have f : upd (A 4) t 6 u = 4 := f
      rw [e] at f
      exact f
theorem rd_i_sel {n D : Nat} {A : rd_St} {w : List Nat} {Q : Nat → List Nat} {t b p : Nat} {x : Int32} (h : rd_Inv n 8 D A w Q) (ht : t < n) (h0 : A 4 t = 0) (hp : p < 20) (hpl : A 5 t = nI p) (hb : b < 4) (hbo : A 8 t = nI b) (he : A 12 t = 0) (hd : ∃ d, d < 8 ∧ A 18 t = nI d) (hx : x = if (rd_oth (A 0) (A 3) b p).any (fun i => decide (rd_op (A 0) (A 3) b i = 20)) then 1 else 0) : rd_Inv n 8 D (rd_sw (rd_sw A  4 t 4)  14 t x) (w.filter (fun x => x != t)) Q := by
  have c1 : A 4 t ≠ 8 := by rw [h0]; decide
  have c3 : A 4 t ≠ 1 := by rw [h0]; decide
  have c4 : A 4 t ≠ 2 := by rw [h0]; decide
  have c5 : A 4 t ≠ 4 := by rw [h0]; decide
  have c6 : A 4 t ≠ 5 := by rw [h0]; decide
  refine ⟨h.vG, h.vN, rd_vR_del h.vR (by decide), rd_vQ_cd h.vQ (rd_vQ_no h.vQ c3), rd_vF_cd h.vF (rd_nf_of h.vN.2 h.vF ht c4), h.vU, h.vM, rd_vB_cd h.vB c1, rd_vX_cd h.vX c1 (by decide), rd_vC_cd h.vC (fun z => absurd z (by decide)), rd_vE_cd h.vE (fun z => absurd z (by decide)) (fun _ => hd), rd_vL_cd h.vL (by decide) (fun z => absurd z (by decide)), rd_vK_cd h.vK (by decide) (fun z => absurd z (by decide)), h.vD, rd_vW_cd' h.vW (rd_wk0 (A := A) h ht ⟨c3, c6, c5⟩), rd_vP_cd h.vP (fun _ => he), rd_vZ_cd h.vZ (fun z => absurd z (by decide)), ?_, h.rbo, h.rpl, h.rdp, h.rli, h.rdm, h.rpe, rd_rng_u (j := 4) h.rcd (by omega)⟩
  intro u hu
  by_cases z : u = t
  · subst z
    refine ⟨fun _ => ⟨p, hp, hpl⟩, fun _ => ⟨b, p, hp, hb, hbo, hpl, ?_⟩⟩
    show upd (A 14) u x u = _
    rw [rd_us]; exact hx
  · have := h.vA u hu
    have e : upd (A 4) t 4 u = A 4 u := rd_un z
    have e2 : upd (A 14) t x u = A 14 u := rd_un z
    refine ⟨fun f => this.1 ?_, fun f => ?_⟩
    · have f : upd (A 4) t 4 u = 1 ∨ upd (A 4) t 4 u = 2 ∨ upd (A 4) t 4 u = 3 ∨ upd (A 4) t 4 u = 5 ∨ (upd (A 4) t 4 u = 6 ∧ A 12 u = 0) := f
      rw [e] at f
      exact f
    · have f : upd (A 4) t 4 u = 4 := f
      rw [e] at f
      obtain ⟨b', p', g1, g2, g3, g4, g5⟩ := this.2 f
      exact ⟨b', p', g1, g2, g3, g4, e2.trans g5⟩
theorem rd_i_wake {n e D : Nat} {A : rd_St} {w : List Nat} {Q : Nat → List Nat} {t x : Nat} {y : Int32} (h : rd_Inv n e D A w Q) (hx : x ≤ 99 * D) (hy : ∃ y', y' ≤ 21 ∧ y = nI y') (hc : A 4 t = 1 ∧ y = A 5 t + 2 ∨ A 4 t = 5 ∧ y = A 5 t + 1 ∨ A 4 t = 4 ∧ ∃ b p i, (b < 4 ∧ p ≤ 21) ∧ A 8 t = nI b ∧ A 5 t = nI p ∧ rd_oth (A 0) (A 3) b p = some i ∧ y = A 1 (20 * b + i)) : rd_Inv n e D (rd_sw (rd_sw A  16 t (nI x))  17 t y) w Q := by
  refine ⟨h.vG, h.vN, h.vR, h.vQ, h.vF, h.vU, h.vM, h.vB, h.vX, h.vC, h.vE, h.vL, h.vK, h.vD, ?_, h.vP, h.vZ, h.vA, h.rbo, h.rpl, h.rdp, h.rli, h.rdm, h.rpe, h.rcd⟩
  intro u hu
  show upd (A 16) t (nI x) u = -1 ∨ ((∃ x', x' ≤ 99 * D ∧ upd (A 16) t (nI x) u = nI x') ∧ (∃ y', y' ≤ 21 ∧ upd (A 17) t y u = nI y') ∧ (A 4 u = 1 ∧ upd (A 17) t y u = A 5 u + 2 ∨ A 4 u = 5 ∧ upd (A 17) t y u = A 5 u + 1 ∨ A 4 u = 4 ∧ ∃ b p i, (b < 4 ∧ p ≤ 21) ∧ A 8 u = nI b ∧ A 5 u = nI p ∧ rd_oth (A 0) (A 3) b p = some i ∧ upd (A 17) t y u = A 1 (20 * b + i)))
  by_cases z : u = t
  · subst z
    rw [rd_us, rd_us]
    exact Or.inr ⟨⟨x, hx, rfl⟩, hy, hc⟩
  · rw [rd_un z, rd_un z]; exact h.vW u hu
def rd_pq (Q : Nat → List Nat) (k t : Nat) : Nat → List Nat := fun q => if q = k then Q k ++ [t] else Q q
theorem rd_i_cq {n e D : Nat} {A : rd_St} {w : List Nat} {Q : Nat → List Nat} {t : Nat} {x : Int32} (h : rd_Inv n e D A w Q) (h1 : A 4 t ≠ 1) : rd_Inv n e D (rd_sw A  15 t x) w Q := by
  refine ⟨h.vG, h.vN, h.vR, ?_, h.vF, h.vU, h.vM, h.vB, h.vX, h.vC, h.vE, h.vL, h.vK, h.vD, h.vW, h.vP, ?_, h.vA, h.rbo, h.rpl, h.rdp, h.rli, h.rdm, h.rpe, h.rcd⟩
  · intro q
    refine ⟨(h.vQ q).1, fun c hc => ?_⟩
    obtain ⟨a1, a2, a3, a4⟩ := (h.vQ q).2 c hc
    refine ⟨a1, a2, ?_, a4⟩
    show upd (A 15) t x c = nI q
    have y : c ≠ t := fun y => h1 (by rw [← y]; exact a2)
    rw [rd_un y]
    exact a3
  · intro u hu f
    show ∃ q, q < 3 * n ∧ upd (A 15) t x u = nI q
    have y : u ≠ t := fun y => h1 (by rw [← y]; exact f)
    rw [rd_un y]
    exact h.vZ u hu f
theorem rd_i_enq {n e D : Nat} {A : rd_St} {w : List Nat} {Q : Nat → List Nat} {t k : Nat} (h : rd_Inv n e D A w Q) (ht : t < n) (h1 : A 4 t = 1) (hq : ∀ q, t ∉ Q q) (hk : k < 3 * n) (hc : A 15 t = nI k) : rd_Inv n e D A w (rd_pq Q k t) := by
  refine ⟨h.vG, h.vN, h.vR, ?_, h.vF, h.vU, h.vM, h.vB, h.vX, h.vC, h.vE, h.vL, h.vK, h.vD, h.vW, h.vP, h.vZ, h.vA, h.rbo, h.rpl, h.rdp, h.rli, h.rdm, h.rpe, h.rcd⟩
  intro q
  unfold rd_pq
  by_cases z : q = k
  · subst z
    rw [if_pos rfl]
    refine ⟨?_, fun c hc' => ?_⟩
    · rw [List.nodup_append]
      refine ⟨(h.vQ q).1, by simp, ?_⟩
      intro a ha b hb
      simp at hb
      subst hb
      intro y
      subst y
      exact hq q ha
    · rw [List.mem_append] at hc'
      rcases hc' with hc' | hc'
      · exact (h.vQ q).2 c hc'
      · simp at hc'
        subst hc'
        exact ⟨ht, h1, hc, hk⟩
  · rw [if_neg z]
    exact h.vQ q
/-- the first of a queue is served -/
theorem rd_i_serve {n e D : Nat} {A : rd_St} {w : List Nat} {Q : Nat → List Nat} {c : Nat} (h : rd_Inv n e D A w Q) (hc : c < n) (h1 : A 4 c = 1) : rd_Inv n e D (rd_sw (rd_sw A  4 c 2)  16 c (-1)) w (rd_fq Q c) := by
  have c1 : A 4 c ≠ 8 := by rw [h1]; decide
  have c3 : A 4 c ≠ 0 := by rw [h1]; decide
  exact ⟨h.vG, h.vN, rd_vR_oth h.vR c3 (by decide), rd_vQ_cd (rd_vQ_fq h.vQ) rd_fq_nm, rd_vF_cd2 h.vF, h.vU, h.vM, rd_vB_cd h.vB c1, rd_vX_cd h.vX c1 (by decide), rd_vC_cd h.vC (fun z => absurd z (by decide)), rd_vE_cd h.vE (fun z => absurd z (by decide)) (fun z => absurd z (by decide)), rd_vL_cd h.vL (by decide) (fun z => absurd z (by decide)), rd_vK_cd h.vK (by decide) (fun z => absurd z (by decide)), h.vD, rd_vW_cd h.vW, rd_vP_cd h.vP (fun _ => h.vP c hc (Or.inl h1)), rd_vZ_cd h.vZ (fun z => absurd z (by decide)), rd_vA_cp h.vA (by decide) ((h.vA c hc).1 (Or.inl h1)), h.rbo, h.rpl, h.rdp, h.rli, h.rdm, h.rpe, rd_rng_u (j := 2) h.rcd (by omega)⟩
