/-! a turn: its pieces -/
theorem rd_all8 {n e D : Nat} {A : rd_St} {w : List Nat} {Q : Nat → List Nat} (I : rd_Inv n e D A w Q) (h : A 4 0 = 8) : ∀ k t, t < k → t < n → A 4 t = 8 := by
  have hn := I.vN.2
  intro k
  induction k with
  | zero => intro t h; omega
  | succ k ih =>
    intro t h1 h2
    rcases I.vM t h2 with ⟨a, _⟩ | ⟨m, a, b⟩
    · rw [a]; exact h
    · exact I.vX t h2 m (by omega) b (ih m (by omega) (by omega))
/-- the end of a pass -/
theorem rd_x_endTurn {n e D : Nat} {A : rd_St} {w : List Nat} {Q : Nat → List Nat} {u : SX} {t k : Nat} {post : SX → Prop} (I : rd_Inv n e D A w Q) (hu : rd_RX A w Q u) (ht : t < n) (hdt : A 30 0 = nI k) (hk : k < 2 ^ 31) (H1 : A 4 t ≠ 0 → ∀ u', rd_RX (rd_sw A  31 0 0) w Q u' → post u') (H2 : A 4 t = 0 → (k < 3 ∨ A 12 t ≠ 0) → ∀ u', rd_RX A w Q u' → post u') (H3 : A 4 t = 0 → 3 ≤ k → A 12 t = 0 → ∀ u', rd_RX (rd_ready (rd_sw A  31 0 0) t) (w.filter (fun x => x != t) ++ [t]) Q u' → post u') : wpX_endTurn post u (nI t) := by
  have hn := I.vN.2
  have ct : (nI t).toNatClampNeg = t := nI_clamp (by omega)
  have i8 : vp_in (nI t) 8 := vp_in_nI (by omega) (by omega)
  obtain ⟨ra, qa, ql, rfl, hx⟩ := hu
  unfold wpX_endTurn
  refine ⟨i8, ?_⟩
  rw [ct]
  by_cases c0 : A 4 t = 0
  · refine br_t c0 ?_
    by_cases k3 : k < 3
    · exact br_t (by rw [hdt]; exact nI_lt (b := 3) k3 (by omega)) (H2 c0 (Or.inl k3) _ (rd_RX_mk hx))
    · refine br_f (by rw [hdt]; exact nI_nlt (b := 3) (by omega) hk) ⟨i8, ?_⟩
      by_cases p0 : A 12 t = 0
      · refine br_t p0 ?_
        have wlen : (w.filter (fun x => x != t)).length < 8 := by
          have h1 := List.length_filter_le (fun x => x != t) w
          have h2 := rd_wlen I
          have h3 : (w.filter (fun x => x != t)).length < w.length := by
            have hm : t ∈ w := (I.vR.2 t).mpr ⟨ht, c0⟩
            apply Classical.byContradiction
            intro z
            have e : (w.filter (fun x => x != t)).length = w.length := by omega
            have := List.filter_eq_self.mp (List.filter_sublist.eq_of_length e) t hm
            simp at this
          omega
        have hx1 : rd_RX (rd_sw A  31 0 0) w Q (rd_tX (rd_sw A  31 0 0) (nI w.length) ra qa ql) := rd_RX_mk hx
        have hdt' : (rd_sw A  31 0 0) 30 0 = nI k := hdt
        refine rd_x_leaveRow (A := rd_sw A  31 0 0) ⟨ra, qa, ql, rfl, hx⟩ (by omega) (Nat.le_trans (rd_wlen I) hn) (fun x hx => Nat.lt_of_lt_of_le ((I.vR.2 x).mp hx).1 hn) ?_
        rintro u' ⟨ra1, qa1, ql1, rfl, hx1⟩
        refine rd_x_makeReady (rd_RX_mk hx1) (by omega) wlen ?_
        rintro u' ⟨ra2, qa2, ql2, rfl, hx2⟩
        exact H3 c0 (by omega) p0 _ (rd_RX_mk hx2)
      · refine br_f p0 ?_
        exact H2 c0 (Or.inr p0) _ (rd_RX_mk hx)
  · exact br_f c0 (H1 c0 _ (rd_RX_mk (A := rd_sw A  31 0 0) hx))
/-- what perform asks ahead of the instruction -/
theorem rd_x_perform {n e D p b L k : Nat} {A : rd_St} {w : List Nat} {Q : Nat → List Nat} {ra qa ql : Nat → Int32} {t : Nat} {post : SX → Prop} (I : rd_Inv n e D A w Q) (ht : t < n) (hat : rd_at A t b p L) (hdt : A 30 0 = nI k) (Pin : p < L → wX_perform_119 post (nI t) (nI (p + 1)) (A 0 (20 * b + p)) (A 1 (20 * b + p)) (A 2 (20 * b + p)) (nI w.length) ((rd_sw (rd_sw A  28 0 (nI (D + 1)))  30 0 (nI (k + 1))) 25 0) ((rd_sw (rd_sw A  28 0 (nI (D + 1)))  30 0 (nI (k + 1))) 26 0) ((rd_sw (rd_sw A  28 0 (nI (D + 1)))  30 0 (nI (k + 1))) 27 0) ((rd_sw (rd_sw A  28 0 (nI (D + 1)))  30 0 (nI (k + 1))) 28 0) ((rd_sw (rd_sw A  28 0 (nI (D + 1)))  30 0 (nI (k + 1))) 29 0) ((rd_sw (rd_sw A  28 0 (nI (D + 1)))  30 0 (nI (k + 1))) 30 0) ((rd_sw (rd_sw A  28 0 (nI (D + 1)))  30 0 (nI (k + 1))) 31 0) ((rd_sw (rd_sw A  28 0 (nI (D + 1)))  30 0 (nI (k + 1))) 0) ((rd_sw (rd_sw A  28 0 (nI (D + 1)))  30 0 (nI (k + 1))) 1) ((rd_sw (rd_sw A  28 0 (nI (D + 1)))  30 0 (nI (k + 1))) 2) ((rd_sw (rd_sw A  28 0 (nI (D + 1)))  30 0 (nI (k + 1))) 3) ((rd_sw (rd_sw A  28 0 (nI (D + 1)))  30 0 (nI (k + 1))) 4) ((rd_sw (rd_sw A  28 0 (nI (D + 1)))  30 0 (nI (k + 1))) 5) ((rd_sw (rd_sw A  28 0 (nI (D + 1)))  30 0 (nI (k + 1))) 6) ((rd_sw (rd_sw A  28 0 (nI (D + 1)))  30 0 (nI (k + 1))) 7) ((rd_sw (rd_sw A  28 0 (nI (D + 1)))  30 0 (nI (k + 1))) 8) ((rd_sw (rd_sw A  28 0 (nI (D + 1)))  30 0 (nI (k + 1))) 9) ((rd_sw (rd_sw A  28 0 (nI (D + 1)))  30 0 (nI (k + 1))) 10) ((rd_sw (rd_sw A  28 0 (nI (D + 1)))  30 0 (nI (k + 1))) 11) ((rd_sw (rd_sw A  28 0 (nI (D + 1)))  30 0 (nI (k + 1))) 12) ((rd_sw (rd_sw A  28 0 (nI (D + 1)))  30 0 (nI (k + 1))) 13) ((rd_sw (rd_sw A  28 0 (nI (D + 1)))  30 0 (nI (k + 1))) 14) ((rd_sw (rd_sw A  28 0 (nI (D + 1)))  30 0 (nI (k + 1))) 15) ((rd_sw (rd_sw A  28 0 (nI (D + 1)))  30 0 (nI (k + 1))) 16) ((rd_sw (rd_sw A  28 0 (nI (D + 1)))  30 0 (nI (k + 1))) 17) ((rd_sw (rd_sw A  28 0 (nI (D + 1)))  30 0 (nI (k + 1))) 18) ((rd_sw (rd_sw A  28 0 (nI (D + 1)))  30 0 (nI (k + 1))) 19) ((rd_sw (rd_sw A  28 0 (nI (D + 1)))  30 0 (nI (k + 1))) 20) qa ql ra ((rd_sw (rd_sw A  28 0 (nI (D + 1)))  30 0 (nI (k + 1))) 21) ((rd_sw (rd_sw A  28 0 (nI (D + 1)))  30 0 (nI (k + 1))) 22) ((rd_sw (rd_sw A  28 0 (nI (D + 1)))  30 0 (nI (k + 1))) 32) ((rd_sw (rd_sw A  28 0 (nI (D + 1)))  30 0 (nI (k + 1))) 23)) (Pout : ¬ p < L → wX_perform_119 post (nI t) (nI (p + 1)) 25 0 0 (nI w.length) ((rd_sw (rd_sw A  28 0 (nI (D + 1)))  30 0 (nI (k + 1))) 25 0) ((rd_sw (rd_sw A  28 0 (nI (D + 1)))  30 0 (nI (k + 1))) 26 0) ((rd_sw (rd_sw A  28 0 (nI (D + 1)))  30 0 (nI (k + 1))) 27 0) ((rd_sw (rd_sw A  28 0 (nI (D + 1)))  30 0 (nI (k + 1))) 28 0) ((rd_sw (rd_sw A  28 0 (nI (D + 1)))  30 0 (nI (k + 1))) 29 0) ((rd_sw (rd_sw A  28 0 (nI (D + 1)))  30 0 (nI (k + 1))) 30 0) ((rd_sw (rd_sw A  28 0 (nI (D + 1)))  30 0 (nI (k + 1))) 31 0) ((rd_sw (rd_sw A  28 0 (nI (D + 1)))  30 0 (nI (k + 1))) 0) ((rd_sw (rd_sw A  28 0 (nI (D + 1)))  30 0 (nI (k + 1))) 1) ((rd_sw (rd_sw A  28 0 (nI (D + 1)))  30 0 (nI (k + 1))) 2) ((rd_sw (rd_sw A  28 0 (nI (D + 1)))  30 0 (nI (k + 1))) 3) ((rd_sw (rd_sw A  28 0 (nI (D + 1)))  30 0 (nI (k + 1))) 4) ((rd_sw (rd_sw A  28 0 (nI (D + 1)))  30 0 (nI (k + 1))) 5) ((rd_sw (rd_sw A  28 0 (nI (D + 1)))  30 0 (nI (k + 1))) 6) ((rd_sw (rd_sw A  28 0 (nI (D + 1)))  30 0 (nI (k + 1))) 7) ((rd_sw (rd_sw A  28 0 (nI (D + 1)))  30 0 (nI (k + 1))) 8) ((rd_sw (rd_sw A  28 0 (nI (D + 1)))  30 0 (nI (k + 1))) 9) ((rd_sw (rd_sw A  28 0 (nI (D + 1)))  30 0 (nI (k + 1))) 10) ((rd_sw (rd_sw A  28 0 (nI (D + 1)))  30 0 (nI (k + 1))) 11) ((rd_sw (rd_sw A  28 0 (nI (D + 1)))  30 0 (nI (k + 1))) 12) ((rd_sw (rd_sw A  28 0 (nI (D + 1)))  30 0 (nI (k + 1))) 13) ((rd_sw (rd_sw A  28 0 (nI (D + 1)))  30 0 (nI (k + 1))) 14) ((rd_sw (rd_sw A  28 0 (nI (D + 1)))  30 0 (nI (k + 1))) 15) ((rd_sw (rd_sw A  28 0 (nI (D + 1)))  30 0 (nI (k + 1))) 16) ((rd_sw (rd_sw A  28 0 (nI (D + 1)))  30 0 (nI (k + 1))) 17) ((rd_sw (rd_sw A  28 0 (nI (D + 1)))  30 0 (nI (k + 1))) 18) ((rd_sw (rd_sw A  28 0 (nI (D + 1)))  30 0 (nI (k + 1))) 19) ((rd_sw (rd_sw A  28 0 (nI (D + 1)))  30 0 (nI (k + 1))) 20) qa ql ra ((rd_sw (rd_sw A  28 0 (nI (D + 1)))  30 0 (nI (k + 1))) 21) ((rd_sw (rd_sw A  28 0 (nI (D + 1)))  30 0 (nI (k + 1))) 22) ((rd_sw (rd_sw A  28 0 (nI (D + 1)))  30 0 (nI (k + 1))) 32) ((rd_sw (rd_sw A  28 0 (nI (D + 1)))  30 0 (nI (k + 1))) 23)) : wpX_perform post (rd_tX A (nI w.length) ra qa ql) (nI t) := by
  have hn := I.vN.2
  have ct : (nI t).toNatClampNeg = t := nI_clamp (by omega)
  have i8 : vp_in (nI t) 8 := vp_in_nI (by omega) (by omega)
  obtain ⟨g1, g2, g3, g4, g5, g6⟩ := id hat
  have cb : (nI b).toNatClampNeg = b := nI_clamp (by omega)
  have ii : nI b * 20 + nI p = nI (20 * b + p) := rd_ix b p 20 20 rfl
  have ci : (nI (20 * b + p)).toNatClampNeg = 20 * b + p := nI_clamp (by omega)
  unfold wpX_perform
  refine nm_r (e' := nI (D + 1)) (by rw [I.vD.1, nI_1]) (nm_r (e' := nI (k + 1)) (by rw [hdt, nI_1]) ⟨i8, nm_r (e' := nI p) (by rw [ct]; exact g3) (nm_r (nI_1 p) ⟨i8, nm_r (e' := nI (20 * b + p)) (by rw [ct, g1, ii]) ⟨i8, ?_⟩⟩)⟩)
  rw [ct, g1, cb, g5]
  refine ⟨vp_in_nI g2 (by omega), ?_⟩
  by_cases z : p < L
  · have i80 : vp_in (nI (20 * b + p)) 80 := vp_in_nI (by omega) (by omega)
    have P := Pin z
    refine br_f (nI_ge z (by omega)) (br_f (by decide) ⟨i80, br_f (by decide) ⟨i80, br_f (by decide) ⟨i80, ?_⟩⟩⟩)
    rw [ci]
    exact P
  · exact br_t (nI_le (by omega) (by omega)) (br_t rfl (br_t rfl (br_t rfl (Pout z))))
/-- what the reference's turn asks ahead of a step -/
theorem rd_y_turn {n e D p b L k f most : Nat} {A : rd_St} {w : List Nat} {Q : Nat → List Nat} {ra qa wq am rz ob fr st : Nat → Int32} {bl : Int32} {t : Nat} {post : Int32 → SY → Prop} (I : rd_Inv n e D A w Q) (ht : t < n) (hat : rd_at A t b p L) (hk : k < 3) (h9 : rd_y9 (A 4) st) (h0 : A 4 t = 0) (hm : D < most) (hm5 : most ≤ 500) (P : ∀ a c : Int32, (p < L → a = A 1 (20 * b + p) ∧ c = A 2 (20 * b + p)) → (¬ p < L → a = A 1 (20 * b) ∧ c = A 2 (20 * b)) → wpY_step (fun u => match u with | (f_tasks_1, f_blocks_1, f_readies_1, f_time_1, f_done_1, f_turns_1, f_notes_1, a_length_1, a_ops_1, a_as_1, a_bs_1, a_states_1, a_places_1, a_xs_1, a_limits_1, a_bodies_1, a_ends_1, a_raised_1, a_until_1, a_high_1, a_kinds_1, a_frames_1, a_on_1, a_onBlock_1, a_doomed_1, a_queues_1, a_waiting_1, a_row_1, a_dying_1, a_among_1, a_noteTask_1, a_noteInt_1) => (∀ y, y = nI k + 1 → wY_turn_32 post (nI t) (nI most) f y f_tasks_1 f_blocks_1 f_readies_1 f_time_1 f_done_1 f_turns_1 f_notes_1 a_length_1 a_ops_1 a_as_1 a_bs_1 a_states_1 a_places_1 a_xs_1 a_limits_1 a_bodies_1 a_ends_1 a_raised_1 a_until_1 a_high_1 a_kinds_1 a_frames_1 a_on_1 a_onBlock_1 a_doomed_1 a_queues_1 a_waiting_1 a_row_1 a_dying_1 a_among_1 a_noteTask_1 a_noteInt_1)) (rd_tY (rd_sw A  28 0 (nI (D + 1))) (nI w.length) ra qa wq am rz ob fr st bl) (nI t) (rd_op (A 0) (A 3) b p) a c) : wY_turn_32 post (nI t) (nI most) (f + 1) (nI k) (A 26 0) bl (nI w.length) (A 27 0) (A 28 0) (A 29 0) (A 25 0) (A 3) (A 0) (A 1) (A 2) st (A 5) (A 6) (A 11) (A 8) (A 7) rz (A 16) (A 18) (A 19) fr (A 9) ob (A 13) qa wq ra (A 33) am (A 21) (A 22) := by
  have hn := I.vN.2
  have ct : (nI t).toNatClampNeg = t := nI_clamp (by omega)
  have i8 : vp_in (nI t) 8 := vp_in_nI (by omega) (by omega)
  obtain ⟨g1, g2, g3, g4, g5, g6⟩ := id hat
  have cb : (nI b).toNatClampNeg = b := nI_clamp (by omega)
  have e0 : st (nI t).toNatClampNeg = 0 := by rw [ct, h9 t, h0]; rfl
  have e20 : 20 * nI b = nI (20 * b) := by
    have := rd_ix' b 0 20 20 rfl
    rw [nI_0, Int32.add_zero] at this
    exact this
  refine br_f (nI_ge (b := 3) hk (by omega)) ⟨i8, br_t e0 (br_f (by rw [I.vD.1]; exact fun y => by have := rd_inj (by omega) (by omega) y; omega) (nm_r (e' := nI (D + 1)) (by rw [I.vD.1, nI_1]) ⟨i8, nm_r (e' := nI p) (by rw [ct]; exact g3) ?_⟩))⟩
  refine rd_y_opAt (A := rd_sw A  28 0 (nI (D + 1))) (i := p) hat (by omega) (by omega) ⟨i8, i8, ?_⟩
  have e1 : A 8 (nI t).toNatClampNeg = nI b := by rw [ct]; exact g1
  have e2 : A 3 b = nI L := g5
  rw [e1, cb, e2, e20]
  refine ⟨vp_in_nI g2 (by omega), ?_⟩
  by_cases z : p < L
  · have i80 : vp_in (nI (20 * b + p)) 80 := vp_in_nI (by omega) (by omega)
    refine br_f (nI_ge z (by omega)) (nm_r (nI_add (20 * b) p) ⟨i80, i80, ?_⟩)
    rw [nI_clamp (by omega)]
    exact P _ _ (fun _ => ⟨rfl, rfl⟩) (fun y => absurd z y)
  · have i80 : vp_in (nI (20 * b)) 80 := vp_in_nI (by omega) (by omega)
    refine br_t (nI_le (by omega) (by omega)) (nm_r (e' := nI (20 * b)) (nI_add (20 * b) 0) ⟨i80, i80, ?_⟩)
    rw [nI_clamp (by omega)]
    exact P _ _ (fun y => absurd y z) (fun _ => ⟨rfl, rfl⟩)
