/-! SELECT: the outcomes -/
section
variable {n D t p b' d : Nat} {a b : Int32} {A : rd_St} {w : List Nat} {Q : Nat → List Nat}
theorem rd_y_sel {post : SY → Prop} {ra qa wq am rz ob fr st : Nat → Int32} {bl : Int32} {bb L : Nat} (I : rd_Inv n 8 (D + 1) A w Q) (hy : rd_YL 8 n D A w Q ra qa wq am rz ob fr st bl) (ht : t < n) (h : rd_at A t bb p L) (PA : ∀ i j c l, rd_SA A t bb Q 21 (p + 1) = some i → A 1 (20 * bb + i) = nI j → j < 3 → Q (3 * t + j) = c :: l → wpY_meet (fun u => match u with | (f_tasks_1, f_blocks_1, f_readies_1, f_time_1, f_done_1, f_turns_1, f_notes_1, a_length_1, a_ops_1, a_as_1, a_bs_1, a_states_1, a_places_1, a_xs_1, a_limits_1, a_bodies_1, a_ends_1, a_raised_1, a_until_1, a_high_1, a_kinds_1, a_frames_1, a_on_1, a_onBlock_1, a_doomed_1, a_queues_1, a_waiting_1, a_row_1, a_dying_1, a_among_1, a_noteTask_1, a_noteInt_1) => post (f_tasks_1, f_blocks_1, f_readies_1, f_time_1, f_done_1, f_turns_1, f_notes_1, a_length_1, a_ops_1, a_as_1, a_bs_1, a_states_1, a_places_1, a_xs_1, a_limits_1, a_bodies_1, a_ends_1, a_raised_1, a_until_1, a_high_1, a_kinds_1, a_frames_1, a_on_1, a_onBlock_1, a_doomed_1, a_queues_1, a_waiting_1, a_row_1, a_dying_1, a_among_1, a_noteTask_1, a_noteInt_1)) (rd_tY A (nI w.length) ra qa wq am rz ob fr st bl) (nI t) (nI c) (A 2 (20 * bb + i))) (PN : rd_SA A t bb Q 21 (p + 1) = none → (rd_SO A bb 21 (p + 1) = none → wY_select_75 post (nI t) (-1) (-1) (A 26 0) bl (nI w.length) (A 27 0) (A 28 0) (A 29 0) (A 25 0) (A 3) (A 0) (A 1) (A 2) st (A 5) (A 6) (A 11) (A 8) (A 7) rz (A 16) (A 18) (A 19) fr (A 9) ob (A 13) qa wq ra (A 33) am (A 21) (A 22)) ∧ (∀ k, rd_SO A bb 21 (p + 1) = some k → wY_select_75 post (nI t) (nI k) (rd_op (A 0) (A 3) bb k) (A 26 0) bl (nI w.length) (A 27 0) (A 28 0) (A 29 0) (A 25 0) (A 3) (A 0) (A 1) (A 2) st (A 5) (A 6) (A 11) (A 8) (A 7) rz (A 16) (A 18) (A 19) fr (A 9) ob (A 13) qa wq ra (A 33) am (A 21) (A 22))) : wpY_select post (rd_tY A (nI w.length) ra qa wq am rz ob fr st bl) (nI t) := by
  have hn := I.vN.2
  have ct : (nI t).toNatClampNeg = t := nI_clamp (by omega)
  have i8 : vp_in (nI t) 8 := vp_in_nI (by omega) (by omega)
  obtain ⟨g1, g2, g3, g4, g5, g6⟩ := id h
  unfold wpY_select
  unfold wpY_alternative
  refine ⟨i8, nm_r (e' := nI (p + 1)) (by rw [ct, g3, nI_1]) ⟨_, rd_yl_alt h (by omega) (-1) (rd_sS A t bb Q) (fun i ho i20 P1 P0 f1 f0 => ⟨fun z => absurd z (by decide), fun _ => ?_⟩) 21 (p + 1) (by omega) (by omega) (fun z => ?_) (fun i z => ?_)⟩⟩
  · have iL : i < L := by
      apply Classical.byContradiction
      intro y
      rw [(rd_at_op h i).2 y] at ho
      exact absurd (rd_opn_t.mp ho) (by rintro (q | q); exact absurd q (by decide); exact absurd q.1 (by decide))
    obtain ⟨⟨j, hj, ej⟩, _, _⟩ := rd_alt h I.vG iL ho
    have ej' : (A 1 (20 * bb + i)).toNatClampNeg = j := by rw [ej]; exact nI_clamp (by omega)
    have e0 := (hy.y3 (3 * t + j) (by omega)).1
    have hl := rd_qlen (q := 3 * t + j) I
    rw [ej, rd_ix' t j 3 3 rfl, nI_clamp (by omega), e0]
    refine ⟨vp_in_nI (by omega) (by omega), ?_⟩
    cases hq : Q (3 * t + j) with
    | nil => exact br_t (nI_le (a := 0) (b := 0) (Nat.le_refl _) (by omega)) (f0 (by unfold rd_sS; rw [ej', hq]; rfl))
    | cons c l =>
      rw [hq] at hl
      exact br_f (nI_ge (a := 0) (by simp) (by omega)) (f1 (by unfold rd_sS; rw [ej', hq]; rfl))
  · have P := PN z
    refine rd_y_other h (by omega) (fun y => br_t (by decide) (br_f (by decide) (P.1 y))) (fun k y => br_t (by decide) (br_t (nI_pos' ?_) (rd_y_opAt h (by omega) ?_ (P.2 k y))))
    · have := (rd_scan_some _ _ _ _ _ y).2.1; omega
    · have := (rd_scan_some _ _ _ _ _ y).2.1; omega
  · have zi := rd_scan_some _ _ _ _ _ z
    have iL := rd_at_in h zi.2.2.1
    have hh := zi.2.2.2
    simp only [Bool.and_eq_true] at hh
    obtain ⟨⟨j, hj, ej⟩, _, _⟩ := rd_alt h I.vG iL hh.1
    have ej' : (A 1 (20 * bb + i)).toNatClampNeg = j := by rw [ej]; exact nI_clamp (by omega)
    obtain ⟨e0, e1⟩ := hy.y3 (3 * t + j) (by omega)
    have ii : 20 * A 8 (nI t).toNatClampNeg + nI i = nI (20 * bb + i) := by rw [ct, g1]; exact rd_ix' bb i 20 20 rfl
    have i8' : 8 * nI (3 * t + j) = nI (8 * (3 * t + j)) := by
      have := rd_ix' (3 * t + j) 0 8 8 rfl
      rw [nI_0, Int32.add_zero] at this
      exact this
    cases hq : Q (3 * t + j) with
    | nil =>
      have := hh.2
      unfold rd_sS at this
      rw [ej', hq] at this
      exact absurd this (by decide)
    | cons c l =>
      rw [hq] at e1
      have fin : wpY_aAt (fun r_246 => (vp_in (8 * ((3 * nI t) + r_246)) 192 ∧ (∀ x4 : Int32, x4 = qa (8 * ((3 * nI t) + r_246)).toNatClampNeg → (vp_in (nI t) 8 ∧ (vp_in ((20 * (A 8 (nI t).toNatClampNeg)) + nI i) 80 ∧ (wpY_meet (fun u => match u with | (f_tasks_1, f_blocks_1, f_readies_1, f_time_1, f_done_1, f_turns_1, f_notes_1, a_length_1, a_ops_1, a_as_1, a_bs_1, a_states_1, a_places_1, a_xs_1, a_limits_1, a_bodies_1, a_ends_1, a_raised_1, a_until_1, a_high_1, a_kinds_1, a_frames_1, a_on_1, a_onBlock_1, a_doomed_1, a_queues_1, a_waiting_1, a_row_1, a_dying_1, a_among_1, a_noteTask_1, a_noteInt_1) => post (f_tasks_1, f_blocks_1, f_readies_1, f_time_1, f_done_1, f_turns_1, f_notes_1, a_length_1, a_ops_1, a_as_1, a_bs_1, a_states_1, a_places_1, a_xs_1, a_limits_1, a_bodies_1, a_ends_1, a_raised_1, a_until_1, a_high_1, a_kinds_1, a_frames_1, a_on_1, a_onBlock_1, a_doomed_1, a_queues_1, a_waiting_1, a_row_1, a_dying_1, a_among_1, a_noteTask_1, a_noteInt_1)) (rd_tY A (nI w.length) ra qa wq am rz ob fr st bl) (nI t) x4 (A 2 ((20 * (A 8 (nI t).toNatClampNeg)) + nI i).toNatClampNeg))))))) (rd_tY A (nI w.length) ra qa wq am rz ob fr st bl) (nI t) (nI i) := by
        refine rd_y_aAt h (by omega) (by omega) ?_
        rw [ej, rd_ix' t j 3 3 rfl, i8', nI_clamp (by omega), ii, nI_clamp (by omega)]
        exact ⟨vp_in_nI (by omega) (by omega), nm_r e1.1 ⟨i8, vp_in_nI (by omega) (by omega), PA i j c l z ej hj hq⟩⟩
      exact rd_y_other h (by omega) (fun _ => br_f (nI_pos (by omega)) fin) (fun k _ => br_f (nI_pos (by omega)) fin)
theorem rd_op15 (C : rd_C n D t p b' A w Q) (hp20 : p < 20) : rd_O1 n D t p 15 a b a b A w Q ∨ rd_O2 n D t p 15 a b a b A w Q := by
  obtain ⟨I, ht, h0, hp, n9, epl, hpl, ebo, hbo, hD, ⟨T, hT, eT⟩, hN⟩ := id C
  have hn := I.vN.2
  have ct : (nI t).toNatClampNeg = t := nI_clamp (by omega)
  have i8 : vp_in (nI t) 8 := vp_in_nI (by omega) (by omega)
  have k7 : A 4 t ≠ 7 := by rw [h0]; decide
  have k8 : A 4 t ≠ 8 := by rw [h0]; decide
  have k9 : A 4 t ≠ 9 := by rw [h0]; decide
  have wk1 : A 16 t = -1 := rd_wk0 I ht ⟨by rw [h0]; decide, by rw [h0]; decide, by rw [h0]; decide⟩
  have wl8 : w.length ≤ 8 := Nat.le_trans (rd_wlen I) hn
  have wx8 : ∀ x, x ∈ w → x < 8 := fun x hx => Nat.lt_of_lt_of_le ((I.vR.2 x).mp hx).1 hn
  have hQ8 : ∀ q, (Q q).length ≤ 8 := fun q => Nat.le_trans (rd_qlen I) hn
  obtain ⟨d, hd, ed, _⟩ := rd_dpos I ht
  obtain ⟨L, hL, eL⟩ := I.vG.1 b' (by omega)
  have hat : rd_at A t b' p L := ⟨ebo, hbo, epl, hpl, eL, hL⟩
  have e20 : A 8 (nI t).toNatClampNeg * 20 = nI (20 * b') := by
    rw [ct, ebo]
    have := rd_ix b' 0 20 20 rfl
    rw [nI_0, Int32.add_zero] at this
    exact this
  have ep1 : A 5 (nI t).toNatClampNeg + 1 = nI (p + 1) := by rw [ct, epl, nI_1]
  by_cases z : d < 8
  · -- the ways of both sides
    have XS : ∀ (K : Int32 → SX → Prop) (ra qa ql : Nat → Int32), rd_XL w Q ra qa ql → (∀ i j, rd_SA A t b' Q 21 (p + 1) = some i → A 1 (20 * b' + i) = nI j → j < 3 → i < 20 → wpX_meetFirstOf (fun u => match u with | (f_rowLength_1, f_noteCount_1, f_tasks_1, f_time_1, f_done_1, f_turns_1, f_doneInTurn_1, f_inTurn_1, a_ops_1, a_firsts_1, a_seconds_1, a_lengths_1, a_condition_1, a_place_1, a_xs_1, a_ended_1, a_bodyOf_1, a_master_1, a_masterBlock_1, a_limits_1, a_pending_1, a_doomed_1, a_terminable_1, a_calledQueue_1, a_wakeTime_1, a_wakePlace_1, a_depth_1, a_frameKind_1, a_frameValue_1, a_queue_1, a_queueLength_1, a_row_1, a_noteTask_1, a_noteValue_1, a_fallen_1, a_chosen_1) => (vp_in (nI (20 * b' + i)) 80 ∧ K (a_seconds_1 (20 * b' + i)) (f_rowLength_1, f_noteCount_1, f_tasks_1, f_time_1, f_done_1, f_turns_1, f_doneInTurn_1, f_inTurn_1, a_ops_1, a_firsts_1, a_seconds_1, a_lengths_1, a_condition_1, a_place_1, a_xs_1, a_ended_1, a_bodyOf_1, a_master_1, a_masterBlock_1, a_limits_1, a_pending_1, a_doomed_1, a_terminable_1, a_calledQueue_1, a_wakeTime_1, a_wakePlace_1, a_depth_1, a_frameKind_1, a_frameValue_1, a_queue_1, a_queueLength_1, a_row_1, a_noteTask_1, a_noteValue_1, a_fallen_1, a_chosen_1))) (rd_tX A (nI w.length) ra qa ql) (nI t) (nI (3 * t + j))) → (rd_SA A t b' Q 21 (p + 1) = none → ∀ o, o = rd_ov b' (rd_SO A b' 21 (p + 1)) → ((o = -1 → rd_SH A t b' 21 (p + 1) = none → wpX_fail (fun r u => match u with | (f_rowLength_1, f_noteCount_1, f_tasks_1, f_time_1, f_done_1, f_turns_1, f_doneInTurn_1, f_inTurn_1, a_ops_1, a_firsts_1, a_seconds_1, a_lengths_1, a_condition_1, a_place_1, a_xs_1, a_ended_1, a_bodyOf_1, a_master_1, a_masterBlock_1, a_limits_1, a_pending_1, a_doomed_1, a_terminable_1, a_calledQueue_1, a_wakeTime_1, a_wakePlace_1, a_depth_1, a_frameKind_1, a_frameValue_1, a_queue_1, a_queueLength_1, a_row_1, a_noteTask_1, a_noteValue_1, a_fallen_1, a_chosen_1) => K r (f_rowLength_1, f_noteCount_1, f_tasks_1, f_time_1, f_done_1, f_turns_1, f_doneInTurn_1, f_inTurn_1, a_ops_1, a_firsts_1, a_seconds_1, a_lengths_1, a_condition_1, a_place_1, a_xs_1, a_ended_1, a_bodyOf_1, a_master_1, a_masterBlock_1, a_limits_1, a_pending_1, a_doomed_1, a_terminable_1, a_calledQueue_1, a_wakeTime_1, a_wakePlace_1, a_depth_1, a_frameKind_1, a_frameValue_1, a_queue_1, a_queueLength_1, a_row_1, a_noteTask_1, a_noteValue_1, a_fallen_1, a_chosen_1)) (rd_tX A (nI w.length) ra qa ql) (nI t) 12) ∧ (¬ (o = -1 ∧ rd_SH A t b' 21 (p + 1) = none) → wX_doSelect_166 K (nI t) o (nI w.length) (A 25 0) (A 26 0) (A 27 0) (A 28 0) (A 29 0) (A 30 0) (A 31 0) (A 0) (A 1) (A 2) (A 3) (A 4) (A 5) (A 6) (A 7) (A 8) (A 9) (A 10) (A 11) (A 12) (A 13) (A 14) (A 15) (A 16) (A 17) (A 18) (A 19) (A 20) qa ql ra (A 21) (A 22) (A 32) (A 23)))) → wpX_doSelect K (rd_tX A (nI w.length) ra qa ql) (nI t) := by
      intro K ra qa ql hx HA HN
      unfold wpX_doSelect
      refine ⟨i8, br_t (by rw [ct, ed]; exact nI_lt (b := 8) z (by omega)) ⟨i8, nm_r e20 (rd_x_eo hat (by omega) (fun e he => ⟨i8, nm_r ep1 ⟨_, rd_xl_sel hat (by omega) I.vG hx hQ8 he 21 (p + 1) 0 (-1) (by omega) (by omega) (Nat.le_refl _) (fun j a1 a2 => by omega) HA (fun g o ho => ?_)⟩⟩))⟩⟩
      rw [if_pos rfl] at ho
      have H := HN g o ho
      exact ⟨fun a1 _ a3 => H.1 a1 a3, fun a1 => H.2 (fun q => a1 ⟨q.1, rfl, q.2⟩)⟩
    have YS : ∀ (post : SY → Prop) (ra qa wq am rz ob fr st : Nat → Int32) (bl : Int32), wpY_select (fun u => match u with | (f_tasks_1, f_blocks_1, f_readies_1, f_time_1, f_done_1, f_turns_1, f_notes_1, a_length_1, a_ops_1, a_as_1, a_bs_1, a_states_1, a_places_1, a_xs_1, a_limits_1, a_bodies_1, a_ends_1, a_raised_1, a_until_1, a_high_1, a_kinds_1, a_frames_1, a_on_1, a_onBlock_1, a_doomed_1, a_queues_1, a_waiting_1, a_row_1, a_dying_1, a_among_1, a_noteTask_1, a_noteInt_1) => post (f_tasks_1, f_blocks_1, f_readies_1, f_time_1, f_done_1, f_turns_1, f_notes_1, a_length_1, a_ops_1, a_as_1, a_bs_1, a_states_1, a_places_1, a_xs_1, a_limits_1, a_bodies_1, a_ends_1, a_raised_1, a_until_1, a_high_1, a_kinds_1, a_frames_1, a_on_1, a_onBlock_1, a_doomed_1, a_queues_1, a_waiting_1, a_row_1, a_dying_1, a_among_1, a_noteTask_1, a_noteInt_1)) (rd_tY A (nI w.length) ra qa wq am rz ob fr st bl) (nI t) → wpY_step post (rd_tY A (nI w.length) ra qa wq am rz ob fr st bl) (nI t) 15 a b := by
      intro post ra qa wq am rz ob fr st bl H
      refine rd_y_st (d := d) (by omega) epl ed hd (by decide) (by decide) (by decide) (by decide) (by decide) (Or.inl z) ?_
      exact br_f (by decide) <| br_f (by decide) <| br_f (by decide) <| br_f (by decide) <| br_f (by decide) <| br_f (by decide) <| br_f (by decide) <| br_f (by decide) <| br_f (by decide) <| br_f (by decide) <| br_f (by decide) <| br_f (by decide) <| br_f (by decide) <| br_t rfl <| H
    cases hSA : rd_SA A t b' Q 21 (p + 1) with
    | some i =>
      -- a meeting begins
      refine Or.inl ?_
      have zi := rd_scan_some _ _ _ _ _ hSA
      have iL := rd_at_in hat zi.2.2.1
      have hh := zi.2.2.2
      simp only [Bool.and_eq_true] at hh
      obtain ⟨⟨j, hj, ej⟩, ⟨q, hq20, eq⟩, _⟩ := rd_alt hat I.vG iL hh.1
      have ej' : (A 1 (20 * b' + i)).toNatClampNeg = j := by rw [ej]; exact nI_clamp (by omega)
      cases hq : Q (3 * t + j) with
      | nil =>
        have := hh.2
        unfold rd_sS at this
        rw [ej', hq] at this
        exact absurd this (by decide)
      | cons c l =>
        refine rd_o_meet (q := q) C hq ed z (by omega) ?_ ?_
        · intro post ra qa ql hx K H
          refine br_f (by decide) <| br_f (by decide) <| br_f (by decide) <| br_f (by decide) <| br_f (by decide) <| br_f (by decide) <| br_f (by decide) <| br_f (by decide) <| br_f (by decide) <| br_f (by decide) <| br_f (by decide) <| br_f (by decide) <| br_f (by decide) <| br_f (by decide) <| br_f (by decide) <| br_f (by decide) <| br_f (by decide) <| br_t rfl <| XS _ ra qa ql hx (fun i' j' s1 s2 s3 s4 => ?_) (fun g => by rw [hSA] at g; simp at g)
          rw [hSA] at s1
          have s1 : i = i' := by simpa using s1
          subst s1
          have e1 : j' = j := rd_inj (by omega) (by omega) (s2.symm.trans ej)
          subst e1
          refine K _ ?_
          rintro u' ⟨ra1, qa1, ql1, rfl, hx1⟩
          refine ⟨vp_in_nI (by omega) (by omega), i8, nm_r (e' := upd (A 5) t (nI q)) ?_ (H _ (rd_RX_mk (A := rd_sw (rd_mt A t c d)  5 t (nI q)) hx1))⟩
          rw [ct]
          show upd (A 5) t (A 2 (20 * b' + i)) = _
          rw [eq]
        · intro post ra qa wq am rz ob fr st bl hy P
          refine YS post ra qa wq am rz ob fr st bl (rd_y_sel I hy ht hat (fun i' j' c' l' s1 s2 s3 s4 => ?_) (fun g => by rw [hSA] at g; simp at g))
          rw [hSA] at s1
          have s1 : i = i' := by simpa using s1
          subst s1
          have e1 : j' = j := rd_inj (by omega) (by omega) (s2.symm.trans ej)
          subst e1
          rw [hq] at s4
          have s5 : c = c' := by simp at s4; exact s4.1
          subst s5
          rw [eq]
          exact P
    | none =>
      have nSA : ∀ {i : Nat}, ¬ rd_SA A t b' Q 21 (p + 1) = some i := by
        intro i g
        rw [hSA] at g
        simp at g
      by_cases hf : rd_SO A b' 21 (p + 1) = none ∧ rd_SH A t b' 21 (p + 1) = none
      · -- nothing at all
        refine Or.inr (rd_mkO2y C 12 (by omega) (by omega) ?_ ?_)
        · intro post ra qa ql hx H
          refine br_f (by decide) <| br_f (by decide) <| br_f (by decide) <| br_f (by decide) <| br_f (by decide) <| br_f (by decide) <| br_f (by decide) <| br_f (by decide) <| br_f (by decide) <| br_f (by decide) <| br_f (by decide) <| br_f (by decide) <| br_f (by decide) <| br_f (by decide) <| br_f (by decide) <| br_f (by decide) <| br_f (by decide) <| br_t rfl <| XS _ ra qa ql hx (fun i' j' s1 => absurd s1 nSA) (fun _ o ho => ⟨fun _ _ => H, fun g => ?_⟩)
          rw [hf.1] at ho
          exact absurd ⟨ho, hf.2⟩ g
        · intro post ra qa wq am rz ob fr st bl hy H
          refine YS post ra qa wq am rz ob fr st bl (rd_y_sel I hy ht hat (fun i' j' c' l' s1 => absurd s1 nSA) (fun _ => ⟨fun _ => ?_, fun k g => by rw [hf.1] at g; simp at g⟩))
          exact rd_y_hasOpen hat (by omega) (fun _ => br_f (by decide) (br_t rfl H)) (fun k g => by
            have g : rd_SH A t b' 21 (p + 1) = some k := g
            rw [hf.2] at g
            simp at g)
      · refine Or.inl ?_
        -- the instruction that counts, if there is one
        have key : ∃ (o z0 : Int32), o = rd_ov b' (rd_SO A b' 21 (p + 1)) ∧ ((o = -1 ∧ z0 = -1 ∧ rd_SO A b' 21 (p + 1) = none ∧ ∃ k, rd_SH A t b' 21 (p + 1) = some k) ∨ ∃ k, k < 20 ∧ rd_SO A b' 21 (p + 1) = some k ∧ o = nI (20 * b' + k) ∧ z0 = A 0 (20 * b' + k) ∧ rd_op (A 0) (A 3) b' k = A 0 (20 * b' + k) ∧ (z0 = 18 ∨ z0 = 19 → ∃ q, q ≤ 20 ∧ A 1 (20 * b' + k) = nI q)) := by
          cases hSO : rd_SO A b' 21 (p + 1) with
          | none =>
            refine ⟨-1, -1, rfl, Or.inl ⟨rfl, rfl, rfl, ?_⟩⟩
            cases hSH : rd_SH A t b' 21 (p + 1) with
            | none => exact absurd ⟨hSO, hSH⟩ hf
            | some k => exact ⟨k, rfl⟩
          | some k =>
            have zk := rd_scan_some _ _ _ _ _ hSO
            have kL := rd_at_in hat zk.2.2.1
            have ef := (rd_at_op hat k).1 kL
            have fit := I.vG.2 (20 * b' + k) (by omega)
            refine ⟨nI (20 * b' + k), A 0 (20 * b' + k), rfl, Or.inr ⟨k, by omega, rfl, rfl, rfl, ef, fun g => fit.2.1 ?_⟩⟩
            rcases g with g | g
            · exact Or.inr (Or.inr (Or.inl g))
            · exact Or.inr (Or.inr (Or.inr (Or.inl g)))
        obtain ⟨o, z0, ho, hoz⟩ := key
        have XW : ∀ (K : Int32 → SX → Prop) (ra qa ql : Nat → Int32), rd_XL w Q ra qa ql → wX_selectWithout_15 (fun r u => match u with | (f_rowLength_1, f_noteCount_1, f_tasks_1, f_time_1, f_done_1, f_turns_1, f_doneInTurn_1, f_inTurn_1, a_ops_1, a_firsts_1, a_seconds_1, a_lengths_1, a_condition_1, a_place_1, a_xs_1, a_ended_1, a_bodyOf_1, a_master_1, a_masterBlock_1, a_limits_1, a_pending_1, a_doomed_1, a_terminable_1, a_calledQueue_1, a_wakeTime_1, a_wakePlace_1, a_depth_1, a_frameKind_1, a_frameValue_1, a_queue_1, a_queueLength_1, a_row_1, a_noteTask_1, a_noteValue_1, a_fallen_1, a_chosen_1) => K r (f_rowLength_1, f_noteCount_1, f_tasks_1, f_time_1, f_done_1, f_turns_1, f_doneInTurn_1, f_inTurn_1, a_ops_1, a_firsts_1, a_seconds_1, a_lengths_1, a_condition_1, a_place_1, a_xs_1, a_ended_1, a_bodyOf_1, a_master_1, a_masterBlock_1, a_limits_1, a_pending_1, a_doomed_1, a_terminable_1, a_calledQueue_1, a_wakeTime_1, a_wakePlace_1, a_depth_1, a_frameKind_1, a_frameValue_1, a_queue_1, a_queueLength_1, a_row_1, a_noteTask_1, a_noteValue_1, a_fallen_1, a_chosen_1)) (nI t) o z0 (nI w.length) (A 25 0) (A 26 0) (A 27 0) (A 28 0) (A 29 0) (A 30 0) (A 31 0) (A 0) (A 1) (A 2) (A 3) (A 4) (A 5) (A 6) (A 7) (A 8) (A 9) (A 10) (A 11) (A 12) (A 13) (A 14) (A 15) (A 16) (A 17) (A 18) (A 19) (A 20) qa ql ra (A 21) (A 22) (A 32) (A 23) → wpX_doSelect K (rd_tX A (nI w.length) ra qa ql) (nI t) := by
          intro K ra qa ql hx P
          refine XS K ra qa ql hx (fun i' j' s1 => absurd s1 nSA) (fun _ o' ho' => ?_)
          have e1 : o' = o := ho'.trans ho.symm
          subst e1
          refine ⟨fun g1 g2 => ?_, fun _ => ?_⟩
          · rcases hoz with ⟨_, _, q1, q2, q3⟩ | ⟨k, q1, q2, q3, _⟩
            · rw [g2] at q3; simp at q3
            · exact absurd (q3.symm.trans g1) (rd_nm (by omega))
          · show wpX_selectWithout _ _ _ _
            unfold wpX_selectWithout
            rcases hoz with ⟨q1, q2, _⟩ | ⟨k, q1, q2, q3, q4, _⟩
            · rw [q1, q2] at P
              rw [q1]
              exact br_t rfl P
            · have ck : (nI (20 * b' + k)).toNatClampNeg = 20 * b' + k := nI_clamp (by omega)
              rw [q3, q4] at P
              rw [q3]
              refine br_f (rd_nm (by omega)) ⟨vp_in_nI (by omega) (by omega), ?_⟩
              rw [ck]
              exact P
        have YW : ∀ (post : SY → Prop) (ra qa wq am rz ob fr st : Nat → Int32) (bl : Int32), rd_YL 8 n D A w Q ra qa wq am rz ob fr st bl → (∀ x3 : Int32, (∀ k, o = nI (20 * b' + k) → k < 20 → x3 = nI k) → wY_select_103 (fun u => match u with | (f_tasks_1, f_blocks_1, f_readies_1, f_time_1, f_done_1, f_turns_1, f_notes_1, a_length_1, a_ops_1, a_as_1, a_bs_1, a_states_1, a_places_1, a_xs_1, a_limits_1, a_bodies_1, a_ends_1, a_raised_1, a_until_1, a_high_1, a_kinds_1, a_frames_1, a_on_1, a_onBlock_1, a_doomed_1, a_queues_1, a_waiting_1, a_row_1, a_dying_1, a_among_1, a_noteTask_1, a_noteInt_1) => post (f_tasks_1, f_blocks_1, f_readies_1, f_time_1, f_done_1, f_turns_1, f_notes_1, a_length_1, a_ops_1, a_as_1, a_bs_1, a_states_1, a_places_1, a_xs_1, a_limits_1, a_bodies_1, a_ends_1, a_raised_1, a_until_1, a_high_1, a_kinds_1, a_frames_1, a_on_1, a_onBlock_1, a_doomed_1, a_queues_1, a_waiting_1, a_row_1, a_dying_1, a_among_1, a_noteTask_1, a_noteInt_1)) (nI t) x3 z0 (A 26 0) bl (nI w.length) (A 27 0) (A 28 0) (A 29 0) (A 25 0) (A 3) (A 0) (A 1) (A 2) st (A 5) (A 6) (A 11) (A 8) (A 7) rz (A 16) (A 18) (A 19) fr (A 9) ob (A 13) qa wq ra (A 33) am (A 21) (A 22)) → wpY_step post (rd_tY A (nI w.length) ra qa wq am rz ob fr st bl) (nI t) 15 a b := by
          intro post ra qa wq am rz ob fr st bl hy P
          refine YS post ra qa wq am rz ob fr st bl (rd_y_sel I hy ht hat (fun i' j' c' l' s1 => absurd s1 nSA) (fun _ => ⟨fun g => ?_, fun k g => ?_⟩))
          · rcases hoz with ⟨q1, q2, q3, k, q4⟩ | ⟨k, q1, q2, q3, _⟩
            · have P' := P (-1) (fun k e1 _ => absurd (e1.symm.trans q1) (rd_nm (by omega)))
              rw [q2] at P'
              refine rd_y_hasOpen hat (by omega) (fun g' => ?_) (fun k' _ => br_f (by decide) (br_f (by decide) P'))
              have g' : rd_SH A t b' 21 (p + 1) = none := g'
              rw [q4] at g'
              simp at g'
            · rw [g] at q2; simp at q2
          · rcases hoz with ⟨q1, q2, q3, _⟩ | ⟨k', q1, q2, q3, q4, q5, _⟩
            · rw [g] at q3; simp at q3
            · have e1 : k' = k := by rw [g] at q2; simp at q2; exact q2.symm
              subst e1
              have P' := P (nI k') (fun k2 e2 h2 => by
                have := rd_inj (by omega) (by omega) (q3.symm.trans e2)
                congr 1
                omega)
              rw [q4, ← q5] at P'
              exact rd_y_hasOpen hat (by omega) (fun _ => br_t (nI_pos' (by omega)) P') (fun _ _ => br_t (nI_pos' (by omega)) P')
        by_cases hgo : z0 = 18 ∨ (z0 = 19 ∧ A 11 t = 0)
        · -- on at once
          rcases hoz with ⟨_, q2, _⟩ | ⟨k, k20, q2, q3, q4, q5, q6⟩
          · rw [q2] at hgo
            exact absurd hgo (by rintro (g | g); exact absurd g (by decide); exact absurd g.1 (by decide))
          · obtain ⟨q, hq, eq⟩ := q6 (by rcases hgo with g | g; exact Or.inl g; exact Or.inr g.1)
            have ck : o.toNatClampNeg = 20 * b' + k := by rw [q3]; exact nI_clamp (by omega)
            have io : vp_in o 80 := by rw [q3]; exact vp_in_nI (by omega) (by omega)
            refine rd_o_ply (q := q) C A (by omega) I ⟨rfl, rfl, rfl, rfl, rfl, rfl, rfl, rfl, rfl, rfl, rfl, rfl, rfl⟩ ?_ ?_
            · intro post ra qa ql hx H
              refine br_f (by decide) <| br_f (by decide) <| br_f (by decide) <| br_f (by decide) <| br_f (by decide) <| br_f (by decide) <| br_f (by decide) <| br_f (by decide) <| br_f (by decide) <| br_f (by decide) <| br_f (by decide) <| br_f (by decide) <| br_f (by decide) <| br_f (by decide) <| br_f (by decide) <| br_f (by decide) <| br_f (by decide) <| br_t rfl <| XW _ ra qa ql hx ?_
              have fin : (vp_in o 80 ∧ (vp_in (nI t) 8 ∧ ∀ y, y = upd (A 5) (nI t).toNatClampNeg (A 1 o.toNatClampNeg) → post (rd_tX (rd_sa A  5 y) (nI w.length) ra qa ql))) := by
                refine ⟨io, i8, nm_r (e' := upd (A 5) t (nI q)) (by rw [ct, ck, eq]) H⟩
              rcases hgo with g | ⟨g, g0⟩
              · exact br_t g fin
              · exact br_f (by rw [g]; decide) (br_t g ⟨i8, br_t (by rw [ct]; exact g0) fin⟩)
            · intro post ra qa wq am rz ob fr st bl hy H
              refine YW post ra qa wq am rz ob fr st bl hy (fun x3 hx3 => ?_)
              have e3 := hx3 k q3 k20
              subst e3
              have fin : wY_select_126 (fun u => match u with | (f_tasks_1, f_blocks_1, f_readies_1, f_time_1, f_done_1, f_turns_1, f_notes_1, a_length_1, a_ops_1, a_as_1, a_bs_1, a_states_1, a_places_1, a_xs_1, a_limits_1, a_bodies_1, a_ends_1, a_raised_1, a_until_1, a_high_1, a_kinds_1, a_frames_1, a_on_1, a_onBlock_1, a_doomed_1, a_queues_1, a_waiting_1, a_row_1, a_dying_1, a_among_1, a_noteTask_1, a_noteInt_1) => post (f_tasks_1, f_blocks_1, f_readies_1, f_time_1, f_done_1, f_turns_1, f_notes_1, a_length_1, a_ops_1, a_as_1, a_bs_1, a_states_1, a_places_1, a_xs_1, a_limits_1, a_bodies_1, a_ends_1, a_raised_1, a_until_1, a_high_1, a_kinds_1, a_frames_1, a_on_1, a_onBlock_1, a_doomed_1, a_queues_1, a_waiting_1, a_row_1, a_dying_1, a_among_1, a_noteTask_1, a_noteInt_1)) (nI t) (nI k) (A 26 0) bl (nI w.length) (A 27 0) (A 28 0) (A 29 0) (A 25 0) (A 3) (A 0) (A 1) (A 2) st (A 5) (A 6) (A 11) (A 8) (A 7) rz (A 16) (A 18) (A 19) fr (A 9) ob (A 13) qa wq ra (A 33) am (A 21) (A 22) := by
                refine rd_y_aAt hat (by omega) k20 ⟨i8, nm_r (e' := upd (A 5) t (nI q)) (by rw [ct, eq]) H⟩
              rcases hgo with g | ⟨g, g0⟩
              · exact br_t g fin
              · exact br_f (by rw [g]; decide) (br_t g ⟨i8, br_t (by rw [ct]; exact g0) fin⟩)
        · -- it waits
          obtain ⟨lim, hlim, elim⟩ := I.rli t ht
          have teq : ∃ x : Int32, (z0 = 20 → x = 1) ∧ (z0 ≠ 20 → x = 0) ∧ x = if (rd_oth (A 0) (A 3) b' p).any (fun i => decide (rd_op (A 0) (A 3) b' i = 20)) then 1 else 0 := by
            rcases hoz with ⟨_, q2, q3, _⟩ | ⟨k, k20, q2, q3, q4, q5, q6⟩
            · have q3 : rd_oth (A 0) (A 3) b' p = none := q3
              rw [q3]
              exact ⟨0, fun g => by rw [q2] at g; exact absurd g (by decide), fun _ => rfl, rfl⟩
            · have q2 : rd_oth (A 0) (A 3) b' p = some k := q2
              rw [q2]
              by_cases g : z0 = 20
              · refine ⟨1, fun _ => rfl, fun y => absurd g y, ?_⟩
                have : rd_op (A 0) (A 3) b' k = 20 := by rw [q5, ← q4]; exact g
                simp [this]
              · refine ⟨0, fun y => absurd y g, fun _ => rfl, ?_⟩
                have : ¬ rd_op (A 0) (A 3) b' k = 20 := by rw [q5, ← q4]; exact g
                simp [this]
          obtain ⟨x, x1, x0, hxx⟩ := teq
          have I1 := rd_i_sel (x := x) I ht h0 hp20 epl hbo ebo hp ⟨d, z, ed⟩ hxx
          have nz : ∀ B : rd_St, B 4 = upd (A 4) t 4 → B 4 t ≠ 0 := by
            intro B e
            rw [e, rd_us]; decide
          have n9' : ∀ B : rd_St, B 4 = upd (A 4) t 4 → ∀ r, r < n → B 4 r ≠ 9 := by
            intro B e r hr y
            rw [e] at y
            by_cases g : r = t
            · rw [g, rd_us] at y; exact absurd y (by decide)
            · rw [rd_un g] at y; exact n9 r hr y
          have n18 : z0 ≠ 18 := fun g => hgo (Or.inl g)
          have n19 : z0 = 19 → A 11 t ≠ 0 := fun g y => hgo (Or.inr ⟨g, y⟩)
          have X3 : ∀ (post : SX → Prop) (ra qa ql : Nat → Int32), rd_XL w Q ra qa ql → (∀ ra1 qa1 ql1, rd_XL (w.filter (fun x => x != t)) Q ra1 qa1 ql1 → ((z0 = 19 → vp_in o 80 ∧ wpX_wakeAfter (fun u => match u with | (f_rowLength_1, f_noteCount_1, f_tasks_1, f_time_1, f_done_1, f_turns_1, f_doneInTurn_1, f_inTurn_1, a_ops_1, a_firsts_1, a_seconds_1, a_lengths_1, a_condition_1, a_place_1, a_xs_1, a_ended_1, a_bodyOf_1, a_master_1, a_masterBlock_1, a_limits_1, a_pending_1, a_doomed_1, a_terminable_1, a_calledQueue_1, a_wakeTime_1, a_wakePlace_1, a_depth_1, a_frameKind_1, a_frameValue_1, a_queue_1, a_queueLength_1, a_row_1, a_noteTask_1, a_noteValue_1, a_fallen_1, a_chosen_1) => (vp_in (nI t) 8 ∧ (vp_in (nI t) 8 ∧ ∀ y, y = upd a_place_1 (nI t).toNatClampNeg (a_place_1 (nI t).toNatClampNeg) → post (f_rowLength_1, f_noteCount_1, f_tasks_1, f_time_1, f_done_1, f_turns_1, f_doneInTurn_1, f_inTurn_1, a_ops_1, a_firsts_1, a_seconds_1, a_lengths_1, a_condition_1, y, a_xs_1, a_ended_1, a_bodyOf_1, a_master_1, a_masterBlock_1, a_limits_1, a_pending_1, a_doomed_1, a_terminable_1, a_calledQueue_1, a_wakeTime_1, a_wakePlace_1, a_depth_1, a_frameKind_1, a_frameValue_1, a_queue_1, a_queueLength_1, a_row_1, a_noteTask_1, a_noteValue_1, a_fallen_1, a_chosen_1)))) (rd_tX (rd_sw (rd_sw A  4 t 4)  14 t x) (nI (w.filter (fun x => x != t)).length) ra1 qa1 ql1) (nI t) (A 11 (nI t).toNatClampNeg) (A 1 o.toNatClampNeg)) ∧ (¬ z0 = 19 → post (rd_tX (rd_sw (rd_sw A  4 t 4)  14 t x) (nI (w.filter (fun x => x != t)).length) ra1 qa1 ql1)))) → wX_perform_119 post (nI t) (nI (p + 1)) 15 a b (nI w.length) (A 25 0) (A 26 0) (A 27 0) (A 28 0) (A 29 0) (A 30 0) (A 31 0) (A 0) (A 1) (A 2) (A 3) (A 4) (A 5) (A 6) (A 7) (A 8) (A 9) (A 10) (A 11) (A 12) (A 13) (A 14) (A 15) (A 16) (A 17) (A 18) (A 19) (A 20) qa ql ra (A 21) (A 22) (A 32) (A 23) := by
            intro post ra qa ql hx H
            refine br_f (by decide) <| br_f (by decide) <| br_f (by decide) <| br_f (by decide) <| br_f (by decide) <| br_f (by decide) <| br_f (by decide) <| br_f (by decide) <| br_f (by decide) <| br_f (by decide) <| br_f (by decide) <| br_f (by decide) <| br_f (by decide) <| br_f (by decide) <| br_f (by decide) <| br_f (by decide) <| br_f (by decide) <| br_t rfl <| XW _ ra qa ql hx ?_
            have f44 : wX_selectWithout_44 (fun r u => match u with | (f_rowLength_1, f_noteCount_1, f_tasks_1, f_time_1, f_done_1, f_turns_1, f_doneInTurn_1, f_inTurn_1, a_ops_1, a_firsts_1, a_seconds_1, a_lengths_1, a_condition_1, a_place_1, a_xs_1, a_ended_1, a_bodyOf_1, a_master_1, a_masterBlock_1, a_limits_1, a_pending_1, a_doomed_1, a_terminable_1, a_calledQueue_1, a_wakeTime_1, a_wakePlace_1, a_depth_1, a_frameKind_1, a_frameValue_1, a_queue_1, a_queueLength_1, a_row_1, a_noteTask_1, a_noteValue_1, a_fallen_1, a_chosen_1) => (match (f_rowLength_1, f_noteCount_1, f_tasks_1, f_time_1, f_done_1, f_turns_1, f_doneInTurn_1, f_inTurn_1, a_ops_1, a_firsts_1, a_seconds_1, a_lengths_1, a_condition_1, a_place_1, a_xs_1, a_ended_1, a_bodyOf_1, a_master_1, a_masterBlock_1, a_limits_1, a_pending_1, a_doomed_1, a_terminable_1, a_calledQueue_1, a_wakeTime_1, a_wakePlace_1, a_depth_1, a_frameKind_1, a_frameValue_1, a_queue_1, a_queueLength_1, a_row_1, a_noteTask_1, a_noteValue_1, a_fallen_1, a_chosen_1) with | (f_rowLength_2, f_noteCount_2, f_tasks_2, f_time_2, f_done_2, f_turns_2, f_doneInTurn_2, f_inTurn_2, a_ops_2, a_firsts_2, a_seconds_2, a_lengths_2, a_condition_2, a_place_2, a_xs_2, a_ended_2, a_bodyOf_2, a_master_2, a_masterBlock_2, a_limits_2, a_pending_2, a_doomed_2, a_terminable_2, a_calledQueue_2, a_wakeTime_2, a_wakePlace_2, a_depth_2, a_frameKind_2, a_frameValue_2, a_queue_2, a_queueLength_2, a_row_2, a_noteTask_2, a_noteValue_2, a_fallen_2, a_chosen_2) => (vp_in (nI t) 8 ∧ ∀ y, y = upd a_place_2 (nI t).toNatClampNeg r → post (f_rowLength_2, f_noteCount_2, f_tasks_2, f_time_2, f_done_2, f_turns_2, f_doneInTurn_2, f_inTurn_2, a_ops_2, a_firsts_2, a_seconds_2, a_lengths_2, a_condition_2, y, a_xs_2, a_ended_2, a_bodyOf_2, a_master_2, a_masterBlock_2, a_limits_2, a_pending_2, a_doomed_2, a_terminable_2, a_calledQueue_2, a_wakeTime_2, a_wakePlace_2, a_depth_2, a_frameKind_2, a_frameValue_2, a_queue_2, a_queueLength_2, a_row_2, a_noteTask_2, a_noteValue_2, a_fallen_2, a_chosen_2)))) (nI t) o z0 (nI w.length) (A 25 0) (A 26 0) (A 27 0) (A 28 0) (A 29 0) (A 30 0) (A 31 0) (A 0) (A 1) (A 2) (A 3) (A 4) (A 5) (A 6) (A 7) (A 8) (A 9) (A 10) (A 11) (A 12) (A 13) (A 14) (A 15) (A 16) (A 17) (A 18) (A 19) (A 20) qa ql ra (A 21) (A 22) (A 32) (A 23) := by
              refine rd_x_waitAs (rd_RX_mk hx) (by omega) wl8 wx8 ?_
              rintro u' ⟨ra1, qa1, ql1, rfl, hx1⟩
              have H1 := H ra1 qa1 ql1 hx1
              have f66 : ∀ v : Int32, v = x → vp_nar .boolean v = v → wX_selectWithout_66 (fun r u => match u with | (f_rowLength_1, f_noteCount_1, f_tasks_1, f_time_1, f_done_1, f_turns_1, f_doneInTurn_1, f_inTurn_1, a_ops_1, a_firsts_1, a_seconds_1, a_lengths_1, a_condition_1, a_place_1, a_xs_1, a_ended_1, a_bodyOf_1, a_master_1, a_masterBlock_1, a_limits_1, a_pending_1, a_doomed_1, a_terminable_1, a_calledQueue_1, a_wakeTime_1, a_wakePlace_1, a_depth_1, a_frameKind_1, a_frameValue_1, a_queue_1, a_queueLength_1, a_row_1, a_noteTask_1, a_noteValue_1, a_fallen_1, a_chosen_1) => (match (f_rowLength_1, f_noteCount_1, f_tasks_1, f_time_1, f_done_1, f_turns_1, f_doneInTurn_1, f_inTurn_1, a_ops_1, a_firsts_1, a_seconds_1, a_lengths_1, a_condition_1, a_place_1, a_xs_1, a_ended_1, a_bodyOf_1, a_master_1, a_masterBlock_1, a_limits_1, a_pending_1, a_doomed_1, a_terminable_1, a_calledQueue_1, a_wakeTime_1, a_wakePlace_1, a_depth_1, a_frameKind_1, a_frameValue_1, a_queue_1, a_queueLength_1, a_row_1, a_noteTask_1, a_noteValue_1, a_fallen_1, a_chosen_1) with | (f_rowLength_2, f_noteCount_2, f_tasks_2, f_time_2, f_done_2, f_turns_2, f_doneInTurn_2, f_inTurn_2, a_ops_2, a_firsts_2, a_seconds_2, a_lengths_2, a_condition_2, a_place_2, a_xs_2, a_ended_2, a_bodyOf_2, a_master_2, a_masterBlock_2, a_limits_2, a_pending_2, a_doomed_2, a_terminable_2, a_calledQueue_2, a_wakeTime_2, a_wakePlace_2, a_depth_2, a_frameKind_2, a_frameValue_2, a_queue_2, a_queueLength_2, a_row_2, a_noteTask_2, a_noteValue_2, a_fallen_2, a_chosen_2) => (vp_in (nI t) 8 ∧ ∀ y, y = upd a_place_2 (nI t).toNatClampNeg r → post (f_rowLength_2, f_noteCount_2, f_tasks_2, f_time_2, f_done_2, f_turns_2, f_doneInTurn_2, f_inTurn_2, a_ops_2, a_firsts_2, a_seconds_2, a_lengths_2, a_condition_2, y, a_xs_2, a_ended_2, a_bodyOf_2, a_master_2, a_masterBlock_2, a_limits_2, a_pending_2, a_doomed_2, a_terminable_2, a_calledQueue_2, a_wakeTime_2, a_wakePlace_2, a_depth_2, a_frameKind_2, a_frameValue_2, a_queue_2, a_queueLength_2, a_row_2, a_noteTask_2, a_noteValue_2, a_fallen_2, a_chosen_2)))) (nI t) o z0 v (nI t) (nI (w.filter (fun x => x != t)).length) ((rd_sw A  4 t 4) 25 0) ((rd_sw A  4 t 4) 26 0) ((rd_sw A  4 t 4) 27 0) ((rd_sw A  4 t 4) 28 0) ((rd_sw A  4 t 4) 29 0) ((rd_sw A  4 t 4) 30 0) ((rd_sw A  4 t 4) 31 0) ((rd_sw A  4 t 4) 0) ((rd_sw A  4 t 4) 1) ((rd_sw A  4 t 4) 2) ((rd_sw A  4 t 4) 3) ((rd_sw A  4 t 4) 4) ((rd_sw A  4 t 4) 5) ((rd_sw A  4 t 4) 6) ((rd_sw A  4 t 4) 7) ((rd_sw A  4 t 4) 8) ((rd_sw A  4 t 4) 9) ((rd_sw A  4 t 4) 10) ((rd_sw A  4 t 4) 11) ((rd_sw A  4 t 4) 12) ((rd_sw A  4 t 4) 13) ((rd_sw A  4 t 4) 14) ((rd_sw A  4 t 4) 15) ((rd_sw A  4 t 4) 16) ((rd_sw A  4 t 4) 17) ((rd_sw A  4 t 4) 18) ((rd_sw A  4 t 4) 19) ((rd_sw A  4 t 4) 20) qa1 ql1 ra1 ((rd_sw A  4 t 4) 21) ((rd_sw A  4 t 4) 22) ((rd_sw A  4 t 4) 32) ((rd_sw A  4 t 4) 23) := by
                intro v ev nb
                refine ⟨i8, nm_r (e' := upd (A 14) t x) (by rw [ct, nb, ev]; rfl) (br_c (fun g => ⟨i8, (H1.1 g).1, (H1.1 g).2⟩) (fun g => ⟨i8, i8, nm_r (e' := A 5) (by rw [ct]; exact rd_ue rfl) (H1.2 g)⟩))⟩
              exact br_c (fun g => f66 1 (x1 g).symm rd_nb1) (fun g => f66 0 (x0 g).symm rd_nb0)
            refine br_f n18 (br_c (fun g => ⟨i8, br_f (by rw [ct]; exact n19 g) f44⟩) (fun _ => f44))
          have Y3 : ∀ (post : SY → Prop) (ra qa wq am rz ob fr st : Nat → Int32) (bl : Int32), rd_YL 8 n D A w Q ra qa wq am rz ob fr st bl → (∀ ra', rd_LV ra' 0 (w.filter (fun x => x != t)) → ((z0 = 19 → post (rd_tY (rd_sa A  16 (upd (A 16) t (A 27 0 + A 11 t))) (nI (w.filter (fun x => x != t)).length) ra' qa wq am rz ob fr (upd st t 4) bl)) ∧ (¬ z0 = 19 → post (rd_tY A (nI (w.filter (fun x => x != t)).length) ra' qa wq am rz ob fr (upd st t 4) bl)))) → wpY_step post (rd_tY A (nI w.length) ra qa wq am rz ob fr st bl) (nI t) 15 a b := by
            intro post ra qa wq am rz ob fr st bl hy H
            refine YW post ra qa wq am rz ob fr st bl hy (fun x3 hx3 => ?_)
            have f141 : wY_select_141 (fun u => match u with | (f_tasks_1, f_blocks_1, f_readies_1, f_time_1, f_done_1, f_turns_1, f_notes_1, a_length_1, a_ops_1, a_as_1, a_bs_1, a_states_1, a_places_1, a_xs_1, a_limits_1, a_bodies_1, a_ends_1, a_raised_1, a_until_1, a_high_1, a_kinds_1, a_frames_1, a_on_1, a_onBlock_1, a_doomed_1, a_queues_1, a_waiting_1, a_row_1, a_dying_1, a_among_1, a_noteTask_1, a_noteInt_1) => post (f_tasks_1, f_blocks_1, f_readies_1, f_time_1, f_done_1, f_turns_1, f_notes_1, a_length_1, a_ops_1, a_as_1, a_bs_1, a_states_1, a_places_1, a_xs_1, a_limits_1, a_bodies_1, a_ends_1, a_raised_1, a_until_1, a_high_1, a_kinds_1, a_frames_1, a_on_1, a_onBlock_1, a_doomed_1, a_queues_1, a_waiting_1, a_row_1, a_dying_1, a_among_1, a_noteTask_1, a_noteInt_1)) (nI t) z0 (A 26 0) bl (nI w.length) (A 27 0) (A 28 0) (A 29 0) (A 25 0) (A 3) (A 0) (A 1) (A 2) st (A 5) (A 6) (A 11) (A 8) (A 7) rz (A 16) (A 18) (A 19) fr (A 9) ob (A 13) qa wq ra (A 33) am (A 21) (A 22) := by
              refine rd_y_rest hy.r (by omega) wl8 wx8 (fun ra' gr => br_c (fun g => ⟨i8, i8, nm_r (e' := upd (A 16) t (A 27 0 + A 11 t)) (by rw [ct]; exact rd_uu) ((H ra' gr).1 g)⟩) (fun g => ?_))
              rw [rd_sw_eq (A := A) (k :=  16) wk1]
              exact (H ra' gr).2 g
            exact br_f n18 (br_c (fun g => ⟨i8, br_f (by rw [ct]; exact n19 g) f141⟩) (fun _ => f141))
          by_cases g19 : z0 = 19
          · rcases hoz with ⟨_, q2, _⟩ | ⟨k, k20, q2, q3, q4, q5, q6⟩
            · rw [q2] at g19; exact absurd g19 (by decide)
            · obtain ⟨q, hq, eq⟩ := q6 (Or.inr g19)
              have ck : o.toNatClampNeg = 20 * b' + k := by rw [q3]; exact nI_clamp (by omega)
              have io : vp_in o 80 := by rw [q3]; exact vp_in_nI (by omega) (by omega)
              have etl : A 27 0 + A 11 t = nI (T + lim) := by rw [eT, elim, nI_add]
              have c4 : (rd_sw (rd_sw A  4 t 4)  14 t x) 4 t = 4 := rd_us
              have I2 : rd_Inv n 8 (D + 1) (rd_sw (rd_sw (rd_sw (rd_sw A  4 t 4)  14 t x)  16 t (nI (T + lim)))  17 t (A 1 (20 * b' + k))) (w.filter (fun x => x != t)) Q := rd_i_wake (x := T + lim) I1 (by omega) ⟨q, by omega, eq⟩ (Or.inr (Or.inr ⟨c4, b', p, k, ⟨hbo, by omega⟩, ebo, epl, q2, rfl⟩))
              refine ⟨n, _, _, Q, I2, ⟨Nat.le_refl _, rfl, rfl, rfl, rfl, n9' _ rfl, fun y => absurd y (nz _ rfl)⟩, fun y => absurd y (nz _ rfl), ?_, ?_⟩
              · intro post ra qa ql hx H
                refine X3 post ra qa ql hx (fun ra1 qa1 ql1 hx1 => ⟨fun _ => ⟨io, rd_x_wakeAfter (A := rd_sw (rd_sw A  4 t 4)  14 t x) (by omega) ⟨i8, i8, nm_r (e' := A 5) (by rw [ct]; exact rd_ue rfl) ?_⟩⟩, fun y => absurd g19 y⟩)
                have e2 : A 27 0 + A 11 (nI t).toNatClampNeg = nI (T + lim) := by rw [ct]; exact etl
                have H' := H _ (rd_RX_mk hx1)
                rw [← e2, ← ck] at H'
                exact H'
              · intro post ra qa wq am rz ob fr st bl hy H
                refine Y3 post ra qa wq am rz ob fr st bl hy (fun ra' gr => ⟨fun _ => ?_, fun y => absurd g19 y⟩)
                rw [etl]
                have hy := rd_YL_D hy
                exact H _ (rd_RY_mk (A := rd_sw (rd_sw (rd_sw (rd_sw A  4 t 4)  14 t x)  16 t (nI (T + lim)))  17 t (A 1 (20 * b' + k))) ⟨gr, hy.y2, hy.y3, rd_y4_cd hy.y4 (Or.inr ⟨k7, k8, k9⟩), hy.y5, hy.y6, hy.y7, rd_y8_cd hy.y8 (by decide) k9 k8, rd_y9_u hy.y9 rfl, hy.y10⟩)
          · refine ⟨n, _, _, Q, I1, ⟨Nat.le_refl _, rfl, rfl, rfl, rfl, n9' _ rfl, fun y => absurd y (nz _ rfl)⟩, fun y => absurd y (nz _ rfl), ?_, ?_⟩
            · intro post ra qa ql hx H
              exact X3 post ra qa ql hx (fun ra1 qa1 ql1 hx1 => ⟨fun y => absurd y g19, fun _ => H _ (rd_RX_mk hx1)⟩)
            · intro post ra qa wq am rz ob fr st bl hy H
              refine Y3 post ra qa wq am rz ob fr st bl hy (fun ra' gr => ⟨fun y => absurd y g19, fun _ => ?_⟩)
              have hy := rd_YL_D hy
              exact H _ (rd_RY_mk (A := rd_sw (rd_sw A  4 t 4)  14 t x) ⟨gr, hy.y2, hy.y3, rd_y4_cd hy.y4 (Or.inr ⟨k7, k8, k9⟩), hy.y5, hy.y6, hy.y7, rd_y8_cd hy.y8 (by decide) k9 k8, rd_y9_u hy.y9 rfl, hy.y10⟩)
  · refine Or.inr (rd_mkO2 C 13 (by omega) (by omega) ?_ ?_)
    · intro post ra qa ql H
      refine br_f (by decide) <| br_f (by decide) <| br_f (by decide) <| br_f (by decide) <| br_f (by decide) <| br_f (by decide) <| br_f (by decide) <| br_f (by decide) <| br_f (by decide) <| br_f (by decide) <| br_f (by decide) <| br_f (by decide) <| br_f (by decide) <| br_f (by decide) <| br_f (by decide) <| br_f (by decide) <| br_f (by decide) <| br_t rfl <| ?_
      unfold wpX_doSelect
      exact ⟨i8, br_f (by rw [ct, ed]; exact nI_nlt (b := 8) (by omega) (by omega)) H⟩
    · intro post ra qa wq am rz ob fr st bl H
      exact rd_y_stf (by omega) epl (by rw [ed]; congr 1; omega) (by decide) (by decide) (by decide) (by decide) (Or.inr (Or.inr (Or.inl rfl))) H
end
