/-! behind a pass -/
def rd_IM (most mu : Nat) : Prop := ∀ (n D : Nat) (A : rd_St) (w : List Nat) (Q : Nat → List Nat), rd_mu most n D A < mu → D ≤ most → 0 < n → rd_Inv n 8 D A w Q → (∀ s, s < n → A 4 s ≠ 9) → A 31 0 = 0 → rd_MN most n D A w Q
def rd_ID (most mu : Nat) : Prop := ∀ (n D t k : Nat) (A : rd_St) (w : List Nat) (Q : Nat → List Nat), rd_mu most n D A < mu → D ≤ most → rd_Inv n 8 D A w Q → (∀ s, s < n → A 4 s ≠ 9) → A 31 0 ≠ 0 → A 30 0 = nI k → k < 3 → t < n → A 4 t = 0 → A 12 t = 0 → w.head? = some t → rd_MD most n D t k A A w Q
def rd_AF (most n D t k : Nat) (A : rd_St) (w : List Nat) (Q : Nat → List Nat) : Prop := ∃ (r : Int32) (m E : Nat) (B : rd_St) (x : List Nat) (R : Nat → List Nat), rd_Inv m 8 E B x R ∧ (∀ s, s < m → B 4 s ≠ 9) ∧
    (∀ (post : Int32 → SX → Prop) (u : SX) (i f : Nat), i + 1 + rd_mu most n D A < 1000000 → rd_mu most n D A < f → rd_RX A w Q u → (∀ u', rd_RX B x R u' → post r u') → wpX_endTurn (fun u => match u with | (f_rowLength_1, f_noteCount_1, f_tasks_1, f_time_1, f_done_1, f_turns_1, f_doneInTurn_1, f_inTurn_1, a_ops_1, a_firsts_1, a_seconds_1, a_lengths_1, a_condition_1, a_place_1, a_xs_1, a_ended_1, a_bodyOf_1, a_master_1, a_masterBlock_1, a_limits_1, a_pending_1, a_doomed_1, a_terminable_1, a_calledQueue_1, a_wakeTime_1, a_wakePlace_1, a_depth_1, a_frameKind_1, a_frameValue_1, a_queue_1, a_queueLength_1, a_row_1, a_noteTask_1, a_noteValue_1, a_fallen_1, a_chosen_1) => (∀ y, y = nI i + 1 → wX_run_20 post (nI most) f y f_rowLength_1 f_noteCount_1 f_tasks_1 f_time_1 f_done_1 f_turns_1 f_doneInTurn_1 f_inTurn_1 a_ops_1 a_firsts_1 a_seconds_1 a_lengths_1 a_condition_1 a_place_1 a_xs_1 a_ended_1 a_bodyOf_1 a_master_1 a_masterBlock_1 a_limits_1 a_pending_1 a_doomed_1 a_terminable_1 a_calledQueue_1 a_wakeTime_1 a_wakePlace_1 a_depth_1 a_frameKind_1 a_frameValue_1 a_queue_1 a_queueLength_1 a_row_1 a_noteTask_1 a_noteValue_1 a_fallen_1 a_chosen_1)) u (nI t)) ∧
    (∀ (post : Int32 → SY → Prop) (ra qa wq am rz ob fr st : Nat → Int32) (bl : Int32) (f : Nat), rd_mu most n D A < f → rd_YL 8 n D A w Q ra qa wq am rz ob fr st bl → (∀ v', rd_RY 8 m E B x R v' → post r v') → wY_turn_32 (fun r u => match u with | (f_tasks_1, f_blocks_1, f_readies_1, f_time_1, f_done_1, f_turns_1, f_notes_1, a_length_1, a_ops_1, a_as_1, a_bs_1, a_states_1, a_places_1, a_xs_1, a_limits_1, a_bodies_1, a_ends_1, a_raised_1, a_until_1, a_high_1, a_kinds_1, a_frames_1, a_on_1, a_onBlock_1, a_doomed_1, a_queues_1, a_waiting_1, a_row_1, a_dying_1, a_among_1, a_noteTask_1, a_noteInt_1) => ((r = 0 → post 2 (f_tasks_1, f_blocks_1, f_readies_1, f_time_1, f_done_1, f_turns_1, f_notes_1, a_length_1, a_ops_1, a_as_1, a_bs_1, a_states_1, a_places_1, a_xs_1, a_limits_1, a_bodies_1, a_ends_1, a_raised_1, a_until_1, a_high_1, a_kinds_1, a_frames_1, a_on_1, a_onBlock_1, a_doomed_1, a_queues_1, a_waiting_1, a_row_1, a_dying_1, a_among_1, a_noteTask_1, a_noteInt_1)) ∧ (¬ r = 0 → wY_run_55 post (nI most) f f_tasks_1 f_blocks_1 f_readies_1 f_time_1 f_done_1 f_turns_1 f_notes_1 a_length_1 a_ops_1 a_as_1 a_bs_1 a_states_1 a_places_1 a_xs_1 a_limits_1 a_bodies_1 a_ends_1 a_raised_1 a_until_1 a_high_1 a_kinds_1 a_frames_1 a_on_1 a_onBlock_1 a_doomed_1 a_queues_1 a_waiting_1 a_row_1 a_dying_1 a_among_1 a_noteTask_1 a_noteInt_1))) (nI t) (nI most) (4 - k) (nI k) (A 26 0) bl (nI w.length) (A 27 0) (A 28 0) (A 29 0) (A 25 0) (A 3) (A 0) (A 1) (A 2) st (A 5) (A 6) (A 11) (A 8) (A 7) rz (A 16) (A 18) (A 19) fr (A 9) ob (A 13) qa wq ra (A 33) am (A 21) (A 22))
theorem rd_after {most mu n D t k : Nat} {A : rd_St} {w : List Nat} {Q : Nat → List Nat} (IM : rd_IM most mu) (ID : rd_ID most mu) (hmu : rd_mu most n D A < mu) (hD : D ≤ most) (I : rd_Inv n 8 D A w Q) (n9 : ∀ s, s < n → A 4 s ≠ 9) (hit : A 31 0 ≠ 0) (hdt : A 30 0 = nI k) (hk : k ≤ 3) (ht : t < n) (hc : A 4 t = 0 → A 12 t = 0 ∧ w.head? = some t) : rd_AF most n D t k A w Q := by
  have hn := I.vN.2
  have ct : (nI t).toNatClampNeg = t := nI_clamp (by omega)
  have i8 : vp_in (nI t) 8 := vp_in_nI (by omega) (by omega)
  by_cases c0 : A 4 t = 0
  · obtain ⟨p0, hd⟩ := hc c0
    by_cases k3 : k < 3
    · obtain ⟨r, m, E, B, x, R, J, m9, X, Y⟩ := ID n D t k A w Q hmu hD I n9 hit hdt k3 ht c0 p0 hd
      refine ⟨r, m, E, B, x, R, J, m9, ?_, ?_⟩
      · intro post u i f hi hf hu H
        refine rd_x_endTurn I hu ht hdt (by omega) (fun y => absurd c0 y) (fun _ _ => ?_) (fun _ y _ => absurd k3 (Nat.not_lt.mpr y))
        rintro u' ⟨ra1, qa1, ql1, rfl, hx1⟩
        exact nm_r (nI_1 i) (X post ra1 qa1 ql1 (i + 1) f (by omega) hf hx1 H)
      · intro post ra qa wq am rz ob fr st bl f hf hy H
        exact Y post ra qa wq am rz ob fr st bl f (by omega) hy H
    · -- it goes to the end of the row
      have k3' : k = 3 := by omega
      subst k3'
      have wk1 : A 16 t = -1 := rd_wk0 I ht ⟨by rw [c0]; decide, by rw [c0]; decide, by rw [c0]; decide⟩
      have er : rd_ready (rd_sw A  31 0 0) t = rd_sw A  31 0 0 := by
        unfold rd_ready
        rw [rd_sw_eq (A := rd_sw A  31 0 0) (k :=  4) (i := t) (x := 0) c0, rd_sw_eq (A := rd_sw A  31 0 0) (k :=  16) (i := t) (x := -1) wk1]
      have hm : t ∈ w := (I.vR.2 t).mpr ⟨ht, c0⟩
      have vR' : rd_vR n (A 4) (w.filter (fun x => x != t) ++ [t]) := by
        have h1 := rd_vR_del (t := t) (s := 9) I.vR (by decide)
        have h2 := rd_vR_add h1 ht (by rw [rd_us]; decide)
        rw [rd_uu, rd_ue c0] at h2
        exact h2
      have I1 : rd_Inv n 8 D (rd_sw A  31 0 0) (w.filter (fun x => x != t) ++ [t]) Q := ⟨I.vG, I.vN, vR', I.vQ, I.vF, I.vU, I.vM, I.vB, I.vX, I.vC, I.vE, I.vL, I.vK, I.vD, I.vW, I.vP, I.vZ, I.vA, I.rbo, I.rpl, I.rdp, I.rli, I.rdm, I.rpe, I.rcd⟩
      have hmu1 : rd_mu most n D (rd_sw A  31 0 0) < mu := hmu
      obtain ⟨r, m, E, B, x, R, J, m9, X, Y⟩ := IM n D _ _ Q hmu1 hD (by omega) I1 n9 rfl
      refine ⟨r, m, E, B, x, R, J, m9, ?_, ?_⟩
      · intro post u i f hi hf hu H
        refine rd_x_endTurn I hu ht hdt (by omega) (fun y => absurd c0 y) (fun _ y => absurd y (by rintro (q | q); omega; exact q p0)) (fun _ _ _ => ?_)
        rw [er]
        rintro u' ⟨ra1, qa1, ql1, rfl, hx1⟩
        exact nm_r (nI_1 i) (X post ra1 qa1 ql1 (i + 1) f hi hf hx1 H)
      · intro post ra qa wq am rz ob fr st bl f hf hy H
        have e0 : st t = 0 := by rw [hy.y9 t, c0]; rfl
        have wlen : (w.filter (fun x => x != t)).length < 8 := by
          have h2 := rd_wlen I1
          simp at h2
          omega
        refine br_t (nI_le (a := 3) (b := 3) (by omega) (by omega)) ⟨i8, br_t (by rw [ct]; exact e0) ?_⟩
        refine rd_y_leaveRow hy.r (by omega) (Nat.le_trans (rd_wlen I) hn) (fun x hx => Nat.lt_of_lt_of_le ((I.vR.2 x).mp hx).1 hn) (fun ra' gr => ?_)
        refine rd_y_wakeR gr (by omega) wlen (fun ra2 gr2 => ?_)
        rw [rd_sw_eq (A := A) (k :=  16) wk1, rd_ue e0]
        refine br_f (by decide) (Y post ra2 qa wq am rz ob fr st bl f hf ⟨gr2, hy.y2, hy.y3, hy.y4, hy.y5, hy.y6, hy.y7, hy.y8, hy.y9, hy.y10⟩ H)
  · have hmu1 : rd_mu most n D (rd_sw A  31 0 0) < mu := hmu
    obtain ⟨r, m, E, B, x, R, J, m9, X, Y⟩ := IM n D (rd_sw A  31 0 0) w Q hmu1 hD (by omega) I n9 rfl
    refine ⟨r, m, E, B, x, R, J, m9, ?_, ?_⟩
    · intro post u i f hi hf hu H
      refine rd_x_endTurn I hu ht hdt (by omega) (fun _ => ?_) (fun y => absurd y c0) (fun y => absurd y c0)
      rintro u' ⟨ra1, qa1, ql1, rfl, hx1⟩
      exact nm_r (nI_1 i) (X post ra1 qa1 ql1 (i + 1) f hi hf hx1 H)
    · intro post ra qa wq am rz ob fr st bl f hf hy H
      have e0 : st t ≠ 0 := by
        rw [hy.y9 t]
        exact fun y => c0 ((rd_cv_eq (by decide) (by decide)).mp y)
      have f144 : wY_turn_144 (fun r u => match u with | (f_tasks_1, f_blocks_1, f_readies_1, f_time_1, f_done_1, f_turns_1, f_notes_1, a_length_1, a_ops_1, a_as_1, a_bs_1, a_states_1, a_places_1, a_xs_1, a_limits_1, a_bodies_1, a_ends_1, a_raised_1, a_until_1, a_high_1, a_kinds_1, a_frames_1, a_on_1, a_onBlock_1, a_doomed_1, a_queues_1, a_waiting_1, a_row_1, a_dying_1, a_among_1, a_noteTask_1, a_noteInt_1) => ((r = 0 → post 2 (f_tasks_1, f_blocks_1, f_readies_1, f_time_1, f_done_1, f_turns_1, f_notes_1, a_length_1, a_ops_1, a_as_1, a_bs_1, a_states_1, a_places_1, a_xs_1, a_limits_1, a_bodies_1, a_ends_1, a_raised_1, a_until_1, a_high_1, a_kinds_1, a_frames_1, a_on_1, a_onBlock_1, a_doomed_1, a_queues_1, a_waiting_1, a_row_1, a_dying_1, a_among_1, a_noteTask_1, a_noteInt_1)) ∧ (¬ r = 0 → wY_run_55 post (nI most) f f_tasks_1 f_blocks_1 f_readies_1 f_time_1 f_done_1 f_turns_1 f_notes_1 a_length_1 a_ops_1 a_as_1 a_bs_1 a_states_1 a_places_1 a_xs_1 a_limits_1 a_bodies_1 a_ends_1 a_raised_1 a_until_1 a_high_1 a_kinds_1 a_frames_1 a_on_1 a_onBlock_1 a_doomed_1 a_queues_1 a_waiting_1 a_row_1 a_dying_1 a_among_1 a_noteTask_1 a_noteInt_1))) (nI t) (A 26 0) bl (nI w.length) (A 27 0) (A 28 0) (A 29 0) (A 25 0) (A 3) (A 0) (A 1) (A 2) st (A 5) (A 6) (A 11) (A 8) (A 7) rz (A 16) (A 18) (A 19) fr (A 9) ob (A 13) qa wq ra (A 33) am (A 21) (A 22) := ⟨i8, br_f (by rw [ct]; exact e0) (br_f (by decide) (Y post ra qa wq am rz ob fr st bl f hf hy H))⟩
      have e4 : 4 - k = (3 - k) + 1 := by omega
      rw [e4]
      exact br_c (fun _ => f144) (fun _ => ⟨i8, br_f (by rw [ct]; exact e0) f144⟩)
