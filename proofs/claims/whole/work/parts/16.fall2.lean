/-! a frame of a falling task goes -/
theorem rd_kp_mb {P : Nat → Prop} {A : rd_St} {w : List Nat} {f : Nat → Int32} : rd_kp P A (rd_sa A  10 f) w w := fun _ _ => ⟨rfl, rfl, rfl, rfl, id⟩
section
variable {ex n D : Nat} {how : Int32} {A : rd_St} {w : List Nat} {Q : Nat → List Nat} {T : List Nat} {s d : Nat}
/-- what the component asks before it takes the frame -/
theorem rd_fsx (I : rd_Inv n 8 D A w Q) (hS : rd_stk n A (T ++ [s])) (hd : A 18 s = nI (d + 1)) (h8 : d < 8) (post : SX → Prop) (f i : Nat) (ra qa ql : Nat → Int32) (hi : i < 1000) (P : wpX_takeFrame (fun r u => match u with | (f_rowLength_1, f_noteCount_1, f_tasks_1, f_time_1, f_done_1, f_turns_1, f_doneInTurn_1, f_inTurn_1, a_ops_1, a_firsts_1, a_seconds_1, a_lengths_1, a_condition_1, a_place_1, a_xs_1, a_ended_1, a_bodyOf_1, a_master_1, a_masterBlock_1, a_limits_1, a_pending_1, a_doomed_1, a_terminable_1, a_calledQueue_1, a_wakeTime_1, a_wakePlace_1, a_depth_1, a_frameKind_1, a_frameValue_1, a_queue_1, a_queueLength_1, a_row_1, a_noteTask_1, a_noteValue_1, a_fallen_1, a_chosen_1) => ((r = (-1) → (∀ y, y = nI i + 1 → wX_bringDown_17 post how f (nI (T.length + 1)) y f_rowLength_1 f_noteCount_1 f_tasks_1 f_time_1 f_done_1 f_turns_1 f_doneInTurn_1 f_inTurn_1 a_ops_1 a_firsts_1 a_seconds_1 a_lengths_1 a_condition_1 a_place_1 a_xs_1 a_ended_1 a_bodyOf_1 a_master_1 a_masterBlock_1 a_limits_1 a_pending_1 a_doomed_1 a_terminable_1 a_calledQueue_1 a_wakeTime_1 a_wakePlace_1 a_depth_1 a_frameKind_1 a_frameValue_1 a_queue_1 a_queueLength_1 a_row_1 a_noteTask_1 a_noteValue_1 a_fallen_1 a_chosen_1)) ∧ (¬ r = (-1) → (vp_in r 8 ∧ (((a_doomed_1 r.toNatClampNeg) = 0 → (vp_in r 8 ∧ ∀ p, p = upd a_pending_1 r.toNatClampNeg 11 → (wpX_makeReady (fun u => match u with | (f_rowLength_2, f_noteCount_2, f_tasks_2, f_time_2, f_done_2, f_turns_2, f_doneInTurn_2, f_inTurn_2, a_ops_2, a_firsts_2, a_seconds_2, a_lengths_2, a_condition_2, a_place_2, a_xs_2, a_ended_2, a_bodyOf_2, a_master_2, a_masterBlock_2, a_limits_2, a_pending_2, a_doomed_2, a_terminable_2, a_calledQueue_2, a_wakeTime_2, a_wakePlace_2, a_depth_2, a_frameKind_2, a_frameValue_2, a_queue_2, a_queueLength_2, a_row_2, a_noteTask_2, a_noteValue_2, a_fallen_2, a_chosen_2) => (∀ y, y = nI i + 1 → wX_bringDown_17 post how f (nI (T.length + 1)) y f_rowLength_2 f_noteCount_2 f_tasks_2 f_time_2 f_done_2 f_turns_2 f_doneInTurn_2 f_inTurn_2 a_ops_2 a_firsts_2 a_seconds_2 a_lengths_2 a_condition_2 a_place_2 a_xs_2 a_ended_2 a_bodyOf_2 a_master_2 a_masterBlock_2 a_limits_2 a_pending_2 a_doomed_2 a_terminable_2 a_calledQueue_2 a_wakeTime_2 a_wakePlace_2 a_depth_2 a_frameKind_2 a_frameValue_2 a_queue_2 a_queueLength_2 a_row_2 a_noteTask_2 a_noteValue_2 a_fallen_2 a_chosen_2)) (f_rowLength_1, f_noteCount_1, f_tasks_1, f_time_1, f_done_1, f_turns_1, f_doneInTurn_1, f_inTurn_1, a_ops_1, a_firsts_1, a_seconds_1, a_lengths_1, a_condition_1, a_place_1, a_xs_1, a_ended_1, a_bodyOf_1, a_master_1, a_masterBlock_1, a_limits_1, p, a_doomed_1, a_terminable_1, a_calledQueue_1, a_wakeTime_1, a_wakePlace_1, a_depth_1, a_frameKind_1, a_frameValue_1, a_queue_1, a_queueLength_1, a_row_1, a_noteTask_1, a_noteValue_1, a_fallen_1, a_chosen_1) r))) ∧ (¬ (a_doomed_1 r.toNatClampNeg) = 0 → (wpX_withdraw (fun u => match u with | (f_rowLength_2, f_noteCount_2, f_tasks_2, f_time_2, f_done_2, f_turns_2, f_doneInTurn_2, f_inTurn_2, a_ops_2, a_firsts_2, a_seconds_2, a_lengths_2, a_condition_2, a_place_2, a_xs_2, a_ended_2, a_bodyOf_2, a_master_2, a_masterBlock_2, a_limits_2, a_pending_2, a_doomed_2, a_terminable_2, a_calledQueue_2, a_wakeTime_2, a_wakePlace_2, a_depth_2, a_frameKind_2, a_frameValue_2, a_queue_2, a_queueLength_2, a_row_2, a_noteTask_2, a_noteValue_2, a_fallen_2, a_chosen_2) => (vp_in (nI (T.length + 1)) 8 ∧ ∀ g, g = upd a_fallen_2 (nI (T.length + 1)).toNatClampNeg r → (∀ z, z = nI (T.length + 1) + 1 → (∀ y, y = nI i + 1 → (wX_bringDown_17 post how f z y f_rowLength_2 f_noteCount_2 f_tasks_2 f_time_2 f_done_2 f_turns_2 f_doneInTurn_2 f_inTurn_2 a_ops_2 a_firsts_2 a_seconds_2 a_lengths_2 a_condition_2 a_place_2 a_xs_2 a_ended_2 a_bodyOf_2 a_master_2 a_masterBlock_2 a_limits_2 a_pending_2 a_doomed_2 a_terminable_2 a_calledQueue_2 a_wakeTime_2 a_wakePlace_2 a_depth_2 a_frameKind_2 a_frameValue_2 a_queue_2 a_queueLength_2 a_row_2 a_noteTask_2 a_noteValue_2 g a_chosen_2))))) (f_rowLength_1, f_noteCount_1, f_tasks_1, f_time_1, f_done_1, f_turns_1, f_doneInTurn_1, f_inTurn_1, a_ops_1, a_firsts_1, a_seconds_1, a_lengths_1, a_condition_1, a_place_1, a_xs_1, a_ended_1, a_bodyOf_1, a_master_1, a_masterBlock_1, a_limits_1, a_pending_1, a_doomed_1, a_terminable_1, a_calledQueue_1, a_wakeTime_1, a_wakePlace_1, a_depth_1, a_frameKind_1, a_frameValue_1, a_queue_1, a_queueLength_1, a_row_1, a_noteTask_1, a_noteValue_1, a_fallen_1, a_chosen_1) r))))))) (rd_tX A (nI w.length) ra qa ql) (nI s)) : wX_bringDown_17 post how (f + 1) (nI (T ++ [s]).length) (nI i) (nI w.length) (A 25 0) (A 26 0) (A 27 0) (A 28 0) (A 29 0) (A 30 0) (A 31 0) (A 0) (A 1) (A 2) (A 3) (A 4) (A 5) (A 6) (A 7) (A 8) (A 9) (A 10) (A 11) (A 12) (A 13) (A 14) (A 15) (A 16) (A 17) (A 18) (A 19) (A 20) qa ql ra (A 21) (A 22) (A 32) (A 23) := by
  have hn := I.vN.2
  obtain ⟨nd, hm, hfa, hdy⟩ := hS
  obtain ⟨hs, h9⟩ := (hm s).mp (by simp)
  have lT : (T ++ [s]).length = T.length + 1 := by simp
  have l8 : T.length + 1 ≤ 8 := by
    have := rd_pig n _ nd (fun x hx => ((hm x).mp hx).1)
    omega
  have cs : (nI s).toNatClampNeg = s := nI_clamp (by omega)
  have i8 : vp_in (nI s) 8 := vp_in_nI (by omega) (by omega)
  rw [lT]
  exact br_f (nI_ge (b := 1000) (by omega) (by omega)) (br_f (nI_nle (by omega) (by omega)) ⟨by rw [nI_pred]; exact vp_in_nI (by omega) (by omega), nm_r (e' := nI s) (by rw [nI_pred, nI_clamp (by omega)]; exact rd_LV_last hfa) ⟨i8, br_f (by rw [cs, hd]; exact nI_ne0 (by omega) (by omega)) P⟩⟩)
/-- what the reference asks before it looks at the frame -/
theorem rd_fsy (I : rd_Inv n 8 D A w Q) (hS : rd_stk n A (T ++ [s])) (hd : A 18 s = nI (d + 1)) (h8 : d < 8) (post : SY → Prop) (f : Nat) (ra qa wq am rz ob fr st : Nat → Int32) (bl : Int32) (P1 : A 19 (8 * s + d) = 1 → (∀ c, c = fr (8 * s + d) → (vp_in c 8 ∧ (((A 13 c.toNatClampNeg) = 0 → (vp_in c 8 ∧ ∀ r, r = upd rz c.toNatClampNeg 11 → (wpY_wake (fun u => match u with | (f_tasks_1, f_blocks_1, f_readies_1, f_time_1, f_done_1, f_turns_1, f_notes_1, a_length_1, a_ops_1, a_as_1, a_bs_1, a_states_1, a_places_1, a_xs_1, a_limits_1, a_bodies_1, a_ends_1, a_raised_1, a_until_1, a_high_1, a_kinds_1, a_frames_1, a_on_1, a_onBlock_1, a_doomed_1, a_queues_1, a_waiting_1, a_row_1, a_dying_1, a_among_1, a_noteTask_1, a_noteInt_1) => (wY_kill_20 post how f (nI (T.length + 1)) f_tasks_1 f_blocks_1 f_readies_1 f_time_1 f_done_1 f_turns_1 f_notes_1 a_length_1 a_ops_1 a_as_1 a_bs_1 a_states_1 a_places_1 a_xs_1 a_limits_1 a_bodies_1 a_ends_1 a_raised_1 a_until_1 a_high_1 a_kinds_1 a_frames_1 a_on_1 a_onBlock_1 a_doomed_1 a_queues_1 a_waiting_1 a_row_1 a_dying_1 a_among_1 a_noteTask_1 a_noteInt_1)) (rd_tY (rd_sw A  18 s (nI d)) (nI w.length) ra qa wq am r ob fr st bl) c))) ∧ (¬ (A 13 c.toNatClampNeg) = 0 → (wpY_begin (fun u => match u with | (f_tasks_1, f_blocks_1, f_readies_1, f_time_1, f_done_1, f_turns_1, f_notes_1, a_length_1, a_ops_1, a_as_1, a_bs_1, a_states_1, a_places_1, a_xs_1, a_limits_1, a_bodies_1, a_ends_1, a_raised_1, a_until_1, a_high_1, a_kinds_1, a_frames_1, a_on_1, a_onBlock_1, a_doomed_1, a_queues_1, a_waiting_1, a_row_1, a_dying_1, a_among_1, a_noteTask_1, a_noteInt_1) => (∀ z, z = nI (T.length + 1) + 1 → (vp_in (nI (T.length + 1)) 8 ∧ ∀ g, g = upd a_dying_1 (nI (T.length + 1)).toNatClampNeg c → (wY_kill_20 post how f z f_tasks_1 f_blocks_1 f_readies_1 f_time_1 f_done_1 f_turns_1 f_notes_1 a_length_1 a_ops_1 a_as_1 a_bs_1 a_states_1 a_places_1 a_xs_1 a_limits_1 a_bodies_1 a_ends_1 a_raised_1 a_until_1 a_high_1 a_kinds_1 a_frames_1 a_on_1 a_onBlock_1 a_doomed_1 a_queues_1 a_waiting_1 a_row_1 g a_among_1 a_noteTask_1 a_noteInt_1)))) (rd_tY (rd_sw A  18 s (nI d)) (nI w.length) ra qa wq am rz ob fr st bl) c)))))) (P0 : A 19 (8 * s + d) ≠ 1 → wY_kill_20 post how f (nI (T.length + 1)) ((rd_sw A  18 s (nI d)) 26 0) bl (nI w.length) ((rd_sw A  18 s (nI d)) 27 0) ((rd_sw A  18 s (nI d)) 28 0) ((rd_sw A  18 s (nI d)) 29 0) ((rd_sw A  18 s (nI d)) 25 0) ((rd_sw A  18 s (nI d)) 3) ((rd_sw A  18 s (nI d)) 0) ((rd_sw A  18 s (nI d)) 1) ((rd_sw A  18 s (nI d)) 2) st ((rd_sw A  18 s (nI d)) 5) ((rd_sw A  18 s (nI d)) 6) ((rd_sw A  18 s (nI d)) 11) ((rd_sw A  18 s (nI d)) 8) ((rd_sw A  18 s (nI d)) 7) rz ((rd_sw A  18 s (nI d)) 16) ((rd_sw A  18 s (nI d)) 18) ((rd_sw A  18 s (nI d)) 19) fr ((rd_sw A  18 s (nI d)) 9) ob ((rd_sw A  18 s (nI d)) 13) qa wq ra ((rd_sw A  18 s (nI d)) 33) am ((rd_sw A  18 s (nI d)) 21) ((rd_sw A  18 s (nI d)) 22)) : wY_kill_20 post how (f + 1) (nI (T ++ [s]).length) (A 26 0) bl (nI w.length) (A 27 0) (A 28 0) (A 29 0) (A 25 0) (A 3) (A 0) (A 1) (A 2) st (A 5) (A 6) (A 11) (A 8) (A 7) rz (A 16) (A 18) (A 19) fr (A 9) ob (A 13) qa wq ra (A 33) am (A 21) (A 22) := by
  have hn := I.vN.2
  obtain ⟨nd, hm, hfa, hdy⟩ := hS
  obtain ⟨hs, h9⟩ := (hm s).mp (by simp)
  have lT : (T ++ [s]).length = T.length + 1 := by simp
  have l8 : T.length + 1 ≤ 8 := by
    have := rd_pig n _ nd (fun x hx => ((hm x).mp hx).1)
    omega
  have cs : (nI s).toNatClampNeg = s := nI_clamp (by omega)
  have i8 : vp_in (nI s) 8 := vp_in_nI (by omega) (by omega)
  have i64 : vp_in (nI (8 * s + d)) 64 := vp_in_nI (by omega) (by omega)
  have it : 8 * nI s + upd (A 18) s (nI d) (nI s).toNatClampNeg = nI (8 * s + d) := by
    rw [cs, rd_us]; exact rd_ix' s d 8 8 rfl
  have cd : (nI (8 * s + d)).toNatClampNeg = 8 * s + d := nI_clamp (by omega)
  rw [lT]
  refine br_f (nI_nle (by omega) (by omega)) ⟨by rw [nI_pred]; exact vp_in_nI (by omega) (by omega), nm_r (e' := nI s) (by rw [nI_pred, nI_clamp (by omega)]; exact rd_LV_last hdy) ⟨i8, br_f (by rw [cs, hd]; exact nI_ne0 (by omega) (by omega)) ⟨i8, i8, nm_r (e' := upd (A 18) s (nI d)) (by rw [cs, hd, nI_pred]) ⟨i8, ?_⟩⟩⟩⟩
  rw [it, cd]
  refine ⟨i64, br_c (fun z => ⟨i8, i64, P1 z⟩) (fun z => P0 z)⟩
/-- a handler goes, or a block -/
theorem rd_fs2 (I : rd_Inv n 8 D A w Q) (hS : rd_stk n A (T ++ [s])) (hd : A 18 s = nI (d + 1)) (h8 : d < 8) (h1 : A 19 (8 * s + d) ≠ 1) : ∃ B x R S2, rd_Inv n 8 D B x R ∧ rd_stk n B S2 ∧ rd_FT n A B w x ∧ rd_ph n B < rd_ph n A ∧ (∀ r, r ∈ T ++ [s] → r ∈ S2 ∨ (B 4 r = 7 ∨ B 4 r = 8)) ∧ rd_Xs how A B w x Q R (T ++ [s]) S2 ∧ rd_Ys ex n D how A B w x Q R (T ++ [s]) S2 := by
  have hn := I.vN.2
  obtain ⟨hs, h9⟩ := (hS.2.1 s).mp (by simp)
  have n6 : A 4 s ≠ 6 := by rw [h9]; decide
  have n0 : ¬ (fun r => A 4 r = 0) s := by show ¬ A 4 s = 0; rw [h9]; decide
  have lT : (T ++ [s]).length = T.length + 1 := by simp
  by_cases h0 : A 19 (8 * s + d) = 0
  · have I1 := rd_i_re (d := d) I hs h8 h9
    have I2 : rd_Inv n 8 D (rd_sw (rd_sa A  10 (rd_re n (A 9) (A 10) s d))  18 s (nI d)) w Q := rd_i_pop I1 hs hd h8 n6 (Or.inr (by
      rintro ⟨u, hu, e1, e2, e3⟩
      have e1 : A 9 u = nI s := e1
      have e2 : rd_re n (A 9) (A 10) s d u = nI d := e2
      unfold rd_re at e2
      by_cases z : u < n ∧ A 9 u = nI s ∧ A 10 u = nI d
      · rw [if_pos z] at e2; exact absurd e2.symm (rd_nm (by omega))
      · rw [if_neg z] at e2; exact z ⟨hu, e1, e2⟩))
    have wl1 : rd_wl n A (rd_sw (rd_sa A  10 (rd_re n (A 9) (A 10) s d))  18 s (nI d)) := rd_wl_pop (A := rd_sa A  10 (rd_re n (A 9) (A 10) s d)) hd h8
    refine ⟨_, w, Q, T ++ [s], I2, hS, ⟨rd_stw_of (rd_sta_tr (rd_sta_sa (by simp)) (rd_sta_sw (by simp))), wl1, rd_kp_tr rd_kp_mb (rd_kp_dp n0) (fun _ z => z), fun _ z => z⟩, rd_ph_lt wl1 hs (rd_w_pop (A := rd_sa A  10 (rd_re n (A 9) (A 10) s d)) hd h8), fun r hr => Or.inl hr, ?_, ?_⟩
    · intro post f i ra qa ql hi hx H
      refine rd_fsx I hS hd h8 post f i ra qa ql hi (rd_x_take (rd_RX_mk hx) I.vN (by omega) hd h8 (fun z => absurd z h1) (fun _ => ?_) (fun z => absurd h0 z))
      rintro u' ⟨ra1, qa1, ql1, rfl, hx1⟩
      refine br_t rfl (nm_r (nI_1 i) ?_)
      have := H ra1 qa1 ql1 hx1
      rw [lT] at this
      exact this
    · intro post f ra qa wq am rz ob fr st bl hy H
      refine rd_fsy I hS hd h8 post f ra qa wq am rz ob fr st bl (fun z => absurd z h1) (fun _ => ?_)
      have hy1 : rd_YL ex n D (rd_sa A  10 (rd_re n (A 9) (A 10) s d)) w Q ra qa wq am rz ob fr st bl := ⟨hy.r, hy.y2, hy.y3, hy.y4, hy.y5, hy.y6, hy.y7, rd_y8_re hn hs hy.y8 h9, hy.y9, hy.y10⟩
      have := H ra qa wq am rz ob fr st bl (rd_YL_pop hy1 hd h8)
      rw [lT] at this
      exact this
  · have I2 := rd_i_pop I hs hd h8 n6 (Or.inl h0)
    have wl1 := rd_wl_pop (n := n) hd h8
    refine ⟨_, w, Q, T ++ [s], I2, hS, ⟨rd_stw_of (rd_sta_sw (by simp)), wl1, rd_kp_dp n0, fun _ z => z⟩, rd_ph_lt wl1 hs (rd_w_pop hd h8), fun r hr => Or.inl hr, ?_, ?_⟩
    · intro post f i ra qa ql hi hx H
      refine rd_fsx I hS hd h8 post f i ra qa ql hi (rd_x_take (rd_RX_mk hx) I.vN (by omega) hd h8 (fun z => absurd z h1) (fun z => absurd z h0) (fun _ _ => ?_))
      rintro u' ⟨ra1, qa1, ql1, rfl, hx1⟩
      refine br_t rfl (nm_r (nI_1 i) ?_)
      have := H ra1 qa1 ql1 hx1
      rw [lT] at this
      exact this
    · intro post f ra qa wq am rz ob fr st bl hy H
      refine rd_fsy I hS hd h8 post f ra qa wq am rz ob fr st bl (fun z => absurd z h1) (fun _ => ?_)
      have := H ra qa wq am rz ob fr st bl (rd_YL_pop hy hd h8)
      rw [lT] at this
      exact this
/-- a meeting goes -/
theorem rd_fs3 (I : rd_Inv n 8 D A w Q) (hS : rd_stk n A (T ++ [s])) (hd : A 18 s = nI (d + 1)) (h8 : d < 8) (h1 : A 19 (8 * s + d) = 1) (hex : ex < n → A 4 ex = 0) : ∃ B x R S2, rd_Inv n 8 D B x R ∧ rd_stk n B S2 ∧ rd_FT n A B w x ∧ rd_ph n B < rd_ph n A ∧ (∀ r, r ∈ T ++ [s] → r ∈ S2 ∨ (B 4 r = 7 ∨ B 4 r = 8)) ∧ rd_Xs how A B w x Q R (T ++ [s]) S2 ∧ rd_Ys ex n D how A B w x Q R (T ++ [s]) S2 := by
  have hn := I.vN.2
  obtain ⟨hs, h9⟩ := (hS.2.1 s).mp (by simp)
  have n6 : A 4 s ≠ 6 := by rw [h9]; decide
  have n0 : ¬ (fun r => A 4 r = 0) s := by show ¬ A 4 s = 0; rw [h9]; decide
  have lT : (T ++ [s]).length = T.length + 1 := by simp
  have hds : d < (A 18 s).toNatClampNeg := by rw [hd, nI_clamp (by omega)]; omega
  have hF : ∃ c, c < n ∧ A 20 (8 * s + d) = nI c ∧ A 4 c = 2 := by
    rcases I.vF s hs d hds with z | ⟨_, z⟩ | ⟨z, _⟩
    · rw [z] at h1; exact absurd h1 (by decide)
    · exact z
    · rw [z] at h1; exact absurd h1 (by decide)
  obtain ⟨c, hc, ev, c2⟩ := hF
  have cc : (nI c).toNatClampNeg = c := nI_clamp (by omega)
  have ic : vp_in (nI c) 8 := vp_in_nI (by omega) (by omega)
  have c0 : ¬ (fun r => A 4 r = 0) c := by show ¬ A 4 c = 0; rw [c2]; decide
  have k0 : A 4 c ≠ 0 := by rw [c2]; decide
  have k1 : A 4 c ≠ 1 := by rw [c2]; decide
  have k7 : A 4 c ≠ 7 := by rw [c2]; decide
  have k8 : A 4 c ≠ 8 := by rw [c2]; decide
  have k9 : A 4 c ≠ 9 := by rw [c2]; decide
  have cex : c ≠ ex := fun e => by
    rw [← e] at hex
    exact k0 (hex hc)
  have I1 := rd_i_pop I hs hd h8 n6 (Or.inl (by rw [h1]; decide))
  have nf := rd_nf_pop hs hd h8 I.vU h1 ev
  have wl1 := rd_wl_pop (n := n) hd h8
  have hfr : ∀ {ra qa wq am rz ob fr st : Nat → Int32} {bl : Int32}, rd_YL ex n D A w Q ra qa wq am rz ob fr st bl → fr (8 * s + d) = nI c := fun hy => (hy.y5 s hs d hds (by rw [h1]; decide)).trans ev
  by_cases hdm : A 13 c = 0
  · -- not doomed: ready, with its exception
    have I2 : rd_Inv n 8 D (rd_ready (rd_sw (rd_sw A  18 s (nI d))  12 c 11) c) (w ++ [c]) Q := rd_i_rp (x := 11) I1 hc k0 k8 (rd_vQ_no I.vQ k1) nf (by omega)
    have wl2 : rd_wl n (rd_sw A  18 s (nI d)) (rd_ready (rd_sw (rd_sw A  18 s (nI d))  12 c 11) c) := rd_wl_rp (A := rd_sw A  18 s (nI d)) (Or.inr (Or.inl c2))
    have wl := rd_wl_tr wl1 wl2
    have wl8 : w.length < 8 := Nat.lt_of_lt_of_le (rd_wlen' I hc k0) hn
    have ecd : ∀ r, r ≠ c → (rd_ready (rd_sw (rd_sw A  18 s (nI d))  12 c 11) c) 4 r = A 4 r := fun r hr => rd_un hr
    have ecc : (rd_ready (rd_sw (rd_sw A  18 s (nI d))  12 c 11) c) 4 c = 0 := rd_us
    refine ⟨_, w ++ [c], Q, T ++ [s], I2, ⟨hS.1, fun r => ?_, hS.2.2⟩, ⟨rd_stw_of (rd_sta_tr (rd_sta_sw (by simp)) (rd_sta_tr (rd_sta_sw (by simp)) rd_sta_ready)), wl, rd_kp_tr (rd_kp_dp n0) (rd_kp_tr (rd_kp_pe c0) (rd_kp_ready c0) (fun _ z => z)) (fun _ z => z), fun r z => ?_⟩, rd_ph_lt wl hs (Nat.lt_of_le_of_lt (wl2 s hs) (rd_w_pop hd h8)), fun r hr => Or.inl hr, ?_, ?_⟩
    · rw [hS.2.1 r]
      by_cases e : r = c
      · rw [e, ecc, c2]
        constructor
        · rintro ⟨_, z⟩; exact absurd z (by decide)
        · rintro ⟨_, z⟩; exact absurd z (by decide)
      · rw [ecd r e]
    · have e : r ≠ c := by
        intro e
        rw [e, c2] at z
        exact absurd z (by decide)
      rw [ecd r e]; exact z
    · intro post f i ra qa ql hi hx H
      refine rd_fsx I hS hd h8 post f i ra qa ql hi (rd_x_take (rd_RX_mk hx) I.vN (by omega) hd h8 (fun _ => ?_) (fun z => by rw [h1] at z; exact absurd z (by decide)) (fun _ z => absurd h1 z))
      rintro u' ⟨ra1, qa1, ql1, rfl, hx1⟩
      rw [ev]
      refine br_f (rd_nm (by omega)) ⟨ic, br_t (by rw [cc]; exact hdm) ⟨ic, nm_r (e' := upd (A 12) c 11) (by rw [cc]; rfl) ?_⟩⟩
      refine rd_x_makeReady (rd_RX_mk (A := rd_sw (rd_sw A  18 s (nI d))  12 c 11) hx1) (by omega) wl8 ?_
      rintro u' ⟨ra2, qa2, ql2, rfl, hx2⟩
      refine nm_r (nI_1 i) ?_
      have := H ra2 qa2 ql2 hx2
      rw [lT] at this
      exact this
    · intro post f ra qa wq am rz ob fr st bl hy H
      refine rd_fsy I hS hd h8 post f ra qa wq am rz ob fr st bl (fun _ => ?_) (fun z => absurd h1 z)
      refine nm_r (hfr hy) ⟨ic, br_t (by rw [cc]; exact hdm) ⟨ic, nm_r (e' := upd rz c 11) (by rw [cc]) ?_⟩⟩
      have hy1 := rd_YL_pop hy hd h8
      refine rd_y_wake (A := rd_sw (rd_sw A  18 s (nI d))  12 c 11) (rd_RY_mk (ex := ex) (D := D) (Q := Q) ⟨hy1.r, hy1.y2, hy1.y3, rd_y4_pe hy1.y4 cex, hy1.y5, hy1.y6, hy1.y7, hy1.y8, hy1.y9, hy1.y10⟩) hn hc wl8 k7 k8 k9 ?_
      rintro v' ⟨ra2, qa2, wq2, am2, rz2, ob2, fr2, st2, bl2, rfl, hy2⟩
      have := H ra2 qa2 wq2 am2 rz2 ob2 fr2 st2 bl2 hy2
      rw [lT] at this
      exact this
  · -- doomed: it falls too
    have I2 := rd_i_fall I1 (t := c) k8 nf
    have wl2 : rd_wl n (rd_sw A  18 s (nI d)) (rd_fall (rd_sw A  18 s (nI d)) c) := rd_wl_fall (A := rd_sw A  18 s (nI d)) k7 k8
    have wl := rd_wl_tr wl1 wl2
    have ecd : ∀ r, r ≠ c → (rd_fall (rd_sw A  18 s (nI d)) c) 4 r = A 4 r := fun r hr => rd_un hr
    have ecc : (rd_fall (rd_sw A  18 s (nI d)) c) 4 c = 9 := rd_us
    have cS : c ∉ T ++ [s] := fun z => k9 ((hS.2.1 c).mp z).2
    have nd : ((T ++ [s]) ++ [c]).Nodup := by
      rw [List.nodup_append]
      refine ⟨hS.1, by simp, ?_⟩
      intro a ha b hb
      simp at hb
      subst hb
      intro y
      subst y
      exact cS ha
    have l8 : T.length + 1 < 8 := by
      have := rd_pig n _ nd (fun x hx => by
        rw [List.mem_append] at hx
        rcases hx with z | z
        · exact ((hS.2.1 x).mp z).1
        · simp at z; omega)
      simp at this
      omega
    have cT : (nI (T.length + 1)).toNatClampNeg = T.length + 1 := nI_clamp (by omega)
    have I3 : rd_Inv n 8 D (rd_sw (rd_sw (rd_fall (rd_sw A  18 s (nI d)) c)  32 (T.length + 1) (nI c))  33 (T.length + 1) (nI c)) (w.filter (fun x => x != c)) (rd_fq Q c) := I2
    have wl3 : rd_wl n A (rd_sw (rd_sw (rd_fall (rd_sw A  18 s (nI d)) c)  32 (T.length + 1) (nI c))  33 (T.length + 1) (nI c)) := wl
    have kp3 : rd_kp (fun r => A 4 r = 0) A (rd_sw (rd_sw (rd_fall (rd_sw A  18 s (nI d)) c)  32 (T.length + 1) (nI c))  33 (T.length + 1) (nI c)) w (w.filter (fun x => x != c)) := rd_kp_tr (rd_kp_dp n0) (rd_kp_fall (A := rd_sw A  18 s (nI d)) c0) (fun _ z => z)
    have lf : rd_LV (upd (A 32) (T.length + 1) (nI c)) 0 ((T ++ [s]) ++ [c]) := by
      have := rd_LV_put (x := c) hS.2.2.1
      rw [Nat.zero_add, lT] at this
      exact this
    have ld : rd_LV (upd (A 33) (T.length + 1) (nI c)) 0 ((T ++ [s]) ++ [c]) := by
      have := rd_LV_put (x := c) hS.2.2.2
      rw [Nat.zero_add, lT] at this
      exact this
    have lT2 : ((T ++ [s]) ++ [c]).length = T.length + 1 + 1 := by simp
    refine ⟨_, _, _, (T ++ [s]) ++ [c], I3, ⟨nd, fun r => ?_, lf, ld⟩, ⟨rd_stw_tr (rd_stw_of (rd_sta_tr (rd_sta_sw (by simp)) rd_sta_fall)) (rd_stw_tr (rd_stw_sw (Or.inl rfl)) (rd_stw_sw (Or.inr rfl))), wl3, kp3, fun r z => ?_⟩, rd_ph_lt wl3 hs (Nat.lt_of_le_of_lt (wl2 s hs) (rd_w_pop hd h8)), fun r hr => Or.inl (by rw [List.mem_append]; exact Or.inl hr), ?_, ?_⟩
    · show r ∈ (T ++ [s]) ++ [c] ↔ (r < n ∧ (rd_fall (rd_sw A  18 s (nI d)) c) 4 r = 9)
      rw [List.mem_append, hS.2.1 r]
      by_cases e : r = c
      · rw [e, ecc]; simp [hc]
      · rw [ecd r e]; simp [e]
    · have e : r ≠ c := by
        intro e
        rw [e, c2] at z
        exact absurd z (by decide)
      show (rd_fall (rd_sw A  18 s (nI d)) c) 4 r = 7 ∨ (rd_fall (rd_sw A  18 s (nI d)) c) 4 r = 8
      rw [ecd r e]; exact z
    · intro post f i ra qa ql hi hx H
      refine rd_fsx I hS hd h8 post f i ra qa ql hi (rd_x_take (rd_RX_mk hx) I.vN (by omega) hd h8 (fun _ => ?_) (fun z => by rw [h1] at z; exact absurd z (by decide)) (fun _ z => absurd h1 z))
      rintro u' ⟨ra1, qa1, ql1, rfl, hx1⟩
      rw [ev]
      refine br_f (rd_nm (by omega)) ⟨ic, br_f (by rw [cc]; exact hdm) ?_⟩
      refine rd_x_withdraw I1 (rd_RX_mk (A := rd_sw A  18 s (nI d)) hx1) hc ?_
      rintro u' ⟨ra2, qa2, ql2, rfl, hx2⟩
      refine ⟨vp_in_nI l8 (by omega), nm_r (e' := upd (A 32) (T.length + 1) (nI c)) (by rw [cT]; rfl) (nm_r (nI_1 _) (nm_r (nI_1 i) ?_))⟩
      have := H ra2 qa2 ql2 hx2
      rw [lT2] at this
      exact this
    · intro post f ra qa wq am rz ob fr st bl hy H
      refine rd_fsy I hS hd h8 post f ra qa wq am rz ob fr st bl (fun _ => ?_) (fun z => absurd h1 z)
      refine nm_r (hfr hy) ⟨ic, br_f (by rw [cc]; exact hdm) ?_⟩
      refine rd_y_begin I1 (rd_RY_mk (ex := ex) (rd_YL_pop hy hd h8)) hc k8 ?_
      rintro v' ⟨ra2, qa2, wq2, am2, rz2, ob2, fr2, st2, bl2, rfl, hy2⟩
      refine nm_r (nI_1 _) ⟨vp_in_nI l8 (by omega), nm_r (e' := upd (A 33) (T.length + 1) (nI c)) (by rw [cT]; rfl) ?_⟩
      have := H ra2 qa2 wq2 am2 rz2 ob2 fr2 st2 bl2 hy2
      rw [lT2] at this
      exact this
end
