/-! DONE -/
section
variable {n D t p b' d : Nat} {a b : Int32} {A : rd_St} {w : List Nat} {Q : Nat → List Nat}
theorem rd_op14 (C : rd_C n D t p b' A w Q) (hp20 : p < 20) : rd_O1 n D t p 14 a b a b A w Q ∨ rd_O2 n D t p 14 a b a b A w Q := by
  obtain ⟨I, ht, h0, hp, n9, epl, hpl, ebo, hbo, hD, hT, hN⟩ := id C
  have hn := I.vN.2
  have ct : (nI t).toNatClampNeg = t := nI_clamp (by omega)
  have i8 : vp_in (nI t) 8 := vp_in_nI (by omega) (by omega)
  obtain ⟨d, hd, ed, _⟩ := rd_dpos I ht
  by_cases z : ∃ e, d = e + 1 ∧ A 19 (8 * t + e) = 1
  · refine Or.inl ?_
    obtain ⟨e, ee, ek⟩ := z
    subst ee
    have he8 : e < 8 := by omega
    have hds : e < (A 18 t).toNatClampNeg := by rw [ed, nI_clamp (by omega)]; omega
    obtain ⟨c, hc, ev, c2⟩ : ∃ c, c < n ∧ A 20 (8 * t + e) = nI c ∧ A 4 c = 2 := by
      rcases I.vF t ht e hds with z | ⟨_, z⟩ | ⟨z, _⟩
      · rw [z] at ek; exact absurd ek (by decide)
      · exact z
      · rw [z] at ek; exact absurd ek (by decide)
    have tc : t ≠ c := fun y => by rw [← y, h0] at c2; exact absurd c2 (by decide)
    have cc : (nI c).toNatClampNeg = c := nI_clamp (by omega)
    have ic : vp_in (nI c) 8 := vp_in_nI (by omega) (by omega)
    have q0 : A 4 c ≠ 0 := by rw [c2]; decide
    have q1 : A 4 c ≠ 1 := by rw [c2]; decide
    have q7 : A 4 c ≠ 7 := by rw [c2]; decide
    have q8 : A 4 c ≠ 8 := by rw [c2]; decide
    have q9 : A 4 c ≠ 9 := by rw [c2]; decide
    have nf := rd_nf_pop ht ed he8 I.vU ek ev
    have it : nI t * 8 + upd (A 18) t (nI e) (nI t).toNatClampNeg = nI (8 * t + e) := by rw [ct, rd_us]; exact rd_ix t e 8 8 rfl
    have i64 : vp_in (nI (8 * t + e)) 64 := vp_in_nI (by omega) (by omega)
    have ce : (nI (8 * t + e)).toNatClampNeg = 8 * t + e := nI_clamp (by omega)
    have I1 := rd_i_pop I ht ed he8 (by rw [h0]; decide) (Or.inl (by rw [ek]; decide))
    have I2 : rd_Inv n 8 (D + 1) (rd_sw (rd_sw A  18 t (nI e))  6 c (A 6 t)) w Q := rd_i_xs I1
    obtain ⟨q, hq20, eq⟩ := (I.vA c hc).1 (Or.inr (Or.inl c2))
    have pc : A 12 c = 0 := I.vP c hc (Or.inr (Or.inl c2))
    -- what both sides ask ahead of the release
    have X0 : ∀ (post : SX → Prop) (ra qa ql : Nat → Int32), ((A 13 c = 0 → wpX_makeReady (fun u => match u with | (f_rowLength_1, f_noteCount_1, f_tasks_1, f_time_1, f_done_1, f_turns_1, f_doneInTurn_1, f_inTurn_1, a_ops_1, a_firsts_1, a_seconds_1, a_lengths_1, a_condition_1, a_place_1, a_xs_1, a_ended_1, a_bodyOf_1, a_master_1, a_masterBlock_1, a_limits_1, a_pending_1, a_doomed_1, a_terminable_1, a_calledQueue_1, a_wakeTime_1, a_wakePlace_1, a_depth_1, a_frameKind_1, a_frameValue_1, a_queue_1, a_queueLength_1, a_row_1, a_noteTask_1, a_noteValue_1, a_fallen_1, a_chosen_1) => (vp_in (nI t) 8 ∧ (vp_in (nI t) 8 ∧ ∀ y, y = upd a_place_1 (nI t).toNatClampNeg (a_place_1 (nI t).toNatClampNeg + 1) → post (f_rowLength_1, f_noteCount_1, f_tasks_1, f_time_1, f_done_1, f_turns_1, f_doneInTurn_1, f_inTurn_1, a_ops_1, a_firsts_1, a_seconds_1, a_lengths_1, a_condition_1, y, a_xs_1, a_ended_1, a_bodyOf_1, a_master_1, a_masterBlock_1, a_limits_1, a_pending_1, a_doomed_1, a_terminable_1, a_calledQueue_1, a_wakeTime_1, a_wakePlace_1, a_depth_1, a_frameKind_1, a_frameValue_1, a_queue_1, a_queueLength_1, a_row_1, a_noteTask_1, a_noteValue_1, a_fallen_1, a_chosen_1)))) (rd_tX (rd_sw (rd_sw (rd_sw A  18 t (nI e))  6 c (A 6 t))  5 c (nI (q + 1))) (nI w.length) ra qa ql) (nI c)) ∧ (A 13 c ≠ 0 → wpX_bringDown (fun u => match u with | (f_rowLength_1, f_noteCount_1, f_tasks_1, f_time_1, f_done_1, f_turns_1, f_doneInTurn_1, f_inTurn_1, a_ops_1, a_firsts_1, a_seconds_1, a_lengths_1, a_condition_1, a_place_1, a_xs_1, a_ended_1, a_bodyOf_1, a_master_1, a_masterBlock_1, a_limits_1, a_pending_1, a_doomed_1, a_terminable_1, a_calledQueue_1, a_wakeTime_1, a_wakePlace_1, a_depth_1, a_frameKind_1, a_frameValue_1, a_queue_1, a_queueLength_1, a_row_1, a_noteTask_1, a_noteValue_1, a_fallen_1, a_chosen_1) => (vp_in (nI t) 8 ∧ (vp_in (nI t) 8 ∧ ∀ y, y = upd a_place_1 (nI t).toNatClampNeg (a_place_1 (nI t).toNatClampNeg + 1) → post (f_rowLength_1, f_noteCount_1, f_tasks_1, f_time_1, f_done_1, f_turns_1, f_doneInTurn_1, f_inTurn_1, a_ops_1, a_firsts_1, a_seconds_1, a_lengths_1, a_condition_1, y, a_xs_1, a_ended_1, a_bodyOf_1, a_master_1, a_masterBlock_1, a_limits_1, a_pending_1, a_doomed_1, a_terminable_1, a_calledQueue_1, a_wakeTime_1, a_wakePlace_1, a_depth_1, a_frameKind_1, a_frameValue_1, a_queue_1, a_queueLength_1, a_row_1, a_noteTask_1, a_noteValue_1, a_fallen_1, a_chosen_1)))) (rd_tX (rd_sw (rd_sw A  18 t (nI e))  6 c (A 6 t)) (nI w.length) ra qa ql) (nI c) 14)) → wX_perform_119 post (nI t) (nI (p + 1)) 14 a b (nI w.length) (A 25 0) (A 26 0) (A 27 0) (A 28 0) (A 29 0) (A 30 0) (A 31 0) (A 0) (A 1) (A 2) (A 3) (A 4) (A 5) (A 6) (A 7) (A 8) (A 9) (A 10) (A 11) (A 12) (A 13) (A 14) (A 15) (A 16) (A 17) (A 18) (A 19) (A 20) qa ql ra (A 21) (A 22) (A 32) (A 23) := by
      intro post ra qa ql H
      refine br_f (by decide) <| br_f (by decide) <| br_f (by decide) <| br_f (by decide) <| br_f (by decide) <| br_f (by decide) <| br_f (by decide) <| br_f (by decide) <| br_f (by decide) <| br_f (by decide) <| br_f (by decide) <| br_f (by decide) <| br_f (by decide) <| br_f (by decide) <| br_f (by decide) <| br_f (by decide) <| br_t rfl <| ?_
      unfold wpX_doDone
      refine rd_x_hasOnTop (by omega) ed hd (fun e' he k => br_f (by decide) ⟨i8, i8, nm_r (e' := upd (A 18) t (nI e)) (by rw [ct, ed, nI_pred]) ⟨i8, ?_⟩⟩) (fun k => absurd ek (k e rfl))
      rw [it, ce]
      refine ⟨i64, nm_r (e' := nI c) ev ⟨i8, ic, nm_r (e' := upd (A 6) c (A 6 t)) (by rw [cc, ct]) ⟨ic, ?_⟩⟩⟩
      refine br_c (fun y => ⟨ic, ic, nm_r (e' := upd (A 5) c (nI (q + 1))) (by rw [cc, eq, nI_1]) (H.1 (by rw [cc] at y; exact y))⟩) (fun y => H.2 (by rw [cc] at y; exact y))
    have Y0 : ∀ (post : SY → Prop) (ra qa wq am rz ob fr st : Nat → Int32) (bl : Int32), rd_YL 8 n D A w Q ra qa wq am rz ob fr st bl → (wpY_release (fun u => match u with | (f_tasks_1, f_blocks_1, f_readies_1, f_time_1, f_done_1, f_turns_1, f_notes_1, a_length_1, a_ops_1, a_as_1, a_bs_1, a_states_1, a_places_1, a_xs_1, a_limits_1, a_bodies_1, a_ends_1, a_raised_1, a_until_1, a_high_1, a_kinds_1, a_frames_1, a_on_1, a_onBlock_1, a_doomed_1, a_queues_1, a_waiting_1, a_row_1, a_dying_1, a_among_1, a_noteTask_1, a_noteInt_1) => (wY_step_448 post (nI t) 14 a (nI p) f_tasks_1 f_blocks_1 f_readies_1 f_time_1 f_done_1 f_turns_1 f_notes_1 a_length_1 a_ops_1 a_as_1 a_bs_1 a_states_1 a_places_1 a_xs_1 a_limits_1 a_bodies_1 a_ends_1 a_raised_1 a_until_1 a_high_1 a_kinds_1 a_frames_1 a_on_1 a_onBlock_1 a_doomed_1 a_queues_1 a_waiting_1 a_row_1 a_dying_1 a_among_1 a_noteTask_1 a_noteInt_1)) (rd_tY (rd_sw (rd_sw A  18 t (nI e))  6 c (A 6 t)) (nI w.length) ra qa wq am rz ob fr st bl) (nI c) 0 (nI (q + 1))) → wpY_step post (rd_tY A (nI w.length) ra qa wq am rz ob fr st bl) (nI t) 14 a b := by
      intro post ra qa wq am rz ob fr st bl hy H
      have efr : fr (8 * t + e) = nI c := (hy.y5 t ht e hds (by rw [ek]; decide)).trans ev
      refine rd_y_st14 (by omega) epl ed hd (fun e' he k => ?_) (fun k => absurd ek (k e rfl))
      refine br_f (by decide) <| br_f (by decide) <| br_f (by decide) <| br_f (by decide) <| br_f (by decide) <| br_f (by decide) <| br_f (by decide) <| br_f (by decide) <| br_f (by decide) <| br_f (by decide) <| br_f (by decide) <| br_f (by decide) <| br_t rfl <| ?_
      refine br_f (by decide) <| br_f (by decide) <| br_f (by decide) <| br_f (by decide) <| br_f (by decide) <| br_f (by decide) <| br_f (by decide) <| br_f (by decide) <| br_f (by decide) <| br_f (by decide) <| br_f (by decide) <| br_f (by decide) <| br_f (by decide) <| br_f (by decide) <| br_f (by decide) <| br_f (by decide) <| br_t rfl <| rd_y_top (by omega) ed he8 ?_
      rw [efr]
      refine ⟨i8, i8, nm_r (e' := upd (A 18) t (nI e)) (by rw [ct, ed, nI_pred]) ⟨i8, ic, nm_r (e' := upd (A 6) c (A 6 t)) (by rw [cc, ct]) ⟨ic, ?_⟩⟩⟩
      rw [cc, eq, nI_1]
      exact H
    by_cases hdm : A 13 c = 0
    · have I3 := rd_i_ready I2 hc q0 q8 (rd_vQ_no I.vQ q1) nf
      have I4 := rd_i_pl (t := c) (p := q + 1) I3 hc (by omega) (Or.inl rd_us)
      have c0 : (rd_ready (rd_sw (rd_sw A  18 t (nI e))  6 c (A 6 t)) c) 4 t = 0 := (rd_un tc).trans h0
      have I5 : rd_Inv n 8 (D + 1) (rd_sw (rd_ready (rd_sw (rd_sw (rd_sw A  18 t (nI e))  6 c (A 6 t))  5 c (nI (q + 1))) c)  5 t (nI (p + 1))) (w ++ [c]) Q := rd_i_pl (t := t) (p := p + 1) I4 ht (by omega) (Or.inl c0)
      have wlt : w.length < 8 := Nat.lt_of_lt_of_le (rd_wlen' I hc q0) hn
      have et : upd (A 5) c (nI (q + 1)) t + 1 = nI (p + 1) := by rw [rd_un tc, epl, nI_1]
      refine ⟨n, _, w ++ [c], Q, I5, ⟨Nat.le_refl _, rfl, rfl, rfl, rfl, fun s hs y => ?_, fun _ => rd_hd_app⟩, fun _ => hp, ?_, ?_⟩
      · have y : upd (A 4) c 0 s = 9 := y
        by_cases r : s = c
        · rw [r, rd_us] at y; exact absurd y (by decide)
        · rw [rd_un r] at y; exact n9 s hs y
      · intro post ra qa ql hx H
        refine X0 post ra qa ql ⟨fun _ => ?_, fun y => absurd hdm y⟩
        refine rd_x_makeReady (rd_RX_mk (A := rd_sw (rd_sw (rd_sw A  18 t (nI e))  6 c (A 6 t))  5 c (nI (q + 1))) hx) (by omega) wlt ?_
        rintro u' ⟨ra1, qa1, ql1, rfl, hx1⟩
        refine ⟨i8, i8, nm_r (e' := upd (upd (A 5) c (nI (q + 1))) t (nI (p + 1))) ?_ (H _ (rd_RX_mk hx1))⟩
        rw [ct]
        show upd (upd (A 5) c (nI (q + 1))) t (upd (A 5) c (nI (q + 1)) t + 1) = _
        rw [et]
      · intro post ra qa wq am rz ob fr st bl hy H
        refine Y0 post ra qa wq am rz ob fr st bl hy ?_
        have hy1 := rd_YL_pop (rd_YL_D hy) ed he8
        unfold wpY_release
        refine ⟨ic, br_t (by rw [cc]; exact hdm) ⟨ic, nm_r (e' := upd rz c 0) (by rw [cc]) ⟨ic, nm_r (e' := upd (A 5) c (nI (q + 1))) (by rw [cc]; rfl) ?_⟩⟩⟩
        have y4' : rd_y4 8 n (A 4) (A 12) (upd rz c 0) := by
          have := rd_y4_pe (t := c) (v := 0) hy1.y4 (by omega)
          have e2 : upd (A 12) c 0 = A 12 := rd_ue pc
          have this : rd_y4 8 n (A 4) (upd (A 12) c 0) (upd rz c 0) := this
          rw [e2] at this
          exact this
        refine rd_y_wake (A := rd_sw (rd_sw (rd_sw A  18 t (nI e))  6 c (A 6 t))  5 c (nI (q + 1))) (rd_RY_mk (ex := 8) (D := D + 1) (Q := Q) ⟨hy1.r, hy1.y2, hy1.y3, y4', hy1.y5, hy1.y6, hy1.y7, hy1.y8, hy1.y9, hy1.y10⟩) hn hc wlt q7 q8 q9 ?_
        rintro v' ⟨ra1, qa1, wq1, am1, rz1, ob1, fr1, st1, bl1, rfl, hy2⟩
        exact br_f (by decide) ⟨i8, nm_r (e' := upd (upd (A 5) c (nI (q + 1))) t (nI (p + 1))) (by rw [ct, nI_1]; rfl) (H _ (rd_RY_mk hy2))⟩
    · obtain ⟨B, x, R, J, F, X, Y⟩ := rd_bd (ex := 8) (t := c) 14 I2 hc q7 q8 nf n9 (fun y => by omega)
      have kt := F.2.2.1 t ⟨h0, tc⟩
      have bpl : B 5 t = nI p := kt.2.1.trans epl
      have I5 := rd_i_pl (t := t) (p := p + 1) J ht (by omega) (Or.inl (kt.1.trans h0))
      have k : ∀ k, k =  28 ∨ k =  30 ∨ k =  31 ∨ k =  29 → B k = (rd_sw (rd_sw A  18 t (nI e))  6 c (A 6 t)) k := fun k hk => F.1 k (by omega) (by omega) (by omega) (by omega) (by omega) (by omega) (by omega) (by omega) (by omega)
      refine ⟨n, _, x, R, I5, ⟨Nat.le_refl _, k  28 (by simp), k  30 (by simp), k  31 (by simp), k  29 (by simp), F.2.2.2.1, fun _ => kt.2.2.2.2⟩, fun _ => kt.2.2.1.trans hp, ?_, ?_⟩
      · intro post ra qa ql hx H
        refine X0 post ra qa ql ⟨fun y => absurd y hdm, fun _ => ?_⟩
        refine X _ _ (rd_RX_mk (A := rd_sw (rd_sw A  18 t (nI e))  6 c (A 6 t)) hx) ?_
        rintro u' ⟨ra1, qa1, ql1, rfl, hx1⟩
        exact ⟨i8, i8, nm_r (e' := upd (B 5) t (nI (p + 1))) (by rw [ct, bpl, nI_1]) (H _ (rd_RX_mk hx1))⟩
      · intro post ra qa wq am rz ob fr st bl hy H
        refine Y0 post ra qa wq am rz ob fr st bl hy ?_
        have hy1 := rd_YL_pop (rd_YL_D hy) ed he8
        unfold wpY_release
        refine ⟨ic, br_f (by rw [cc]; exact hdm) ?_⟩
        refine Y _ _ (rd_RY_mk (A := rd_sw (rd_sw A  18 t (nI e))  6 c (A 6 t)) hy1) ?_
        rintro v' ⟨ra1, qa1, wq1, am1, rz1, ob1, fr1, st1, bl1, rfl, hy2⟩
        exact br_f (by decide) ⟨i8, nm_r (e' := upd (B 5) t (nI (p + 1))) (by rw [ct, nI_1]) (H _ (rd_RY_mk (A := rd_sw B  5 t (nI (p + 1))) hy2))⟩
  · have no : ∀ e, d = e + 1 → A 19 (8 * t + e) ≠ 1 := fun e he k => z ⟨e, he, k⟩
    refine Or.inr (rd_mkO2 C 12 (by omega) (by omega) ?_ ?_)
    · intro post ra qa ql H
      refine br_f (by decide) <| br_f (by decide) <| br_f (by decide) <| br_f (by decide) <| br_f (by decide) <| br_f (by decide) <| br_f (by decide) <| br_f (by decide) <| br_f (by decide) <| br_f (by decide) <| br_f (by decide) <| br_f (by decide) <| br_f (by decide) <| br_f (by decide) <| br_f (by decide) <| br_f (by decide) <| br_t rfl <| ?_
      unfold wpX_doDone
      exact rd_x_hasOnTop (by omega) ed hd (fun e he k => absurd k (no e he)) (fun _ => br_t rfl H)
    · intro post ra qa wq am rz ob fr st bl H
      exact rd_y_st14 (by omega) epl ed hd (fun e he k => absurd k (no e he)) (fun _ => H)
end
