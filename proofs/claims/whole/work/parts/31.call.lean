/-! CALL and LATE -/
theorem rd_at_of {n e E t : Nat} {A : rd_St} {w : List Nat} {Q : Nat → List Nat} (I : rd_Inv n e E A w Q) (ht : t < n) : ∃ b p L, rd_at A t b p L := by
  obtain ⟨b, hb, eb⟩ := I.rbo t ht
  obtain ⟨p, hp, ep⟩ := I.rpl t ht
  obtain ⟨L, hL, eL⟩ := I.vG.1 b (by omega)
  exact ⟨b, p, L, eb, by omega, ep, hp, eL, hL⟩
theorem rd_mt_cd {A : rd_St} {t c d : Nat} : rd_mt (rd_sw A  4 c 2) t c d = rd_mt A t c d := by
  unfold rd_mt
  rw [rd_sw_sw]
  rfl
theorem rd_XL_enq {w : List Nat} {Q : Nat → List Nat} {ra qa ql : Nat → Int32} {k t : Nat} (h : rd_XL w Q ra qa ql) (hQ : ∀ q, (Q q).length ≤ 8) (hk : k < 24) (hl : (Q k).length < 8) : rd_XL w (rd_pq Q k t) ra (upd qa (8 * k + (Q k).length) (nI t)) (upd ql k (nI ((Q k).length + 1))) := by
  refine ⟨h.1, fun q hq => ?_⟩
  unfold rd_pq
  by_cases e : q = k
  · subst e
    rw [if_pos rfl, rd_us]
    exact ⟨by simp, rd_LV_put (h.2 q hq).2⟩
  · rw [if_neg e, rd_un e]
    refine ⟨(h.2 q hq).1, rd_LV_fr (h.2 q hq).2 (fun i a b => rd_un ?_)⟩
    have := hQ q
    omega
theorem rd_y3_enq {n : Nat} {Q : Nat → List Nat} {wq qa : Nat → Int32} {k t : Nat} (h : rd_y3 n Q wq qa) (hQ : ∀ q, (Q q).length ≤ 8) (hk : k < 3 * n) (hl : (Q k).length < 8) : rd_y3 n (rd_pq Q k t) (upd wq k (nI ((Q k).length + 1))) (upd qa (8 * k + (Q k).length) (nI t)) := by
  intro q hq
  unfold rd_pq
  by_cases e : q = k
  · subst e
    rw [if_pos rfl, rd_us]
    exact ⟨by simp, rd_LV_put (h q hq).2⟩
  · rw [if_neg e, rd_un e]
    refine ⟨(h q hq).1, rd_LV_fr (h q hq).2 (fun i a b => rd_un ?_)⟩
    have := hQ q
    omega
section
variable {n D t p b' d : Nat} {a b : Int32} {A : rd_St} {w : List Nat} {Q : Nat → List Nat}
/-- the reference's call, for an entry of a task that is there: at -1 or at a place -/
theorem rd_y_call {post : SY → Prop} {ra qa wq am rz ob fr st : Nat → Int32} {bl : Int32} {s j bb pp L : Nat} {late : Int32} (I : rd_Inv n 8 (D + 1) A w Q) (hy : rd_YL 8 n D A w Q ra qa wq am rz ob fr st bl) (hs : s < n) (hj : j < 3) (h7 : A 4 s ≠ 7) (h8 : A 4 s ≠ 8) (h : rd_at A s bb pp L) (x : Int32) (hx : (A 4 s = 3 → (A 1 (20 * bb + pp) = nI j → x = nI (pp + 1)) ∧ (A 1 (20 * bb + pp) ≠ nI j → x = -1)) ∧ (A 4 s = 4 → (rd_sc A s bb (nI j) 21 (pp + 1) = none → x = -1) ∧ (∀ i, rd_sc A s bb (nI j) 21 (pp + 1) = some i → x = A 2 (20 * bb + i))) ∧ (A 4 s ≠ 3 → A 4 s ≠ 4 → x = -1)) (P : wY_call_122 post (nI t) (nI s) (nI j) late x (A 26 0) bl (nI w.length) (A 27 0) (A 28 0) (A 29 0) (A 25 0) (A 3) (A 0) (A 1) (A 2) st (A 5) (A 6) (A 11) (A 8) (A 7) rz (A 16) (A 18) (A 19) fr (A 9) ob (A 13) qa wq ra (A 33) am (A 21) (A 22)) : wpY_call post (rd_tY A (nI w.length) ra qa wq am rz ob fr st bl) (nI t) (nI s) (nI j) late := by
  have hn := I.vN.2
  have cs : (nI s).toNatClampNeg = s := nI_clamp (by omega)
  have i8 : vp_in (nI s) 8 := vp_in_nI (by omega) (by omega)
  have es : ∀ v : Int32, v ≠ -1 → v ≠ 9 → (st (nI s).toNatClampNeg = v ↔ A 4 s = v) := by
    intro v v1 v2
    rw [cs, hy.y9 s]
    exact rd_cv_eq v1 v2
  obtain ⟨g1, g2, g3, g4, g5, g6⟩ := id h
  have fin : A 4 s ≠ 4 → wY_call_76 post (nI t) (nI s) (nI j) late x (A 26 0) bl (nI w.length) (A 27 0) (A 28 0) (A 29 0) (A 25 0) (A 3) (A 0) (A 1) (A 2) st (A 5) (A 6) (A 11) (A 8) (A 7) rz (A 16) (A 18) (A 19) fr (A 9) ob (A 13) qa wq ra (A 33) am (A 21) (A 22) := fun n4 => ⟨i8, br_f (fun y => n4 ((es 4 (by decide) (by decide)).mp y)) (br_t (by decide) P)⟩
  unfold wpY_call
  refine br_f (by rw [I.vN.1]; exact nI_ge (by omega) (by omega)) ⟨i8, br_f (fun y => h7 ((es 7 (by decide) (by decide)).mp y)) ⟨i8, br_f (fun y => h8 ((es 8 (by decide) (by decide)).mp y)) ⟨i8, ?_⟩⟩⟩
  by_cases k3 : A 4 s = 3
  · have hp20 : pp < 20 := by
      obtain ⟨p', a1, a2⟩ := (I.vA s hs).1 (Or.inr (Or.inr (Or.inl k3)))
      have := rd_inj (by omega) (by omega) (g3.symm.trans a2)
      omega
    have n4 : A 4 s ≠ 4 := by rw [k3]; decide
    refine br_t ((es 3 (by decide) (by decide)).mpr k3) ⟨i8, ?_⟩
    rw [cs, g3]
    refine rd_y_aAt h (by omega) hp20 (br_c (fun z => ⟨i8, nm_r (e' := x) ?_ (fin n4)⟩) (fun z => ?_))
    · rw [(hx.1 k3).1 z, nI_1]
    · have := (hx.1 k3).2 z
      rw [this] at fin
      exact fin n4
  · refine br_f (fun y => k3 ((es 3 (by decide) (by decide)).mp y)) ?_
    by_cases k4 : A 4 s = 4
    · refine ⟨i8, br_t ((es 4 (by decide) (by decide)).mpr k4) ?_⟩
      unfold wpY_alternative
      refine ⟨i8, nm_r (e' := nI (pp + 1)) (by rw [cs, g3, nI_1]) ⟨_, rd_yl_alt h (by omega) (nI j) (fun i => decide (A 1 (20 * bb + i) = nI j)) (fun i _ _ P1 P0 f1 f0 => ⟨fun _ => ⟨fun z => f1 (by simpa using z), fun z => f0 (by simpa using z)⟩, fun z => absurd (nI_pos' (by omega)) z⟩) 21 (pp + 1) (by omega) (by omega) (fun z => ?_) (fun i z => ?_)⟩⟩
      · have := (hx.2.1 k4).1 z
        rw [this] at P
        exact br_t (by decide) P
      · have := (hx.2.1 k4).2 i z
        have zi := rd_scan_some _ _ _ _ _ z
        have i20 : i < 20 := by have := rd_at_in h zi.2.2.1; omega
        have ii : 20 * A 8 (nI s).toNatClampNeg + nI i = nI (20 * bb + i) := by rw [cs, g1]; exact rd_ix' bb i 20 20 rfl
        refine br_f (nI_pos (by omega)) ⟨i8, ?_⟩
        rw [ii, nI_clamp (by omega), ← this]
        exact ⟨vp_in_nI (by omega) (by omega), nm_e P⟩
    · have := hx.2.2 k3 k4
      rw [this] at fin
      exact fin k4
/-- a call, in time or not (late is 0 or 1) -/
theorem rd_o_call {op late : Int32} {s j : Nat} (C : rd_C n D t p b' A w Q) (hp20 : p < 20) (hs8 : s < 8) (hj : j < 3) (hl : late = 0 ∨ late = 1) (X : ∀ (post : SX → Prop) (ra qa ql : Nat → Int32), wpX_doCall (fun r u => match u with | (f_rowLength_1, f_noteCount_1, f_tasks_1, f_time_1, f_done_1, f_turns_1, f_doneInTurn_1, f_inTurn_1, a_ops_1, a_firsts_1, a_seconds_1, a_lengths_1, a_condition_1, a_place_1, a_xs_1, a_ended_1, a_bodyOf_1, a_master_1, a_masterBlock_1, a_limits_1, a_pending_1, a_doomed_1, a_terminable_1, a_calledQueue_1, a_wakeTime_1, a_wakePlace_1, a_depth_1, a_frameKind_1, a_frameValue_1, a_queue_1, a_queueLength_1, a_row_1, a_noteTask_1, a_noteValue_1, a_fallen_1, a_chosen_1) => (vp_in (nI t) 8 ∧ ∀ y, y = upd a_place_1 (nI t).toNatClampNeg r → post (f_rowLength_1, f_noteCount_1, f_tasks_1, f_time_1, f_done_1, f_turns_1, f_doneInTurn_1, f_inTurn_1, a_ops_1, a_firsts_1, a_seconds_1, a_lengths_1, a_condition_1, y, a_xs_1, a_ended_1, a_bodyOf_1, a_master_1, a_masterBlock_1, a_limits_1, a_pending_1, a_doomed_1, a_terminable_1, a_calledQueue_1, a_wakeTime_1, a_wakePlace_1, a_depth_1, a_frameKind_1, a_frameValue_1, a_queue_1, a_queueLength_1, a_row_1, a_noteTask_1, a_noteValue_1, a_fallen_1, a_chosen_1))) (rd_tX A (nI w.length) ra qa ql) (nI t) (nI s) (nI j) late → wX_perform_119 post (nI t) (nI (p + 1)) op a b (nI w.length) (A 25 0) (A 26 0) (A 27 0) (A 28 0) (A 29 0) (A 30 0) (A 31 0) (A 0) (A 1) (A 2) (A 3) (A 4) (A 5) (A 6) (A 7) (A 8) (A 9) (A 10) (A 11) (A 12) (A 13) (A 14) (A 15) (A 16) (A 17) (A 18) (A 19) (A 20) qa ql ra (A 21) (A 22) (A 32) (A 23)) (Y : ∀ (post : SY → Prop) (ra qa wq am rz ob fr st : Nat → Int32) (bl : Int32), wpY_call (fun u => match u with | (f_tasks_1, f_blocks_1, f_readies_1, f_time_1, f_done_1, f_turns_1, f_notes_1, a_length_1, a_ops_1, a_as_1, a_bs_1, a_states_1, a_places_1, a_xs_1, a_limits_1, a_bodies_1, a_ends_1, a_raised_1, a_until_1, a_high_1, a_kinds_1, a_frames_1, a_on_1, a_onBlock_1, a_doomed_1, a_queues_1, a_waiting_1, a_row_1, a_dying_1, a_among_1, a_noteTask_1, a_noteInt_1) => post (f_tasks_1, f_blocks_1, f_readies_1, f_time_1, f_done_1, f_turns_1, f_notes_1, a_length_1, a_ops_1, a_as_1, a_bs_1, a_states_1, a_places_1, a_xs_1, a_limits_1, a_bodies_1, a_ends_1, a_raised_1, a_until_1, a_high_1, a_kinds_1, a_frames_1, a_on_1, a_onBlock_1, a_doomed_1, a_queues_1, a_waiting_1, a_row_1, a_dying_1, a_among_1, a_noteTask_1, a_noteInt_1)) (rd_tY A (nI w.length) ra qa wq am rz ob fr st bl) (nI t) (nI s) (nI j) late → wpY_step post (rd_tY A (nI w.length) ra qa wq am rz ob fr st bl) (nI t) op a b) : rd_O1 n D t p op a b a b A w Q ∨ rd_O2 n D t p op a b a b A w Q := by
  obtain ⟨I, ht, h0, hp, n9, epl, hpl, ebo, hbo, hD, ⟨T, hT, eT⟩, hN⟩ := id C
  have hn := I.vN.2
  have ct : (nI t).toNatClampNeg = t := nI_clamp (by omega)
  have i8 : vp_in (nI t) 8 := vp_in_nI (by omega) (by omega)
  have cs : (nI s).toNatClampNeg = s := nI_clamp (by omega)
  have i8s : vp_in (nI s) 8 := vp_in_nI (by omega) (by omega)
  have k7 : A 4 t ≠ 7 := by rw [h0]; decide
  have k8 : A 4 t ≠ 8 := by rw [h0]; decide
  have k9 : A 4 t ≠ 9 := by rw [h0]; decide
  have k1 : A 4 t ≠ 1 := by rw [h0]; decide
  have wk1 : A 16 t = -1 := rd_wk0 I ht ⟨by rw [h0]; decide, by rw [h0]; decide, by rw [h0]; decide⟩
  have wl8 : w.length ≤ 8 := Nat.le_trans (rd_wlen I) hn
  have wx8 : ∀ x, x ∈ w → x < 8 := fun x hx => Nat.lt_of_lt_of_le ((I.vR.2 x).mp hx).1 hn
  have nq := rd_vQ_no I.vQ k1
  by_cases there : s < n ∧ A 4 s ≠ 7 ∧ A 4 s ≠ 8
  · refine Or.inl ?_
    have there' := there
    obtain ⟨hs, s7, s8⟩ := there
    obtain ⟨bb, pp, L, hat⟩ := rd_at_of I hs
    obtain ⟨g1, g2, g3, g4, g5, g6⟩ := id hat
    have s3p : A 4 s = 3 → pp < 20 := by
      intro k3
      obtain ⟨p', a1, a2⟩ := (I.vA s hs).1 (Or.inr (Or.inr (Or.inl k3)))
      have := rd_inj (by omega) (by omega) (g3.symm.trans a2)
      omega
    -- the answer of both sides' looks
    have look : ∃ x : Int32, (x = -1 ∨ ∃ q, q ≤ 21 ∧ x = nI q ∧ (A 4 s = 3 ∨ A 4 s = 4)) ∧ (A 4 s = 3 → (A 1 (20 * bb + pp) = nI j → x = nI (pp + 1)) ∧ (A 1 (20 * bb + pp) ≠ nI j → x = -1)) ∧ (A 4 s = 4 → (rd_sc A s bb (nI j) 21 (pp + 1) = none → x = -1) ∧ (∀ i, rd_sc A s bb (nI j) 21 (pp + 1) = some i → x = A 2 (20 * bb + i))) ∧ (A 4 s ≠ 3 → A 4 s ≠ 4 → x = -1) := by
      by_cases k3 : A 4 s = 3
      · have n4 : A 4 s ≠ 4 := by rw [k3]; decide
        by_cases z : A 1 (20 * bb + pp) = nI j
        · exact ⟨nI (pp + 1), Or.inr ⟨pp + 1, by have := s3p k3; omega, rfl, Or.inl k3⟩, fun _ => ⟨fun _ => rfl, fun y => absurd z y⟩, fun y => absurd y n4, fun y => absurd k3 y⟩
        · exact ⟨-1, Or.inl rfl, fun _ => ⟨fun y => absurd y z, fun _ => rfl⟩, fun y => absurd y n4, fun y => absurd k3 y⟩
      · by_cases k4 : A 4 s = 4
        · cases hsc : rd_sc A s bb (nI j) 21 (pp + 1) with
          | none => exact ⟨-1, Or.inl rfl, fun y => absurd y k3, fun _ => ⟨fun _ => rfl, fun i y => by simp at y⟩, fun _ y => absurd k4 y⟩
          | some i =>
            have zi := rd_scan_some _ _ _ _ _ hsc
            have iL := rd_at_in hat zi.2.2.1
            have ef := (rd_at_op hat i).1 iL
            have fit := I.vG.2 (20 * bb + i) (by omega)
            have op1 : A 0 (20 * bb + i) = 16 ∨ A 0 (20 * bb + i) = 17 := by
              have := zi.2.2.2
              simp only [Bool.and_eq_true] at this
              have := rd_opn_t.mp this.1
              rw [ef] at this
              rcases this with y | y
              · exact Or.inl y
              · exact Or.inr y.1
            obtain ⟨_, q, hq, eq⟩ := fit.2.2.2.2.2.2.2.1 op1
            exact ⟨A 2 (20 * bb + i), Or.inr ⟨q, by omega, eq, Or.inr k4⟩, fun y => absurd y k3, fun _ => ⟨fun y => by simp at y, fun i' y => by simp at y; rw [y]⟩, fun _ y => absurd k4 y⟩
        · exact ⟨-1, Or.inl rfl, fun y => absurd y k3, fun y => absurd y k4, fun _ _ => rfl⟩
    obtain ⟨x, hx, hx3, hx4, hx0⟩ := look
    have pm : ∀ {rl : Int32} {ra qa ql : Nat → Int32} {post : Int32 → Prop}, post x → wpX_placeToMeet post (rd_tX A rl ra qa ql) (nI s) (nI j) := by
      intro rl ra qa ql post fin
      refine rd_x_pm hat hs8 (fun k3 _ => ⟨fun y => ?_, fun y => ?_⟩) s3p (fun k4 => ⟨fun y => ?_, fun i y => ?_⟩) (fun k3 k4 => ?_)
      · rw [← (hx3 k3).1 y]; exact fin
      · rw [← (hx3 k3).2 y]; exact fin
      · rw [← (hx4 k4).1 y]; exact fin
      · rw [← (hx4 k4).2 i y]; exact fin
      · rw [← hx0 k3 k4]; exact fin
    have Y1 : ∀ (post : SY → Prop) (ra qa wq am rz ob fr st : Nat → Int32) (bl : Int32), rd_YL 8 n D A w Q ra qa wq am rz ob fr st bl → wY_call_122 (fun u => match u with | (f_tasks_1, f_blocks_1, f_readies_1, f_time_1, f_done_1, f_turns_1, f_notes_1, a_length_1, a_ops_1, a_as_1, a_bs_1, a_states_1, a_places_1, a_xs_1, a_limits_1, a_bodies_1, a_ends_1, a_raised_1, a_until_1, a_high_1, a_kinds_1, a_frames_1, a_on_1, a_onBlock_1, a_doomed_1, a_queues_1, a_waiting_1, a_row_1, a_dying_1, a_among_1, a_noteTask_1, a_noteInt_1) => post (f_tasks_1, f_blocks_1, f_readies_1, f_time_1, f_done_1, f_turns_1, f_notes_1, a_length_1, a_ops_1, a_as_1, a_bs_1, a_states_1, a_places_1, a_xs_1, a_limits_1, a_bodies_1, a_ends_1, a_raised_1, a_until_1, a_high_1, a_kinds_1, a_frames_1, a_on_1, a_onBlock_1, a_doomed_1, a_queues_1, a_waiting_1, a_row_1, a_dying_1, a_among_1, a_noteTask_1, a_noteInt_1)) (nI t) (nI s) (nI j) late x (A 26 0) bl (nI w.length) (A 27 0) (A 28 0) (A 29 0) (A 25 0) (A 3) (A 0) (A 1) (A 2) st (A 5) (A 6) (A 11) (A 8) (A 7) rz (A 16) (A 18) (A 19) fr (A 9) ob (A 13) qa wq ra (A 33) am (A 21) (A 22) → wpY_step post (rd_tY A (nI w.length) ra qa wq am rz ob fr st bl) (nI t) op a b := fun post ra qa wq am rz ob fr st bl hy P => Y post ra qa wq am rz ob fr st bl (rd_y_call I hy hs hj s7 s8 hat x ⟨hx3, hx4, hx0⟩ P)
    rcases hx with xe | ⟨q, hq, xe, s34⟩
    · -- no meeting at once
      subst xe
      have c85 : (late = 0 ∨ A 11 t ≠ 0) ∨ (late ≠ 0 ∧ A 11 t = 0) := by
        by_cases y : late = 0
        · exact Or.inl (Or.inl y)
        · by_cases z : A 11 t = 0
          · exact Or.inr ⟨y, z⟩
          · exact Or.inl (Or.inr z)
      rcases c85 with c85 | ⟨l1, l0⟩
      · -- into the queue
        have hk : 3 * s + j < 3 * n := by omega
        have ik : nI s * 3 + nI j = nI (3 * s + j) := rd_ix s j 3 3 rfl
        have ik' : 3 * nI s + nI j = nI (3 * s + j) := rd_ix' s j 3 3 rfl
        have ck : (nI (3 * s + j)).toNatClampNeg = 3 * s + j := nI_clamp (by omega)
        have i24 : vp_in (nI (3 * s + j)) 24 := vp_in_nI (by omega) (by omega)
        have hQ8 : ∀ q, (Q q).length ≤ 8 := fun q => Nat.le_trans (rd_qlen I) hn
        have hlen : (Q (3 * s + j)).length < 8 := Nat.lt_of_lt_of_le (rd_qlen' I ht (nq _)) hn
        have im : nI (3 * s + j) * 8 + nI (Q (3 * s + j)).length = nI (8 * (3 * s + j) + (Q (3 * s + j)).length) := rd_ix _ _ 8 8 rfl
        have im' : 8 * nI (3 * s + j) + nI (Q (3 * s + j)).length = nI (8 * (3 * s + j) + (Q (3 * s + j)).length) := rd_ix' _ _ 8 8 rfl
        have cm : (nI (8 * (3 * s + j) + (Q (3 * s + j)).length)).toNatClampNeg = 8 * (3 * s + j) + (Q (3 * s + j)).length := nI_clamp (by omega)
        have i192 : vp_in (nI (8 * (3 * s + j) + (Q (3 * s + j)).length)) 192 := vp_in_nI (by omega) (by omega)
        obtain ⟨lim, hlim, elim⟩ := I.rli t ht
        have I1 : rd_Inv n 8 (D + 1) (rd_sw A  15 t (nI (3 * s + j))) w Q := rd_i_cq I k1
        have I2 : rd_Inv n 8 (D + 1) (rd_sw (rd_sw A  15 t (nI (3 * s + j)))  4 t 1) (w.filter (fun x => x != t)) Q := rd_i_wait (s := 1) I1 ht h0 (by omega) ⟨p, hp20, epl⟩ hp (fun y => absurd y (by decide)) (fun _ => ⟨3 * s + j, hk, rd_us⟩)
        have I3 := rd_i_enq (k := 3 * s + j) I2 ht rd_us nq hk rd_us
        have nz : ∀ B : rd_St, B 4 = upd (A 4) t 1 → B 4 t ≠ 0 := by
          intro B e
          rw [e, rd_us]; decide
        have n9' : ∀ B : rd_St, B 4 = upd (A 4) t 1 → ∀ r, r < n → B 4 r ≠ 9 := by
          intro B e r hr y
          rw [e] at y
          by_cases z : r = t
          · rw [z, rd_us] at y; exact absurd y (by decide)
          · rw [rd_un z] at y; exact n9 r hr y
        -- the component up to the wait
        have X2 : ∀ (post : SX → Prop) (ra qa ql : Nat → Int32), rd_XL w Q ra qa ql → (∀ u', rd_RX (rd_sw (rd_sw A  15 t (nI (3 * s + j)))  4 t 1) (w.filter (fun x => x != t)) (rd_pq Q (3 * s + j) t) u' → (match u' with | (f_rowLength_1, f_noteCount_1, f_tasks_1, f_time_1, f_done_1, f_turns_1, f_doneInTurn_1, f_inTurn_1, a_ops_1, a_firsts_1, a_seconds_1, a_lengths_1, a_condition_1, a_place_1, a_xs_1, a_ended_1, a_bodyOf_1, a_master_1, a_masterBlock_1, a_limits_1, a_pending_1, a_doomed_1, a_terminable_1, a_calledQueue_1, a_wakeTime_1, a_wakePlace_1, a_depth_1, a_frameKind_1, a_frameValue_1, a_queue_1, a_queueLength_1, a_row_1, a_noteTask_1, a_noteValue_1, a_fallen_1, a_chosen_1) => ((late = 0 → (vp_in (nI t) 8 ∧ ∀ y, y = upd a_place_1 (nI t).toNatClampNeg (nI p) → post (f_rowLength_1, f_noteCount_1, f_tasks_1, f_time_1, f_done_1, f_turns_1, f_doneInTurn_1, f_inTurn_1, a_ops_1, a_firsts_1, a_seconds_1, a_lengths_1, a_condition_1, y, a_xs_1, a_ended_1, a_bodyOf_1, a_master_1, a_masterBlock_1, a_limits_1, a_pending_1, a_doomed_1, a_terminable_1, a_calledQueue_1, a_wakeTime_1, a_wakePlace_1, a_depth_1, a_frameKind_1, a_frameValue_1, a_queue_1, a_queueLength_1, a_row_1, a_noteTask_1, a_noteValue_1, a_fallen_1, a_chosen_1))) ∧ (¬ late = 0 → (vp_in (nI t) 8 ∧ wpX_wakeAfter (fun u => match u with | (f_rowLength_2, f_noteCount_2, f_tasks_2, f_time_2, f_done_2, f_turns_2, f_doneInTurn_2, f_inTurn_2, a_ops_2, a_firsts_2, a_seconds_2, a_lengths_2, a_condition_2, a_place_2, a_xs_2, a_ended_2, a_bodyOf_2, a_master_2, a_masterBlock_2, a_limits_2, a_pending_2, a_doomed_2, a_terminable_2, a_calledQueue_2, a_wakeTime_2, a_wakePlace_2, a_depth_2, a_frameKind_2, a_frameValue_2, a_queue_2, a_queueLength_2, a_row_2, a_noteTask_2, a_noteValue_2, a_fallen_2, a_chosen_2) => (vp_in (nI t) 8 ∧ ∀ y, y = upd a_place_2 (nI t).toNatClampNeg (nI p) → post (f_rowLength_2, f_noteCount_2, f_tasks_2, f_time_2, f_done_2, f_turns_2, f_doneInTurn_2, f_inTurn_2, a_ops_2, a_firsts_2, a_seconds_2, a_lengths_2, a_condition_2, y, a_xs_2, a_ended_2, a_bodyOf_2, a_master_2, a_masterBlock_2, a_limits_2, a_pending_2, a_doomed_2, a_terminable_2, a_calledQueue_2, a_wakeTime_2, a_wakePlace_2, a_depth_2, a_frameKind_2, a_frameValue_2, a_queue_2, a_queueLength_2, a_row_2, a_noteTask_2, a_noteValue_2, a_fallen_2, a_chosen_2))) (f_rowLength_1, f_noteCount_1, f_tasks_1, f_time_1, f_done_1, f_turns_1, f_doneInTurn_1, f_inTurn_1, a_ops_1, a_firsts_1, a_seconds_1, a_lengths_1, a_condition_1, a_place_1, a_xs_1, a_ended_1, a_bodyOf_1, a_master_1, a_masterBlock_1, a_limits_1, a_pending_1, a_doomed_1, a_terminable_1, a_calledQueue_1, a_wakeTime_1, a_wakePlace_1, a_depth_1, a_frameKind_1, a_frameValue_1, a_queue_1, a_queueLength_1, a_row_1, a_noteTask_1, a_noteValue_1, a_fallen_1, a_chosen_1) (nI t) (a_limits_1 (nI t).toNatClampNeg) (nI p + 2)))))) → wX_perform_119 post (nI t) (nI (p + 1)) op a b (nI w.length) (A 25 0) (A 26 0) (A 27 0) (A 28 0) (A 29 0) (A 30 0) (A 31 0) (A 0) (A 1) (A 2) (A 3) (A 4) (A 5) (A 6) (A 7) (A 8) (A 9) (A 10) (A 11) (A 12) (A 13) (A 14) (A 15) (A 16) (A 17) (A 18) (A 19) (A 20) qa ql ra (A 21) (A 22) (A 32) (A 23) := by
          intro post ra qa ql hx H
          have e0 := (hx.2 (3 * s + j) (by omega)).1
          refine X post ra qa ql ?_
          unfold wpX_doCall
          have fin : ∀ K : Int32 → SX → Prop, (∀ u', rd_RX (rd_sw (rd_sw A  15 t (nI (3 * s + j)))  4 t 1) (w.filter (fun x => x != t)) (rd_pq Q (3 * s + j) t) u' → (match u' with | (f_rowLength_1, f_noteCount_1, f_tasks_1, f_time_1, f_done_1, f_turns_1, f_doneInTurn_1, f_inTurn_1, a_ops_1, a_firsts_1, a_seconds_1, a_lengths_1, a_condition_1, a_place_1, a_xs_1, a_ended_1, a_bodyOf_1, a_master_1, a_masterBlock_1, a_limits_1, a_pending_1, a_doomed_1, a_terminable_1, a_calledQueue_1, a_wakeTime_1, a_wakePlace_1, a_depth_1, a_frameKind_1, a_frameValue_1, a_queue_1, a_queueLength_1, a_row_1, a_noteTask_1, a_noteValue_1, a_fallen_1, a_chosen_1) => ((late = 0 → K (nI p) (f_rowLength_1, f_noteCount_1, f_tasks_1, f_time_1, f_done_1, f_turns_1, f_doneInTurn_1, f_inTurn_1, a_ops_1, a_firsts_1, a_seconds_1, a_lengths_1, a_condition_1, a_place_1, a_xs_1, a_ended_1, a_bodyOf_1, a_master_1, a_masterBlock_1, a_limits_1, a_pending_1, a_doomed_1, a_terminable_1, a_calledQueue_1, a_wakeTime_1, a_wakePlace_1, a_depth_1, a_frameKind_1, a_frameValue_1, a_queue_1, a_queueLength_1, a_row_1, a_noteTask_1, a_noteValue_1, a_fallen_1, a_chosen_1)) ∧ (¬ late = 0 → (vp_in (nI t) 8 ∧ wpX_wakeAfter (fun u => match u with | (f_rowLength_2, f_noteCount_2, f_tasks_2, f_time_2, f_done_2, f_turns_2, f_doneInTurn_2, f_inTurn_2, a_ops_2, a_firsts_2, a_seconds_2, a_lengths_2, a_condition_2, a_place_2, a_xs_2, a_ended_2, a_bodyOf_2, a_master_2, a_masterBlock_2, a_limits_2, a_pending_2, a_doomed_2, a_terminable_2, a_calledQueue_2, a_wakeTime_2, a_wakePlace_2, a_depth_2, a_frameKind_2, a_frameValue_2, a_queue_2, a_queueLength_2, a_row_2, a_noteTask_2, a_noteValue_2, a_fallen_2, a_chosen_2) => K (nI p) (f_rowLength_2, f_noteCount_2, f_tasks_2, f_time_2, f_done_2, f_turns_2, f_doneInTurn_2, f_inTurn_2, a_ops_2, a_firsts_2, a_seconds_2, a_lengths_2, a_condition_2, a_place_2, a_xs_2, a_ended_2, a_bodyOf_2, a_master_2, a_masterBlock_2, a_limits_2, a_pending_2, a_doomed_2, a_terminable_2, a_calledQueue_2, a_wakeTime_2, a_wakePlace_2, a_depth_2, a_frameKind_2, a_frameValue_2, a_queue_2, a_queueLength_2, a_row_2, a_noteTask_2, a_noteValue_2, a_fallen_2, a_chosen_2)) (f_rowLength_1, f_noteCount_1, f_tasks_1, f_time_1, f_done_1, f_turns_1, f_doneInTurn_1, f_inTurn_1, a_ops_1, a_firsts_1, a_seconds_1, a_lengths_1, a_condition_1, a_place_1, a_xs_1, a_ended_1, a_bodyOf_1, a_master_1, a_masterBlock_1, a_limits_1, a_pending_1, a_doomed_1, a_terminable_1, a_calledQueue_1, a_wakeTime_1, a_wakePlace_1, a_depth_1, a_frameKind_1, a_frameValue_1, a_queue_1, a_queueLength_1, a_row_1, a_noteTask_1, a_noteValue_1, a_fallen_1, a_chosen_1) (nI t) (a_limits_1 (nI t).toNatClampNeg) (nI p + 2)))))) → wX_doCall_85 K (nI t) (nI s) (nI j) late (nI p) (nI w.length) (A 25 0) (A 26 0) (A 27 0) (A 28 0) (A 29 0) (A 30 0) (A 31 0) (A 0) (A 1) (A 2) (A 3) (A 4) (A 5) (A 6) (A 7) (A 8) (A 9) (A 10) (A 11) (A 12) (A 13) (A 14) (A 15) (A 16) (A 17) (A 18) (A 19) (A 20) qa ql ra (A 21) (A 22) (A 32) (A 23) := by
            intro K HK
            refine nm_r ik ⟨i24, ?_⟩
            rw [ck, e0, im]
            refine ⟨i192, nm_r (e' := upd qa (8 * (3 * s + j) + (Q (3 * s + j)).length) (nI t)) (by rw [cm]) ⟨i24, i24, nm_r (e' := upd ql (3 * s + j) (nI ((Q (3 * s + j)).length + 1))) (by rw [nI_1]) ⟨i8, nm_r (e' := upd (A 15) t (nI (3 * s + j))) (by rw [ct]) ?_⟩⟩⟩
            refine rd_x_waitAs (rd_RX_mk (A := rd_sw A  15 t (nI (3 * s + j))) (rd_XL_enq hx hQ8 (by omega) hlen)) (by omega) wl8 wx8 ?_
            intro u' hu'
            have := HK u' hu'
            obtain ⟨ra1, qa1, ql1, rfl, hx1⟩ := hu'
            exact this
          refine ⟨i8, nm_r (e' := nI p) (by rw [ct]; exact epl) (rd_x_isThere I.vN hs8 (fun _ _ _ => br_f (by decide) (pm (br_t rfl (br_c (fun _ => fin _ ?_) (fun y => ⟨i8, br_f ?_ (fin _ ?_)⟩))))) (fun y => absurd there' y))⟩
          · intro u' hu'
            have := H u' hu'
            obtain ⟨ra1, qa1, ql1, rfl, hx1⟩ := hu'
            exact this
          · rw [ct]
            rcases c85 with z | z
            · exact absurd z y
            · exact z
          · intro u' hu'
            have := H u' hu'
            obtain ⟨ra1, qa1, ql1, rfl, hx1⟩ := hu'
            exact this
        -- the reference up to the end
        have Y2 : ∀ (post : SY → Prop) (ra qa wq am rz ob fr st : Nat → Int32) (bl : Int32) (B : rd_St) (z : Int32), rd_YL 8 n D A w Q ra qa wq am rz ob fr st bl → B = rd_sa (rd_sw (rd_sw A  15 t (nI (3 * s + j)))  4 t 1)  16 (upd (A 16) t z) → ((late = 0 → z = -1) ∧ (late ≠ 0 → z = nI (T + lim))) → (∀ v', rd_RY 8 n (D + 1) B (w.filter (fun x => x != t)) (rd_pq Q (3 * s + j) t) v' → post v') → wpY_step post (rd_tY A (nI w.length) ra qa wq am rz ob fr st bl) (nI t) op a b := by
          intro post ra qa wq am rz ob fr st bl B z hy eB hz H
          have e0 := (hy.y3 (3 * s + j) hk).1
          have hyD := rd_YL_D hy
          refine Y1 post ra qa wq am rz ob fr st bl hy ?_
          have e201 : ∀ (ra' : Nat → Int32), rd_LV ra' 0 (w.filter (fun x => x != t)) → wY_call_201 (fun u => match u with | (f_tasks_1, f_blocks_1, f_readies_1, f_time_1, f_done_1, f_turns_1, f_notes_1, a_length_1, a_ops_1, a_as_1, a_bs_1, a_states_1, a_places_1, a_xs_1, a_limits_1, a_bodies_1, a_ends_1, a_raised_1, a_until_1, a_high_1, a_kinds_1, a_frames_1, a_on_1, a_onBlock_1, a_doomed_1, a_queues_1, a_waiting_1, a_row_1, a_dying_1, a_among_1, a_noteTask_1, a_noteInt_1) => post (f_tasks_1, f_blocks_1, f_readies_1, f_time_1, f_done_1, f_turns_1, f_notes_1, a_length_1, a_ops_1, a_as_1, a_bs_1, a_states_1, a_places_1, a_xs_1, a_limits_1, a_bodies_1, a_ends_1, a_raised_1, a_until_1, a_high_1, a_kinds_1, a_frames_1, a_on_1, a_onBlock_1, a_doomed_1, a_queues_1, a_waiting_1, a_row_1, a_dying_1, a_among_1, a_noteTask_1, a_noteInt_1)) (nI t) (nI s) (nI j) z (nI t) ((rd_sw A  16 t (-1)) 26 0) bl (nI (w.filter (fun x => x != t)).length) ((rd_sw A  16 t (-1)) 27 0) ((rd_sw A  16 t (-1)) 28 0) ((rd_sw A  16 t (-1)) 29 0) ((rd_sw A  16 t (-1)) 25 0) ((rd_sw A  16 t (-1)) 3) ((rd_sw A  16 t (-1)) 0) ((rd_sw A  16 t (-1)) 1) ((rd_sw A  16 t (-1)) 2) (upd st t 1) ((rd_sw A  16 t (-1)) 5) ((rd_sw A  16 t (-1)) 6) ((rd_sw A  16 t (-1)) 11) ((rd_sw A  16 t (-1)) 8) ((rd_sw A  16 t (-1)) 7) rz ((rd_sw A  16 t (-1)) 16) ((rd_sw A  16 t (-1)) 18) ((rd_sw A  16 t (-1)) 19) fr ((rd_sw A  16 t (-1)) 9) ob ((rd_sw A  16 t (-1)) 13) qa wq ra' ((rd_sw A  16 t (-1)) 33) am ((rd_sw A  16 t (-1)) 21) ((rd_sw A  16 t (-1)) 22) := by
            intro ra' gr
            refine ⟨i8, nm_r (e' := upd (A 16) t z) (by rw [ct]; exact rd_uu) (nm_r ik' ⟨i24, ?_⟩)⟩
            rw [ck, e0, im']
            refine ⟨i192, nm_r (e' := upd qa (8 * (3 * s + j) + (Q (3 * s + j)).length) (nI t)) (by rw [cm]) ⟨i24, i24, nm_r (e' := upd wq (3 * s + j) (nI ((Q (3 * s + j)).length + 1))) (by rw [nI_1]) ?_⟩⟩
            subst eB
            exact H _ (rd_RY_mk (A := rd_sa (rd_sw (rd_sw A  15 t (nI (3 * s + j)))  4 t 1)  16 (upd (A 16) t z)) ⟨gr, rd_rng_u hyD.y2 (by omega), rd_y3_enq hyD.y3 hQ8 hk hlen, rd_y4_cd hyD.y4 (Or.inr ⟨k7, k8, k9⟩), hyD.y5, hyD.y6, hyD.y7, rd_y8_cd hyD.y8 (by decide) k9 k8, rd_y9_u hyD.y9 rfl, hyD.y10⟩)
          have e170 : wY_call_170 (fun u => match u with | (f_tasks_1, f_blocks_1, f_readies_1, f_time_1, f_done_1, f_turns_1, f_notes_1, a_length_1, a_ops_1, a_as_1, a_bs_1, a_states_1, a_places_1, a_xs_1, a_limits_1, a_bodies_1, a_ends_1, a_raised_1, a_until_1, a_high_1, a_kinds_1, a_frames_1, a_on_1, a_onBlock_1, a_doomed_1, a_queues_1, a_waiting_1, a_row_1, a_dying_1, a_among_1, a_noteTask_1, a_noteInt_1) => post (f_tasks_1, f_blocks_1, f_readies_1, f_time_1, f_done_1, f_turns_1, f_notes_1, a_length_1, a_ops_1, a_as_1, a_bs_1, a_states_1, a_places_1, a_xs_1, a_limits_1, a_bodies_1, a_ends_1, a_raised_1, a_until_1, a_high_1, a_kinds_1, a_frames_1, a_on_1, a_onBlock_1, a_doomed_1, a_queues_1, a_waiting_1, a_row_1, a_dying_1, a_among_1, a_noteTask_1, a_noteInt_1)) (nI t) (nI s) (nI j) late (A 26 0) bl (nI w.length) (A 27 0) (A 28 0) (A 29 0) (A 25 0) (A 3) (A 0) (A 1) (A 2) st (A 5) (A 6) (A 11) (A 8) (A 7) rz (A 16) (A 18) (A 19) fr (A 9) ob (A 13) qa wq ra (A 33) am (A 21) (A 22) := by
            refine rd_y_rest hy.r (by omega) wl8 wx8 (fun ra' gr => br_c (fun y => ?_) (fun y => ⟨i8, ?_⟩))
            · have := e201 ra' gr
              rw [hz.1 y] at this
              exact this
            · have := e201 ra' gr
              rw [hz.2 y] at this
              have e2 : A 27 0 + A 11 (nI t).toNatClampNeg = nI (T + lim) := by rw [ct, eT, elim, nI_add]
              rw [← e2] at this
              exact this
          refine br_t (by decide) (br_c (fun _ => e170) (fun y => ⟨i8, br_f ?_ e170⟩))
          rw [ct]
          rcases c85 with q | q
          · exact absurd q y
          · exact q
        rcases hl with l0 | l1
        · refine ⟨n, _, _, _, I3, ⟨Nat.le_refl _, rfl, rfl, rfl, rfl, n9' _ rfl, fun y => absurd y (nz _ rfl)⟩, fun y => absurd y (nz _ rfl), ?_, ?_⟩
          · intro post ra qa ql hx H
            refine X2 post ra qa ql hx ?_
            rintro u' ⟨ra1, qa1, ql1, rfl, hx1⟩
            exact br_t l0 ⟨i8, nm_r (e' := A 5) (by rw [ct]; exact rd_ue epl) (H _ (rd_RX_mk hx1))⟩
          · intro post ra qa wq am rz ob fr st bl hy H
            refine Y2 post ra qa wq am rz ob fr st bl _ (-1) hy rfl ⟨fun _ => rfl, fun y => absurd l0 y⟩ ?_
            rw [rd_ue wk1]
            rintro v' ⟨ra1, qa1, wq1, am1, rz1, ob1, fr1, st1, bl1, rfl, hy1⟩
            exact H _ (rd_RY_mk hy1)
        · have c1 : (rd_sw (rd_sw A  15 t (nI (3 * s + j)))  4 t 1) 4 t = 1 := rd_us
          have I4 : rd_Inv n 8 (D + 1) (rd_sw (rd_sw (rd_sw (rd_sw A  15 t (nI (3 * s + j)))  4 t 1)  16 t (nI (T + lim)))  17 t (nI (p + 2))) (w.filter (fun x => x != t)) (rd_pq Q (3 * s + j) t) := rd_i_wake (x := T + lim) I3 (by omega) ⟨p + 2, by omega, rfl⟩ (Or.inl ⟨c1, by
            show nI (p + 2) = A 5 t + 2
            rw [epl]
            exact (nI_add p 2).symm⟩)
          have ln0 : late ≠ 0 := by rw [l1]; decide
          refine ⟨n, _, _, _, I4, ⟨Nat.le_refl _, rfl, rfl, rfl, rfl, n9' _ rfl, fun y => absurd y (nz _ rfl)⟩, fun y => absurd y (nz _ rfl), ?_, ?_⟩
          · intro post ra qa ql hx H
            refine X2 post ra qa ql hx ?_
            rintro u' ⟨ra1, qa1, ql1, rfl, hx1⟩
            refine br_f ln0 ⟨i8, rd_x_wakeAfter (A := rd_sw (rd_sw A  15 t (nI (3 * s + j)))  4 t 1) (by omega) ⟨i8, nm_r (e' := A 5) (by rw [ct]; exact rd_ue epl) ?_⟩⟩
            have e2 : A 27 0 + A 11 (nI t).toNatClampNeg = nI (T + lim) := by rw [ct, eT, elim, nI_add]
            have e3 : nI p + 2 = nI (p + 2) := nI_add p 2
            have H' := H _ (rd_RX_mk hx1)
            rw [← e2, ← e3] at H'
            exact H'
          · intro post ra qa wq am rz ob fr st bl hy H
            refine Y2 post ra qa wq am rz ob fr st bl _ (nI (T + lim)) hy rfl ⟨fun y => absurd y ln0, fun _ => rfl⟩ ?_
            rintro v' ⟨ra1, qa1, wq1, am1, rz1, ob1, fr1, st1, bl1, rfl, hy1⟩
            exact H _ (rd_RY_mk (A := rd_sw (rd_sw (rd_sw (rd_sw A  15 t (nI (3 * s + j)))  4 t 1)  16 t (nI (T + lim)))  17 t (nI (p + 2))) hy1)
      · refine rd_o_ply (q := p + 2) C A (by omega) I ⟨rfl, rfl, rfl, rfl, rfl, rfl, rfl, rfl, rfl, rfl, rfl, rfl, rfl⟩ ?_ ?_
        · intro post ra qa ql _ H
          refine X post ra qa ql ?_
          unfold wpX_doCall
          refine ⟨i8, nm_r (e' := nI p) (by rw [ct]; exact epl) (rd_x_isThere I.vN hs8 (fun _ _ _ => br_f (by decide) (pm (br_t rfl (br_f l1 ⟨i8, br_t (by rw [ct]; exact l0) ⟨i8, nm_r (e' := upd (A 5) t (nI (p + 2))) ?_ H⟩⟩)))) (fun y => absurd there' y))⟩
          have : nI p + 2 = nI (p + 2) := nI_add p 2
          rw [ct, this]
        · intro post ra qa wq am rz ob fr st bl hy H
          refine Y1 post ra qa wq am rz ob fr st bl hy (br_t (by decide) (br_f l1 ⟨i8, br_t (by rw [ct]; exact l0) ⟨i8, i8, nm_r (e' := upd (A 5) t (nI (p + 2))) ?_ H⟩⟩))
          have : nI p + 2 = nI (p + 2) := nI_add p 2
          rw [ct, epl, this]
    · -- the meeting begins
      subst xe
      have st' : s ≠ t := fun y => by
        rw [y, h0] at s34
        exact absurd s34 (by decide)
      have ts : t ≠ s := fun y => st' y.symm
      have q0 : A 4 s ≠ 0 := by rcases s34 with y | y <;> rw [y] <;> decide
      have q1 : A 4 s ≠ 1 := by rcases s34 with y | y <;> rw [y] <;> decide
      have q2 : A 4 s ≠ 2 := by rcases s34 with y | y <;> rw [y] <;> decide
      have q9 : A 4 s ≠ 9 := by rcases s34 with y | y <;> rw [y] <;> decide
      obtain ⟨d, hd, ed⟩ := (I.vE s hs).2 s34
      have I1 : rd_Inv n 8 (D + 1) (rd_sw A  4 t 2) (w.filter (fun x => x != t)) Q := rd_i_wait (s := 2) I ht h0 (by omega) ⟨p, hp20, epl⟩ hp (fun y => absurd y (by decide)) (fun y => absurd y (by decide))
      have ewk : rd_sw (rd_sw A  4 t 2)  16 t (-1) = rd_sw A  4 t 2 := rd_sw_eq (A := rd_sw A  4 t 2) (k :=  16) wk1
      have efq : rd_fq Q t = Q := rd_fq_no nq
      have I1' : rd_Inv n 8 (D + 1) (rd_sw (rd_sw A  4 t 2)  16 t (-1)) (w.filter (fun x => x != t)) (rd_fq Q t) := by
        rw [ewk, efq]; exact I1
      have c2s : (rd_sw (rd_sw A  4 t 2)  16 t (-1)) 4 s = A 4 s := rd_un st'
      have I2 := rd_i_ready I1' hs (by rw [c2s]; exact q0) (by rw [c2s]; exact s8) (by rw [efq]; exact rd_vQ_no I.vQ q1) (rd_nf_of hn I.vF hs q2)
      have z0 : (rd_ready (rd_sw (rd_sw A  4 t 2)  16 t (-1)) s) 4 s = 0 := rd_us
      have z2 : (rd_ready (rd_sw (rd_sw A  4 t 2)  16 t (-1)) s) 4 t = 2 := (rd_un ts).trans rd_us
      have I3 := rd_i_push (k := 1) (v := nI t) I2 hs ed hd ⟨by rw [z0]; decide, by rw [z0]; decide, by rw [z0]; decide, by rw [z0]; decide, by rw [z0]; decide⟩ (Or.inr (Or.inl ⟨rfl, t, ht, rfl, z2, rd_nf_of hn I.vF ht (by rw [h0]; decide : A 4 t ≠ 2)⟩))
      have I4 := rd_i_xs (t := s) (x := A 6 t) I3
      have I5 : rd_Inv n 8 (D + 1) (rd_ready (rd_sw (rd_mt A s t d)  5 s (nI q)) s) (w.filter (fun x => x != t) ++ [s]) (rd_fq Q t) := rd_i_pl (t := s) (p := q) I4 hs hq (Or.inl z0)
      rw [efq] at I5
      have wl1 : (w.filter (fun x => x != t)).length < 8 := Nat.lt_of_lt_of_le (rd_wlen' I1 hs (show (rd_sw A  4 t 2) 4 s ≠ 0 from (by rw [show (rd_sw A  4 t 2) 4 s = A 4 s from rd_un st']; exact q0))) hn
      have nz : (rd_ready (rd_sw (rd_mt A s t d)  5 s (nI q)) s) 4 t ≠ 0 := by
        have : (rd_ready (rd_sw (rd_mt A s t d)  5 s (nI q)) s) 4 t = 2 := (rd_un ts).trans rd_us
        rw [this]; decide
      refine ⟨n, _, _, Q, I5, ⟨Nat.le_refl _, rfl, rfl, rfl, rfl, fun r hr y => ?_, fun y => absurd y nz⟩, fun y => absurd y nz, ?_, ?_⟩
      · have y : upd (upd (A 4) t 2) s 0 r = 9 := y
        by_cases z : r = s
        · rw [z, rd_us] at y; exact absurd y (by decide)
        · rw [rd_un z] at y
          by_cases z' : r = t
          · rw [z', rd_us] at y; exact absurd y (by decide)
          · rw [rd_un z'] at y; exact n9 r hr y
      · intro post ra qa ql hx H
        refine X post ra qa ql ?_
        unfold wpX_doCall
        refine ⟨i8, nm_r (e' := nI p) (by rw [ct]; exact epl) (rd_x_isThere I.vN hs8 (fun _ _ _ => br_f (by decide) (pm (br_f (rd_nm (by omega)) (rd_x_waitAs (rd_RX_mk hx) (by omega) wl8 wx8 ?_)))) (fun y => absurd there' y))⟩
        rintro u' ⟨ra1, qa1, ql1, rfl, hx1⟩
        refine rd_x_beginMeeting (A := rd_sw A  4 t 2) hs8 (by omega) ed hd ?_
        rw [rd_mt_cd]
        refine ⟨i8s, nm_r (e' := upd (A 5) s (nI q)) (by rw [cs]; rfl) ?_⟩
        refine rd_x_makeReady (rd_RX_mk (A := rd_sw (rd_mt A s t d)  5 s (nI q)) hx1) hs8 wl1 ?_
        rintro u' ⟨ra2, qa2, ql2, rfl, hx2⟩
        exact ⟨i8, nm_r (e' := upd (A 5) s (nI q)) (by rw [ct]; exact rd_ue ((rd_un ts).trans epl)) (H _ (rd_RX_mk hx2))⟩
      · intro post ra qa wq am rz ob fr st bl hy H
        refine Y1 post ra qa wq am rz ob fr st bl hy (br_f (nI_pos (by omega)) ?_)
        refine rd_y_meet I I1' hy (by omega) hs ht k7 k8 k9 ed hd (fun ra' qa' wq' hy2 => ?_)
        have cs' : (rd_sw (rd_mt A s t d)  5 s (nI q)) 4 s = A 4 s := rd_un st'
        refine rd_y_wake (rd_RY_mk hy2) hn hs wl1 (by rw [cs']; exact s7) (by rw [cs']; exact s8) (by rw [cs']; exact q9) ?_
        rw [efq]
        rintro v' ⟨ra1, qa1, wq1, am1, rz1, ob1, fr1, st1, bl1, rfl, hy1⟩
        exact H _ (rd_RY_mk hy1)
  · refine Or.inr (rd_mkO2y C 11 (by omega) (by omega) ?_ ?_)
    · intro post ra qa ql _ H
      refine X post ra qa ql ?_
      unfold wpX_doCall
      exact ⟨i8, nm_r (e' := nI p) (by rw [ct]; exact epl) (rd_x_isThere I.vN hs8 (fun a1 a2 a3 => absurd ⟨a1, a2, a3⟩ there) (fun _ => br_t rfl H))⟩
    · intro post ra qa wq am rz ob fr st bl hy H
      refine Y post ra qa wq am rz ob fr st bl ?_
      have P : wY_call_30 (fun u => match u with | (f_tasks_1, f_blocks_1, f_readies_1, f_time_1, f_done_1, f_turns_1, f_notes_1, a_length_1, a_ops_1, a_as_1, a_bs_1, a_states_1, a_places_1, a_xs_1, a_limits_1, a_bodies_1, a_ends_1, a_raised_1, a_until_1, a_high_1, a_kinds_1, a_frames_1, a_on_1, a_onBlock_1, a_doomed_1, a_queues_1, a_waiting_1, a_row_1, a_dying_1, a_among_1, a_noteTask_1, a_noteInt_1) => post (f_tasks_1, f_blocks_1, f_readies_1, f_time_1, f_done_1, f_turns_1, f_notes_1, a_length_1, a_ops_1, a_as_1, a_bs_1, a_states_1, a_places_1, a_xs_1, a_limits_1, a_bodies_1, a_ends_1, a_raised_1, a_until_1, a_high_1, a_kinds_1, a_frames_1, a_on_1, a_onBlock_1, a_doomed_1, a_queues_1, a_waiting_1, a_row_1, a_dying_1, a_among_1, a_noteTask_1, a_noteInt_1)) (nI t) (A 26 0) bl (nI w.length) (A 27 0) (A 28 0) (A 29 0) (A 25 0) (A 3) (A 0) (A 1) (A 2) st (A 5) (A 6) (A 11) (A 8) (A 7) rz (A 16) (A 18) (A 19) fr (A 9) ob (A 13) qa wq ra (A 33) am (A 21) (A 22) := H
      unfold wpY_call
      by_cases hs : s < n
      · refine br_f (by rw [I.vN.1]; exact nI_ge hs (by omega)) ⟨i8s, ?_⟩
        rw [cs, hy.y9 s]
        by_cases h7 : A 4 s = 7
        · exact br_t (by rw [h7]; rfl) P
        · refine br_f (fun y => h7 ((rd_cv_eq (by decide) (by decide)).mp y)) ⟨i8s, ?_⟩
          by_cases h8 : A 4 s = 8
          · exact br_t (by rw [h8]; rfl) P
          · exact absurd ⟨hs, h7, h8⟩ there
      · exact br_t (by rw [I.vN.1]; exact nI_le (by omega) (by omega)) P
theorem rd_op9 {s j : Nat} (C : rd_C n D t p b' A w Q) (hp20 : p < 20) (hs : s < 8) (hj : j < 3) (ea : a = nI s) (eb : b = nI j) : rd_O1 n D t p 9 a b a b A w Q ∨ rd_O2 n D t p 9 a b a b A w Q := by
  obtain ⟨I, ht, h0, hp, n9, epl, hpl, ebo, hbo, hD, hT, hN⟩ := id C
  have hn := I.vN.2
  have ct : (nI t).toNatClampNeg = t := nI_clamp (by omega)
  have i8 : vp_in (nI t) 8 := vp_in_nI (by omega) (by omega)
  obtain ⟨d, hd, ed, _⟩ := rd_dpos I ht
  subst ea
  subst eb
  refine rd_o_call (late := 0) C hp20 hs hj (Or.inl rfl) ?_ ?_
  · intro post ra qa ql H
    exact br_f (by decide) <| br_f (by decide) <| br_f (by decide) <| br_f (by decide) <| br_f (by decide) <| br_f (by decide) <| br_f (by decide) <| br_f (by decide) <| br_f (by decide) <| br_f (by decide) <| br_f (by decide) <| br_t rfl <| H
  · intro post ra qa wq am rz ob fr st bl H
    refine rd_y_st (d := d) (by omega) epl ed hd (by decide) (by decide) (by decide) (by decide) (by decide) (Or.inr (by decide)) ?_
    exact br_f (by decide) <| br_f (by decide) <| br_f (by decide) <| br_f (by decide) <| br_f (by decide) <| br_f (by decide) <| br_f (by decide) <| br_t rfl <| ⟨i8, nm_r (e' := A 5) (by rw [ct]; exact rd_ue epl) (br_f (by decide) H)⟩
theorem rd_op11 {s j : Nat} (C : rd_C n D t p b' A w Q) (hp20 : p < 20) (hs : s < 8) (hj : j < 3) (ea : a = nI s) (eb : b = nI j) : rd_O1 n D t p 11 a b a b A w Q ∨ rd_O2 n D t p 11 a b a b A w Q := by
  obtain ⟨I, ht, h0, hp, n9, epl, hpl, ebo, hbo, hD, hT, hN⟩ := id C
  have hn := I.vN.2
  have ct : (nI t).toNatClampNeg = t := nI_clamp (by omega)
  have i8 : vp_in (nI t) 8 := vp_in_nI (by omega) (by omega)
  obtain ⟨d, hd, ed, _⟩ := rd_dpos I ht
  subst ea
  subst eb
  refine rd_o_call (late := 1) C hp20 hs hj (Or.inr rfl) ?_ ?_
  · intro post ra qa ql H
    exact br_f (by decide) <| br_f (by decide) <| br_f (by decide) <| br_f (by decide) <| br_f (by decide) <| br_f (by decide) <| br_f (by decide) <| br_f (by decide) <| br_f (by decide) <| br_f (by decide) <| br_f (by decide) <| br_f (by decide) <| br_f (by decide) <| br_t rfl <| H
  · intro post ra qa wq am rz ob fr st bl H
    refine rd_y_st (d := d) (by omega) epl ed hd (by decide) (by decide) (by decide) (by decide) (by decide) (Or.inr (by decide)) ?_
    exact br_f (by decide) <| br_f (by decide) <| br_f (by decide) <| br_f (by decide) <| br_f (by decide) <| br_f (by decide) <| br_f (by decide) <| br_f (by decide) <| br_f (by decide) <| br_t rfl <| ⟨i8, nm_r (e' := A 5) (by rw [ct]; exact rd_ue epl) (br_t rfl H)⟩
end
