/-! what an instruction does, on both sides -/
def rd_G (n m t : Nat) (A B : rd_St) (w x : List Nat) : Prop := n ≤ m ∧ B 28 = A 28 ∧ B 30 = A 30 ∧ B 31 = A 31 ∧ B 29 = A 29 ∧ (∀ s, s < m → B 4 s ≠ 9) ∧ (B 4 t = 0 → (w.head? = some t → x.head? = some t))
def rd_PX (t p : Nat) (op a b : Int32) (A B : rd_St) (w x : List Nat) (Q R : Nat → List Nat) : Prop := ∀ (post : SX → Prop) (ra qa ql : Nat → Int32), rd_XL w Q ra qa ql → (∀ u', rd_RX B x R u' → post u') → wX_perform_119 post (nI t) (nI (p + 1)) op a b (nI w.length) (A 25 0) (A 26 0) (A 27 0) (A 28 0) (A 29 0) (A 30 0) (A 31 0) (A 0) (A 1) (A 2) (A 3) (A 4) (A 5) (A 6) (A 7) (A 8) (A 9) (A 10) (A 11) (A 12) (A 13) (A 14) (A 15) (A 16) (A 17) (A 18) (A 19) (A 20) qa ql ra (A 21) (A 22) (A 32) (A 23)
def rd_PY (n D m t : Nat) (op a b : Int32) (A B : rd_St) (w x : List Nat) (Q R : Nat → List Nat) : Prop := ∀ (post : SY → Prop) (ra qa wq am rz ob fr st : Nat → Int32) (bl : Int32), rd_YL 8 n D A w Q ra qa wq am rz ob fr st bl → (∀ v', rd_RY 8 m (D + 1) B x R v' → post v') → wpY_step post (rd_tY A (nI w.length) ra qa wq am rz ob fr st bl) (nI t) op a b
def rd_O1 (n D t p : Nat) (op a b a' b' : Int32) (A : rd_St) (w : List Nat) (Q : Nat → List Nat) : Prop := ∃ m B x R, rd_Inv m 8 (D + 1) B x R ∧ rd_G n m t A B w x ∧ (B 4 t = 0 → B 12 t = 0) ∧ rd_PX t p op a b A B w x Q R ∧ rd_PY n D m t op a' b' A B w x Q R
def rd_O2 (n D t p : Nat) (op a b a' b' : Int32) (A : rd_St) (w : List Nat) (Q : Nat → List Nat) : Prop := ∃ c B x R, 0 < c ∧ c ≤ 14 ∧ rd_Inv n 8 (D + 1) (rd_sw A  12 t (nI c)) w Q ∧ rd_Inv n 8 (D + 1) B x R ∧ rd_RS n t (rd_sw A  12 t (nI c)) B w x ∧ rd_PX t p op a b A (rd_sw A  12 t (nI c)) w w Q Q ∧ (∀ (post : SX → Prop) (u : SX), rd_RX (rd_sw A  12 t (nI c)) w Q u → (∀ u', rd_RX B x R u' → post u') → wpX_raise post u (nI t)) ∧ rd_PY n D n t op a' b' A B w x Q R
def rd_C (n D t p b : Nat) (A : rd_St) (w : List Nat) (Q : Nat → List Nat) : Prop := rd_Inv n 8 (D + 1) A w Q ∧ t < n ∧ A 4 t = 0 ∧ A 12 t = 0 ∧ (∀ s, s < n → A 4 s ≠ 9) ∧ A 5 t = nI p ∧ p ≤ 21 ∧ A 8 t = nI b ∧ b < 4 ∧ D < 500 ∧ (∃ T, T ≤ 99 * D ∧ A 27 0 = nI T) ∧ (∃ c, c ≤ D ∧ A 25 0 = nI c)
theorem rd_Gr {n t : Nat} {A B : rd_St} {w : List Nat} (h1 : B 28 = A 28) (h2 : B 30 = A 30) (h3 : B 31 = A 31) (h4 : B 29 = A 29) (h5 : ∀ s, s < n → B 4 s ≠ 9) : rd_G n n t A B w w := ⟨Nat.le_refl _, h1, h2, h3, h4, h5, fun _ => id⟩
theorem rd_mkO2y {n D t p b' : Nat} {op a b c' e' : Int32} {A : rd_St} {w : List Nat} {Q : Nat → List Nat} (C : rd_C n D t p b' A w Q) (c : Nat) (hc0 : 0 < c) (hc : c ≤ 14) (X : ∀ (post : SX → Prop) (ra qa ql : Nat → Int32), rd_XL w Q ra qa ql → (wpX_fail (fun r u => match u with | (f_rowLength_1, f_noteCount_1, f_tasks_1, f_time_1, f_done_1, f_turns_1, f_doneInTurn_1, f_inTurn_1, a_ops_1, a_firsts_1, a_seconds_1, a_lengths_1, a_condition_1, a_place_1, a_xs_1, a_ended_1, a_bodyOf_1, a_master_1, a_masterBlock_1, a_limits_1, a_pending_1, a_doomed_1, a_terminable_1, a_calledQueue_1, a_wakeTime_1, a_wakePlace_1, a_depth_1, a_frameKind_1, a_frameValue_1, a_queue_1, a_queueLength_1, a_row_1, a_noteTask_1, a_noteValue_1, a_fallen_1, a_chosen_1) => (vp_in (nI t) 8 ∧ ∀ y, y = upd a_place_1 (nI t).toNatClampNeg r → post (f_rowLength_1, f_noteCount_1, f_tasks_1, f_time_1, f_done_1, f_turns_1, f_doneInTurn_1, f_inTurn_1, a_ops_1, a_firsts_1, a_seconds_1, a_lengths_1, a_condition_1, y, a_xs_1, a_ended_1, a_bodyOf_1, a_master_1, a_masterBlock_1, a_limits_1, a_pending_1, a_doomed_1, a_terminable_1, a_calledQueue_1, a_wakeTime_1, a_wakePlace_1, a_depth_1, a_frameKind_1, a_frameValue_1, a_queue_1, a_queueLength_1, a_row_1, a_noteTask_1, a_noteValue_1, a_fallen_1, a_chosen_1))) (rd_tX A (nI w.length) ra qa ql) (nI t) (nI c)) → wX_perform_119 post (nI t) (nI (p + 1)) op a b (nI w.length) (A 25 0) (A 26 0) (A 27 0) (A 28 0) (A 29 0) (A 30 0) (A 31 0) (A 0) (A 1) (A 2) (A 3) (A 4) (A 5) (A 6) (A 7) (A 8) (A 9) (A 10) (A 11) (A 12) (A 13) (A 14) (A 15) (A 16) (A 17) (A 18) (A 19) (A 20) qa ql ra (A 21) (A 22) (A 32) (A 23)) (Y : ∀ (post : SY → Prop) (ra qa wq am rz ob fr st : Nat → Int32) (bl : Int32), rd_YL 8 n D A w Q ra qa wq am rz ob fr st bl → wpY_raise (fun u => match u with | (f_tasks_1, f_blocks_1, f_readies_1, f_time_1, f_done_1, f_turns_1, f_notes_1, a_length_1, a_ops_1, a_as_1, a_bs_1, a_states_1, a_places_1, a_xs_1, a_limits_1, a_bodies_1, a_ends_1, a_raised_1, a_until_1, a_high_1, a_kinds_1, a_frames_1, a_on_1, a_onBlock_1, a_doomed_1, a_queues_1, a_waiting_1, a_row_1, a_dying_1, a_among_1, a_noteTask_1, a_noteInt_1) => post (f_tasks_1, f_blocks_1, f_readies_1, f_time_1, f_done_1, f_turns_1, f_notes_1, a_length_1, a_ops_1, a_as_1, a_bs_1, a_states_1, a_places_1, a_xs_1, a_limits_1, a_bodies_1, a_ends_1, a_raised_1, a_until_1, a_high_1, a_kinds_1, a_frames_1, a_on_1, a_onBlock_1, a_doomed_1, a_queues_1, a_waiting_1, a_row_1, a_dying_1, a_among_1, a_noteTask_1, a_noteInt_1)) (rd_tY A (nI w.length) ra qa wq am rz ob fr st bl) (nI t) (nI c) → wpY_step post (rd_tY A (nI w.length) ra qa wq am rz ob fr st bl) (nI t) op c' e') : rd_O2 n D t p op a b c' e' A w Q := by
  obtain ⟨I, ht, h0, hp, n9, epl, hpl, ebo, hbo, hD, hT, hN⟩ := C
  have hn := I.vN.2
  have ct : (nI t).toNatClampNeg = t := nI_clamp (by omega)
  have i8 : vp_in (nI t) 8 := vp_in_nI (by omega) (by omega)
  have I' := rd_i_pe (c := c) I ht hc (Or.inl h0)
  obtain ⟨B, x, R, J, S, X1, Y1⟩ := rd_raise hc0 hc I' ht h0 rd_us n9
  refine ⟨c, B, x, R, hc0, hc, I', J, S, ?_, X1, ?_⟩
  · intro post ra qa ql hx H
    refine X post ra qa ql hx (rd_x_fail (by omega) ⟨i8, nm_r (e' := A 5) (by rw [ct]; exact rd_ue rfl) ?_⟩)
    exact H _ (rd_RX_mk (A := rd_sw A  12 t (nI c)) hx)
  · intro post ra qa wq am rz ob fr st bl hy H
    refine Y post ra qa wq am rz ob fr st bl hy ?_
    have hy1 := rd_YL_D hy
    refine Y1 _ ra qa wq am rz ob fr st bl ⟨t, Or.inl rfl, hy1.r, hy1.y2, hy1.y3, ?_, hy1.y5, hy1.y6, hy1.y7, hy1.y8, hy1.y9, hy1.y10⟩ ?_
    · intro u hu a' b' c'
      show rz u = if u = t then 0 else upd (A 12) t (nI c) u
      have z := rd_y4_n hy1.y4 hu (by omega) a' b' c'
      by_cases e : u = t
      · rw [if_pos e, z, e]; exact hp
      · rw [if_neg e, rd_un e]; exact z
    · rintro v' ⟨ra1, qa1, wq1, am1, rz1, ob1, fr1, st1, bl1, rfl, hy2⟩
      exact H _ (rd_RY_mk hy2)
theorem rd_mkO2 {n D t p b' : Nat} {op a b c' e' : Int32} {A : rd_St} {w : List Nat} {Q : Nat → List Nat} (C : rd_C n D t p b' A w Q) (c : Nat) (hc0 : 0 < c) (hc : c ≤ 14) (X : ∀ (post : SX → Prop) (ra qa ql : Nat → Int32), (wpX_fail (fun r u => match u with | (f_rowLength_1, f_noteCount_1, f_tasks_1, f_time_1, f_done_1, f_turns_1, f_doneInTurn_1, f_inTurn_1, a_ops_1, a_firsts_1, a_seconds_1, a_lengths_1, a_condition_1, a_place_1, a_xs_1, a_ended_1, a_bodyOf_1, a_master_1, a_masterBlock_1, a_limits_1, a_pending_1, a_doomed_1, a_terminable_1, a_calledQueue_1, a_wakeTime_1, a_wakePlace_1, a_depth_1, a_frameKind_1, a_frameValue_1, a_queue_1, a_queueLength_1, a_row_1, a_noteTask_1, a_noteValue_1, a_fallen_1, a_chosen_1) => (vp_in (nI t) 8 ∧ ∀ y, y = upd a_place_1 (nI t).toNatClampNeg r → post (f_rowLength_1, f_noteCount_1, f_tasks_1, f_time_1, f_done_1, f_turns_1, f_doneInTurn_1, f_inTurn_1, a_ops_1, a_firsts_1, a_seconds_1, a_lengths_1, a_condition_1, y, a_xs_1, a_ended_1, a_bodyOf_1, a_master_1, a_masterBlock_1, a_limits_1, a_pending_1, a_doomed_1, a_terminable_1, a_calledQueue_1, a_wakeTime_1, a_wakePlace_1, a_depth_1, a_frameKind_1, a_frameValue_1, a_queue_1, a_queueLength_1, a_row_1, a_noteTask_1, a_noteValue_1, a_fallen_1, a_chosen_1))) (rd_tX A (nI w.length) ra qa ql) (nI t) (nI c)) → wX_perform_119 post (nI t) (nI (p + 1)) op a b (nI w.length) (A 25 0) (A 26 0) (A 27 0) (A 28 0) (A 29 0) (A 30 0) (A 31 0) (A 0) (A 1) (A 2) (A 3) (A 4) (A 5) (A 6) (A 7) (A 8) (A 9) (A 10) (A 11) (A 12) (A 13) (A 14) (A 15) (A 16) (A 17) (A 18) (A 19) (A 20) qa ql ra (A 21) (A 22) (A 32) (A 23)) (Y : ∀ (post : SY → Prop) (ra qa wq am rz ob fr st : Nat → Int32) (bl : Int32), wpY_raise (fun u => match u with | (f_tasks_1, f_blocks_1, f_readies_1, f_time_1, f_done_1, f_turns_1, f_notes_1, a_length_1, a_ops_1, a_as_1, a_bs_1, a_states_1, a_places_1, a_xs_1, a_limits_1, a_bodies_1, a_ends_1, a_raised_1, a_until_1, a_high_1, a_kinds_1, a_frames_1, a_on_1, a_onBlock_1, a_doomed_1, a_queues_1, a_waiting_1, a_row_1, a_dying_1, a_among_1, a_noteTask_1, a_noteInt_1) => post (f_tasks_1, f_blocks_1, f_readies_1, f_time_1, f_done_1, f_turns_1, f_notes_1, a_length_1, a_ops_1, a_as_1, a_bs_1, a_states_1, a_places_1, a_xs_1, a_limits_1, a_bodies_1, a_ends_1, a_raised_1, a_until_1, a_high_1, a_kinds_1, a_frames_1, a_on_1, a_onBlock_1, a_doomed_1, a_queues_1, a_waiting_1, a_row_1, a_dying_1, a_among_1, a_noteTask_1, a_noteInt_1)) (rd_tY A (nI w.length) ra qa wq am rz ob fr st bl) (nI t) (nI c) → wpY_step post (rd_tY A (nI w.length) ra qa wq am rz ob fr st bl) (nI t) op c' e') : rd_O2 n D t p op a b c' e' A w Q :=
  rd_mkO2y C c hc0 hc (fun post ra qa ql _ H => X post ra qa ql H) (fun post ra qa wq am rz ob fr st bl _ H => Y post ra qa wq am rz ob fr st bl H)
section
variable {post : SY → Prop} {A : rd_St} {rl : Int32} {ra qa wq am rz ob fr st : Nat → Int32} {bl : Int32} {t p d : Nat} {op a b : Int32}
theorem rd_y_st127 (hf : d < 8 ∨ (op ≠ 7 ∧ op ≠ 13 ∧ op ≠ 15 ∧ op ≠ 22)) (z : Int32) (hz : z = 1 → d = 8) (P : wY_step_127 post (nI t) op a b (nI p) 0 (A 26 0) bl rl (A 27 0) (A 28 0) (A 29 0) (A 25 0) (A 3) (A 0) (A 1) (A 2) st (A 5) (A 6) (A 11) (A 8) (A 7) rz (A 16) (A 18) (A 19) fr (A 9) ob (A 13) qa wq ra (A 33) am (A 21) (A 22)) (hz' : z = 0 ∨ z = 1) : wY_step_91 post (nI t) op a b (nI p) z 0 (A 26 0) bl rl (A 27 0) (A 28 0) (A 29 0) (A 25 0) (A 3) (A 0) (A 1) (A 2) st (A 5) (A 6) (A 11) (A 8) (A 7) rz (A 16) (A 18) (A 19) fr (A 9) ob (A 13) qa wq ra (A 33) am (A 21) (A 22) := by
  rcases hz' with e | e
  · subst e
    exact br_t rfl (br_t rfl P)
  · subst e
    have := hz rfl
    rcases hf with q | ⟨q1, q2, q3, q4⟩
    · omega
    · exact br_t rfl (br_f (by decide) (br_f q1 (br_f q2 (br_f q3 (br_f q4 P)))))
/-- the way of the reference's step to its switch -/
theorem rd_y_st (ht : t < 8) (hp : A 5 t = nI p) (hd : A 18 t = nI d) (h8 : d ≤ 8) (k8 : op ≠ 8) (k14 : op ≠ 14) (k23 : op ≠ 23) (k25 : op ≠ 25) (k6 : op ≠ 6) (hf : d < 8 ∨ (op ≠ 7 ∧ op ≠ 13 ∧ op ≠ 15 ∧ op ≠ 22)) (P : wY_step_160 post (nI t) op a b (nI p) (A 26 0) bl rl (A 27 0) (A 28 0) (A 29 0) (A 25 0) (A 3) (A 0) (A 1) (A 2) st (A 5) (A 6) (A 11) (A 8) (A 7) rz (A 16) (A 18) (A 19) fr (A 9) ob (A 13) qa wq ra (A 33) am (A 21) (A 22)) : wpY_step post (rd_tY A rl ra qa wq am rz ob fr st bl) (nI t) op a b := by
  have ct : (nI t).toNatClampNeg = t := nI_clamp (by omega)
  have i8 : vp_in (nI t) 8 := vp_in_nI (by omega) (by omega)
  have G : ∀ z : Int32, (z = 0 ∨ z = 1) → (z = 1 → d = 8) → wY_step_24 post (nI t) op a b (nI p) z (A 26 0) bl rl (A 27 0) (A 28 0) (A 29 0) (A 25 0) (A 3) (A 0) (A 1) (A 2) st (A 5) (A 6) (A 11) (A 8) (A 7) rz (A 16) (A 18) (A 19) fr (A 9) ob (A 13) qa wq ra (A 33) am (A 21) (A 22) := fun z h1 h2 =>
    br_f k8 (br_f k14 (br_f k23 (br_f k25 (rd_y_st127 hf z h2 (br_f k6 P) h1))))
  unfold wpY_step
  refine ⟨i8, nm_r (e' := nI p) (by rw [ct]; exact hp) ⟨i8, br_c (fun z => G 1 (Or.inr rfl) (fun _ => ?_)) (fun _ => G 0 (Or.inl rfl) (fun y => absurd y (by decide)))⟩⟩
  rw [ct, hd] at z
  exact rd_inj (by omega) (by omega) z
/-- a frame too many -/
theorem rd_y_stf (ht : t < 8) (hp : A 5 t = nI p) (hd : A 18 t = nI 8) (k8 : op ≠ 8) (k14 : op ≠ 14) (k23 : op ≠ 23) (k25 : op ≠ 25) (hf : op = 7 ∨ op = 13 ∨ op = 15 ∨ op = 22) (P : wpY_raise (fun u => match u with | (f_tasks_1, f_blocks_1, f_readies_1, f_time_1, f_done_1, f_turns_1, f_notes_1, a_length_1, a_ops_1, a_as_1, a_bs_1, a_states_1, a_places_1, a_xs_1, a_limits_1, a_bodies_1, a_ends_1, a_raised_1, a_until_1, a_high_1, a_kinds_1, a_frames_1, a_on_1, a_onBlock_1, a_doomed_1, a_queues_1, a_waiting_1, a_row_1, a_dying_1, a_among_1, a_noteTask_1, a_noteInt_1) => post (f_tasks_1, f_blocks_1, f_readies_1, f_time_1, f_done_1, f_turns_1, f_notes_1, a_length_1, a_ops_1, a_as_1, a_bs_1, a_states_1, a_places_1, a_xs_1, a_limits_1, a_bodies_1, a_ends_1, a_raised_1, a_until_1, a_high_1, a_kinds_1, a_frames_1, a_on_1, a_onBlock_1, a_doomed_1, a_queues_1, a_waiting_1, a_row_1, a_dying_1, a_among_1, a_noteTask_1, a_noteInt_1)) (rd_tY A rl ra qa wq am rz ob fr st bl) (nI t) (nI 13)) : wpY_step post (rd_tY A rl ra qa wq am rz ob fr st bl) (nI t) op a b := by
  have ct : (nI t).toNatClampNeg = t := nI_clamp (by omega)
  have i8 : vp_in (nI t) 8 := vp_in_nI (by omega) (by omega)
  have P' : wY_step_142 post (nI t) 0 (A 26 0) bl rl (A 27 0) (A 28 0) (A 29 0) (A 25 0) (A 3) (A 0) (A 1) (A 2) st (A 5) (A 6) (A 11) (A 8) (A 7) rz (A 16) (A 18) (A 19) fr (A 9) ob (A 13) qa wq ra (A 33) am (A 21) (A 22) := br_t rfl P
  unfold wpY_step
  refine ⟨i8, nm_r (e' := nI p) (by rw [ct]; exact hp) ⟨i8, br_t (by rw [ct, hd]; rfl) (br_f k8 (br_f k14 (br_f k23 (br_f k25 (br_t rfl (br_f (by decide) (br_c (fun _ => P') (fun q7 => br_c (fun _ => P') (fun q13 => br_c (fun _ => P') (fun q15 => br_c (fun _ => P') (fun q22 => ?_)))))))))))⟩⟩
  rcases hf with e | e | e | e
  · exact absurd e q7
  · exact absurd e q13
  · exact absurd e q15
  · exact absurd e q22
end
