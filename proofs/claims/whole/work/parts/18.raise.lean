/-! raising -/
def rd_stx (A B : rd_St) : Prop := ∀ k, k ≠  4 → k ≠  5 → k ≠  7 → k ≠  10 → k ≠  12 → k ≠  16 → k ≠  18 → k ≠  32 → k ≠  33 → k ≠  6 → B k = A k
theorem rd_stx_of {A B : rd_St} (h : rd_stw A B) : rd_stx A B := fun k a b c d e f i j l _ => h k a b c d e f i j l
theorem rd_stx_tr {A B C : rd_St} (h : rd_stx A B) (g : rd_stx B C) : rd_stx A C := fun k a b c d e f i j l m => (g k a b c d e f i j l m).trans (h k a b c d e f i j l m)
theorem rd_stx_sw {A : rd_St} {k i : Nat} {v : Int32} (h : k =  4 ∨ k =  5 ∨ k =  7 ∨ k =  10 ∨ k =  12 ∨ k =  16 ∨ k =  18 ∨ k =  6) : rd_stx A (rd_sw A k i v) := by
  intro j a b c d e f' g l m o
  rw [rd_sw_ap, if_neg]
  omega
def rd_RS (n t : Nat) (A B : rd_St) (w x : List Nat) : Prop := rd_stx A B ∧ rd_ph n B < rd_ph n A ∧ (∀ s, s < n → B 4 s ≠ 9) ∧ (B 4 t = 0 → B 12 t = 0 ∧ (w.head? = some t → x.head? = some t))
theorem rd_RS_tr {n t : Nat} {A B C : rd_St} {w x y : List Nat} (h1 : rd_stx A B) (h2 : rd_wl n A B) (h3 : w.head? = some t → x.head? = some t) (g : rd_RS n t B C x y) : rd_RS n t A C w y :=
  ⟨rd_stx_tr h1 g.1, Nat.lt_of_lt_of_le g.2.1 (rd_ph_le h2), g.2.2.1, fun z => ⟨(g.2.2.2 z).1, fun q => (g.2.2.2 z).2 (h3 q)⟩⟩
def rd_rX (t c : Nat) (A B : rd_St) (w x : List Nat) (Q R : Nat → List Nat) (d : Nat) : Prop := ∀ (post : SX → Prop) (ra qa ql : Nat → Int32) (i f : Nat), i + d ≤ 8 → d < f → rd_XL w Q ra qa ql → (∀ u', rd_RX B x R u' → post u') → wX_raise_9 post (nI t) (nI c) f (nI i) (nI w.length) (A 25 0) (A 26 0) (A 27 0) (A 28 0) (A 29 0) (A 30 0) (A 31 0) (A 0) (A 1) (A 2) (A 3) (A 4) (A 5) (A 6) (A 7) (A 8) (A 9) (A 10) (A 11) (A 12) (A 13) (A 14) (A 15) (A 16) (A 17) (A 18) (A 19) (A 20) qa ql ra (A 21) (A 22) (A 32) (A 23)
def rd_rY (n D t c : Nat) (A B : rd_St) (w x : List Nat) (Q R : Nat → List Nat) (d : Nat) : Prop := ∀ (post : SY → Prop) (ra qa wq am rz ob fr st : Nat → Int32) (bl : Int32) (f : Nat), d < f → rd_YL t n D A w Q ra qa wq am rz ob fr st bl → (∀ v', rd_RY 8 n D B x R v' → post v') → wY_raise_7 post (nI t) (nI c) f (A 26 0) bl (nI w.length) (A 27 0) (A 28 0) (A 29 0) (A 25 0) (A 3) (A 0) (A 1) (A 2) st (A 5) (A 6) (A 11) (A 8) (A 7) rz (A 16) (A 18) (A 19) fr (A 9) ob (A 13) qa wq ra (A 33) am (A 21) (A 22)
theorem rd_y4_8 {n t : Nat} {cd pe rz : Nat → Int32} {v : Int32} (hn : n ≤ 8) (h : rd_y4 t n cd pe rz) (hv : pe t = v) : rd_y4 8 n cd pe (upd rz t v) := by
  intro u hu a b c
  rw [if_neg (by omega)]
  by_cases e : u = t
  · rw [e, rd_us]; exact hv.symm
  · rw [rd_un e]; exact rd_y4_n h hu e a b c
section
variable {n D t c : Nat} {A : rd_St} {w : List Nat} {Q : Nat → List Nat} {d : Nat}
/-- what the component asks at a frame -/
theorem rd_rx_hd (hn : n ≤ 8) (ht : t < n) (hd : A 18 t = nI (d + 1)) (h8 : d < 8) (post : SX → Prop) (ra qa ql : Nat → Int32) (i f : Nat) (hi : i + (d + 1) ≤ 8) (hN : rd_vN n (A 26)) (P0 : A 19 (8 * t + d) = 0 → rd_lv n (A 9) (A 10) (A 4) t (nI d) → wpX_waitAs (fun u => match u with | (f_rowLength_1, f_noteCount_1, f_tasks_1, f_time_1, f_done_1, f_turns_1, f_doneInTurn_1, f_inTurn_1, a_ops_1, a_firsts_1, a_seconds_1, a_lengths_1, a_condition_1, a_place_1, a_xs_1, a_ended_1, a_bodyOf_1, a_master_1, a_masterBlock_1, a_limits_1, a_pending_1, a_doomed_1, a_terminable_1, a_calledQueue_1, a_wakeTime_1, a_wakePlace_1, a_depth_1, a_frameKind_1, a_frameValue_1, a_queue_1, a_queueLength_1, a_row_1, a_noteTask_1, a_noteValue_1, a_fallen_1, a_chosen_1) => post (f_rowLength_1, f_noteCount_1, f_tasks_1, f_time_1, f_done_1, f_turns_1, f_doneInTurn_1, f_inTurn_1, a_ops_1, a_firsts_1, a_seconds_1, a_lengths_1, a_condition_1, a_place_1, a_xs_1, a_ended_1, a_bodyOf_1, a_master_1, a_masterBlock_1, a_limits_1, a_pending_1, a_doomed_1, a_terminable_1, a_calledQueue_1, a_wakeTime_1, a_wakePlace_1, a_depth_1, a_frameKind_1, a_frameValue_1, a_queue_1, a_queueLength_1, a_row_1, a_noteTask_1, a_noteValue_1, a_fallen_1, a_chosen_1)) (rd_tX A (nI w.length) ra qa ql) (nI t) 6) (P1 : (A 19 (8 * t + d) = 0 → ¬ rd_lv n (A 9) (A 10) (A 4) t (nI d)) → wX_raise_73 post (wX_raise_9 post (nI t) (nI c) f) (nI t) (nI c) (nI i) (nI (8 * t + d)) (nI w.length) (A 25 0) (A 26 0) (A 27 0) (A 28 0) (A 29 0) (A 30 0) (A 31 0) (A 0) (A 1) (A 2) (A 3) (A 4) (A 5) (A 6) (A 7) (A 8) (A 9) (A 10) (A 11) (A 12) (A 13) (A 14) (A 15) (A 16) (A 17) (A 18) (A 19) (A 20) qa ql ra (A 21) (A 22) (A 32) (A 23)) : wX_raise_9 post (nI t) (nI c) (f + 1) (nI i) (nI w.length) (A 25 0) (A 26 0) (A 27 0) (A 28 0) (A 29 0) (A 30 0) (A 31 0) (A 0) (A 1) (A 2) (A 3) (A 4) (A 5) (A 6) (A 7) (A 8) (A 9) (A 10) (A 11) (A 12) (A 13) (A 14) (A 15) (A 16) (A 17) (A 18) (A 19) (A 20) qa ql ra (A 21) (A 22) (A 32) (A 23) := by
  have ct : (nI t).toNatClampNeg = t := nI_clamp (by omega)
  have i8 : vp_in (nI t) 8 := vp_in_nI (by omega) (by omega)
  have i64 : vp_in (nI (8 * t + d)) 64 := vp_in_nI (by omega) (by omega)
  have cd : (nI (8 * t + d)).toNatClampNeg = 8 * t + d := nI_clamp (by omega)
  have ed : A 18 (nI t).toNatClampNeg - 1 = nI d := by rw [ct, hd, nI_pred]
  refine br_f (nI_ge (b := 8) (by omega) (by omega)) ⟨i8, br_f (by rw [ct, hd]; exact nI_nle (by omega) (by omega)) ⟨i8, nm_r (e' := nI (8 * t + d)) (by rw [ct, hd, rd_ix t (d + 1) 8 8 rfl]; exact nI_pred (8 * t + d)) ⟨i64, ?_⟩⟩⟩
  by_cases h0 : A 19 (8 * t + d) = 0
  · refine br_t (by rw [cd]; exact h0) ⟨i8, ?_⟩
    rw [ed]
    exact rd_x_hasLiving hN (fun z => br_f (by decide) (P0 h0 z)) (fun z => br_t rfl (P1 (fun _ => z)))
  · exact br_f (by rw [cd]; exact h0) (P1 (fun z => absurd z h0))
/-- what the reference asks at a frame -/
theorem rd_ry_hd {wq am rz ob fr st ra qa : Nat → Int32} {bl : Int32} (I : rd_Inv n 8 D A w Q) (ht : t < n) (h0 : A 4 t = 0) (hd : A 18 t = nI (d + 1)) (h8 : d < 8) (post : SY → Prop) (f : Nat) (hy : rd_YL t n D A w Q ra qa wq am rz ob fr st bl) (P0 : A 19 (8 * t + d) = 0 → rd_lv n (A 9) (A 10) (A 4) t (nI d) → wpY_rest (fun u => match u with | (f_tasks_1, f_blocks_1, f_readies_1, f_time_1, f_done_1, f_turns_1, f_notes_1, a_length_1, a_ops_1, a_as_1, a_bs_1, a_states_1, a_places_1, a_xs_1, a_limits_1, a_bodies_1, a_ends_1, a_raised_1, a_until_1, a_high_1, a_kinds_1, a_frames_1, a_on_1, a_onBlock_1, a_doomed_1, a_queues_1, a_waiting_1, a_row_1, a_dying_1, a_among_1, a_noteTask_1, a_noteInt_1) => (vp_in (nI t) 8 ∧ ∀ g, g = upd a_raised_1 (nI t).toNatClampNeg (nI c) → post (f_tasks_1, f_blocks_1, f_readies_1, f_time_1, f_done_1, f_turns_1, f_notes_1, a_length_1, a_ops_1, a_as_1, a_bs_1, a_states_1, a_places_1, a_xs_1, a_limits_1, a_bodies_1, a_ends_1, g, a_until_1, a_high_1, a_kinds_1, a_frames_1, a_on_1, a_onBlock_1, a_doomed_1, a_queues_1, a_waiting_1, a_row_1, a_dying_1, a_among_1, a_noteTask_1, a_noteInt_1))) (rd_tY A (nI w.length) ra qa wq am rz ob fr st bl) (nI t) 6) (P1 : (A 19 (8 * t + d) = 0 → ¬ rd_lv n (A 9) (A 10) (A 4) t (nI d)) → wY_raise_71 post (wY_raise_7 post (nI t) (nI c) f) (nI t) (nI c) (fr (8 * t + d)) (A 19 (8 * t + d)) (A 26 0) bl (nI w.length) (A 27 0) (A 28 0) (A 29 0) (A 25 0) (A 3) (A 0) (A 1) (A 2) st (A 5) (A 6) (A 11) (A 8) (A 7) rz (A 16) (A 18) (A 19) fr (A 9) ob (A 13) qa wq ra (A 33) am (A 21) (A 22)) : wY_raise_7 post (nI t) (nI c) (f + 1) (A 26 0) bl (nI w.length) (A 27 0) (A 28 0) (A 29 0) (A 25 0) (A 3) (A 0) (A 1) (A 2) st (A 5) (A 6) (A 11) (A 8) (A 7) rz (A 16) (A 18) (A 19) fr (A 9) ob (A 13) qa wq ra (A 33) am (A 21) (A 22) := by
  have hn := I.vN.2
  have hDD := I.vD.2.1
  have ct : (nI t).toNatClampNeg = t := nI_clamp (by omega)
  have i8 : vp_in (nI t) 8 := vp_in_nI (by omega) (by omega)
  have i64 : vp_in (nI (8 * t + d)) 64 := vp_in_nI (by omega) (by omega)
  have cd : (nI (8 * t + d)).toNatClampNeg = 8 * t + d := nI_clamp (by omega)
  have it : 8 * nI t + A 18 (nI t).toNatClampNeg - 1 = nI (8 * t + d) := by
    rw [ct, hd, rd_ix' t (d + 1) 8 8 rfl]
    exact nI_pred (8 * t + d)
  have hds : d < (A 18 t).toNatClampNeg := by rw [hd, nI_clamp (by omega)]; omega
  refine ⟨i8, br_f (by rw [ct, hd]; exact nI_nle (by omega) (by omega)) (rd_y_top (by omega) hd h8 ⟨i8, ?_⟩)⟩
  rw [it, cd]
  refine ⟨i64, nm_e ?_⟩
  by_cases k0 : A 19 (8 * t + d) = 0
  · have lv := rd_lv_bl hn hDD ht I.vB I.rdp hy.y6 hy.y7 hy.y8 (by rw [h0]; decide) hds k0
    exact br_t k0 (rd_y_isWaitedFor I.vN hy.y9 (fun z => br_f (by decide) (P0 k0 (lv.mp z))) (fun z => br_t rfl (P1 (fun _ y => z (lv.mpr y)))))
  · exact br_f k0 (P1 (fun z => absurd z k0))
end
