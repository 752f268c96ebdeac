/-! SELECT -/
section
variable {A : rd_St} {t b p L : Nat} {Q : Nat → List Nat}
def rd_sS (A : rd_St) (t b : Nat) (Q : Nat → List Nat) (i : Nat) : Bool := !(Q (3 * t + (A 1 (20 * b + i)).toNatClampNeg)).isEmpty
def rd_SA (A : rd_St) (t b : Nat) (Q : Nat → List Nat) : Nat → Nat → Option Nat := rd_scan (rd_op (A 0) (A 3) b) (fun i => rd_opn (rd_op (A 0) (A 3) b i) (A 6 t) && rd_sS A t b Q i)
def rd_SO (A : rd_St) (b : Nat) : Nat → Nat → Option Nat := rd_scan (rd_op (A 0) (A 3) b) (fun i => decide (18 ≤ rd_op (A 0) (A 3) b i))
def rd_SH (A : rd_St) (t b : Nat) : Nat → Nat → Option Nat := rd_scan (rd_op (A 0) (A 3) b) (fun i => rd_opn (rd_op (A 0) (A 3) b i) (A 6 t))
def rd_ov (b : Nat) : Option Nat → Int32
  | none => -1
  | some i => nI (20 * b + i)
/-- an alternative that is unbarred: WHEN or IFX, with an entry and a place -/
theorem rd_alt (h : rd_at A t b p L) (hG : rd_vG (A 0) (A 1) (A 2) (A 3)) {i : Nat} (hi : i < L) (ho : rd_opn (rd_op (A 0) (A 3) b i) (A 6 t) = true) : (∃ j, j < 3 ∧ A 1 (20 * b + i) = nI j) ∧ (∃ q, q ≤ 20 ∧ A 2 (20 * b + i) = nI q) ∧ ¬ 18 ≤ rd_op (A 0) (A 3) b i := by
  have ef := (rd_at_op h i).1 hi
  have fit := hG.2 (20 * b + i) (by have := h.2.1; have := h.2.2.2.2.2; omega)
  have op1 : A 0 (20 * b + i) = 16 ∨ A 0 (20 * b + i) = 17 := by
    have := rd_opn_t.mp ho
    rw [ef] at this
    rcases this with y | y
    · exact Or.inl y
    · exact Or.inr y.1
  obtain ⟨a, c⟩ := fit.2.2.2.2.2.2.2.1 op1
  refine ⟨a, c, ?_⟩
  rw [ef]
  rcases op1 with y | y <;> rw [y] <;> decide
theorem rd_xl_sel {post : Int32 → SX → Prop} {w : List Nat} {ra qa ql : Nat → Int32} {e k0 : Nat} (h : rd_at A t b p L) (ht : t < 8) (hG : rd_vG (A 0) (A 1) (A 2) (A 3)) (hx : rd_XL w Q ra qa ql) (hQ : ∀ q, (Q q).length ≤ 8) (he : rd_eo A b L k0 e) : ∀ (d k : Nat) (x4 x5 : Int32), 21 ≤ k + d → k + d < 500 → k0 ≤ k → (∀ j, k0 ≤ j → j < k → 16 ≤ rd_op (A 0) (A 3) b j ∧ rd_op (A 0) (A 3) b j ≤ 20) → (∀ i j, rd_SA A t b Q d k = some i → A 1 (20 * b + i) = nI j → j < 3 → i < 20 → wpX_meetFirstOf (fun u => match u with | (f_rowLength_1, f_noteCount_1, f_tasks_1, f_time_1, f_done_1, f_turns_1, f_doneInTurn_1, f_inTurn_1, a_ops_1, a_firsts_1, a_seconds_1, a_lengths_1, a_condition_1, a_place_1, a_xs_1, a_ended_1, a_bodyOf_1, a_master_1, a_masterBlock_1, a_limits_1, a_pending_1, a_doomed_1, a_terminable_1, a_calledQueue_1, a_wakeTime_1, a_wakePlace_1, a_depth_1, a_frameKind_1, a_frameValue_1, a_queue_1, a_queueLength_1, a_row_1, a_noteTask_1, a_noteValue_1, a_fallen_1, a_chosen_1) => (vp_in (nI (20 * b + i)) 80 ∧ post (a_seconds_1 (20 * b + i)) (f_rowLength_1, f_noteCount_1, f_tasks_1, f_time_1, f_done_1, f_turns_1, f_doneInTurn_1, f_inTurn_1, a_ops_1, a_firsts_1, a_seconds_1, a_lengths_1, a_condition_1, a_place_1, a_xs_1, a_ended_1, a_bodyOf_1, a_master_1, a_masterBlock_1, a_limits_1, a_pending_1, a_doomed_1, a_terminable_1, a_calledQueue_1, a_wakeTime_1, a_wakePlace_1, a_depth_1, a_frameKind_1, a_frameValue_1, a_queue_1, a_queueLength_1, a_row_1, a_noteTask_1, a_noteValue_1, a_fallen_1, a_chosen_1))) (rd_tX A (nI w.length) ra qa ql) (nI t) (nI (3 * t + j))) → (rd_SA A t b Q d k = none → ∀ o, o = (if x5 = -1 then rd_ov b (rd_SO A b d k) else x5) → ((o = -1 → x4 = 0 → rd_SH A t b d k = none → wpX_fail (fun r u => match u with | (f_rowLength_1, f_noteCount_1, f_tasks_1, f_time_1, f_done_1, f_turns_1, f_doneInTurn_1, f_inTurn_1, a_ops_1, a_firsts_1, a_seconds_1, a_lengths_1, a_condition_1, a_place_1, a_xs_1, a_ended_1, a_bodyOf_1, a_master_1, a_masterBlock_1, a_limits_1, a_pending_1, a_doomed_1, a_terminable_1, a_calledQueue_1, a_wakeTime_1, a_wakePlace_1, a_depth_1, a_frameKind_1, a_frameValue_1, a_queue_1, a_queueLength_1, a_row_1, a_noteTask_1, a_noteValue_1, a_fallen_1, a_chosen_1) => post r (f_rowLength_1, f_noteCount_1, f_tasks_1, f_time_1, f_done_1, f_turns_1, f_doneInTurn_1, f_inTurn_1, a_ops_1, a_firsts_1, a_seconds_1, a_lengths_1, a_condition_1, a_place_1, a_xs_1, a_ended_1, a_bodyOf_1, a_master_1, a_masterBlock_1, a_limits_1, a_pending_1, a_doomed_1, a_terminable_1, a_calledQueue_1, a_wakeTime_1, a_wakePlace_1, a_depth_1, a_frameKind_1, a_frameValue_1, a_queue_1, a_queueLength_1, a_row_1, a_noteTask_1, a_noteValue_1, a_fallen_1, a_chosen_1)) (rd_tX A (nI w.length) ra qa ql) (nI t) 12) ∧ (¬ (o = -1 ∧ x4 = 0 ∧ rd_SH A t b d k = none) → wX_doSelect_166 post (nI t) o (nI w.length) (A 25 0) (A 26 0) (A 27 0) (A 28 0) (A 29 0) (A 30 0) (A 31 0) (A 0) (A 1) (A 2) (A 3) (A 4) (A 5) (A 6) (A 7) (A 8) (A 9) (A 10) (A 11) (A 12) (A 13) (A 14) (A 15) (A 16) (A 17) (A 18) (A 19) (A 20) qa ql ra (A 21) (A 22) (A 32) (A 23)))) → wX_doSelect_51 post (nI t) (nI (20 * b)) (nI e) (nI w.length) (A 25 0) (A 26 0) (A 27 0) (A 28 0) (A 29 0) (A 30 0) (A 31 0) (A 0) (A 1) (A 2) (A 3) (A 4) (A 5) (A 6) (A 7) (A 8) (A 9) (A 10) (A 11) (A 12) (A 13) (A 14) (A 15) (A 16) (A 17) (A 18) (A 19) (A 20) qa ql ra (A 21) (A 22) (A 32) (A 23) (d + 1) x4 x5 (nI k) := by
  intro d
  induction d with
  | zero =>
    intro k x4 x5 h1 h2 h3 h4 HA HN
    have := he.1
    have o0 : (if x5 = -1 then rd_ov b (rd_SO A b 0 k) else x5) = x5 := by
      by_cases y : x5 = -1
      · rw [if_pos y, y]; rfl
      · rw [if_neg y]
    have H := HN rfl x5 o0.symm
    refine br_t (nI_le (by omega) (by omega)) (br_c (fun y => br_c (fun z => H.1 y z rfl) (fun z => H.2 (fun q => z q.2.1))) (fun y => H.2 (fun q => y q.1)))
  | succ d ih =>
    intro k x4 x5 h1 h2 h3 h4 HA HN
    have hb := h.2.1
    have hL := h.2.2.2.2.2
    by_cases z : 16 ≤ rd_op (A 0) (A 3) b k ∧ rd_op (A 0) (A 3) b k ≤ 20
    · have hk := rd_at_in h z
      have he1 := he.1
      have ef := (rd_at_op h k).1 hk
      have ek : ¬ e ≤ k := fun y => (he.2.2 k h3 h4).mp y z
      have ik : nI (20 * b) + nI k = nI (20 * b + k) := nI_add _ _
      have ck : (nI (20 * b + k)).toNatClampNeg = 20 * b + k := nI_clamp (by omega)
      have i80 : vp_in (nI (20 * b + k)) 80 := vp_in_nI (by omega) (by omega)
      have h4' : ∀ j, k0 ≤ j → j < k + 1 → 16 ≤ rd_op (A 0) (A 3) b j ∧ rd_op (A 0) (A 3) b j ≤ 20 := by
        intro j a1 a2
        by_cases q : j = k
        · rw [q]; exact z
        · exact h4 j a1 (by omega)
      refine br_f (nI_ge (by omega) (by omega)) (rd_x_isOpen (i := k) h ht hk (fun q => br_f (by decide) ?_) (fun q => br_t rfl ?_))
      · -- unbarred
        obtain ⟨⟨j, hj, ej⟩, _, n18⟩ := rd_alt h hG hk q
        have ej' : (A 1 (20 * b + k)).toNatClampNeg = j := by rw [ej]; exact nI_clamp (by omega)
        have iq : nI t * 3 + nI j = nI (3 * t + j) := rd_ix t j 3 3 rfl
        have cq : (nI (3 * t + j)).toNatClampNeg = 3 * t + j := nI_clamp (by omega)
        have e0 := (hx.2 (3 * t + j) (by omega)).1
        have eSO : rd_SO A b (d + 1) k = rd_SO A b d (k + 1) := rd_scan_n _ _ d k z (by simpa using n18)
        have eSH : rd_SH A t b (d + 1) k = some k := rd_scan_s _ _ d k z q
        rw [ik, ck, ej]
        refine ⟨i80, nm_r iq ⟨vp_in_nI (by omega) (by omega), ?_⟩⟩
        rw [cq, e0]
        cases hq : Q (3 * t + j) with
        | nil =>
          have eS : rd_sS A t b Q k = false := by unfold rd_sS; rw [ej', hq]; rfl
          have eSA : rd_SA A t b Q (d + 1) k = rd_SA A t b Q d (k + 1) := rd_scan_n _ _ d k z (by rw [q, eS]; rfl)
          rw [eSA] at HA HN
          rw [eSO, eSH] at HN
          refine br_t (nI_le (a := 0) (b := 0) (Nat.le_refl _) (by omega)) (nm_r (nI_1 k) (ih (k + 1) 1 x5 (by omega) (by omega) (by omega) h4' HA (fun y o ho => ⟨fun _ g => absurd g (by decide), fun _ => (HN y o ho).2 (fun g => by simp at g)⟩)))
        | cons c l =>
          have eS : rd_sS A t b Q k = true := by unfold rd_sS; rw [ej', hq]; rfl
          have eSA : rd_SA A t b Q (d + 1) k = some k := rd_scan_s _ _ d k z (by rw [q, eS]; rfl)
          have hle := hQ (3 * t + j)
          rw [hq] at hle
          exact br_f (nI_ge (a := 0) (by simp) (by omega)) (HA k j eSA ej hj (by omega))
      · -- not unbarred
        have eSA : rd_SA A t b Q (d + 1) k = rd_SA A t b Q d (k + 1) := rd_scan_n _ _ d k z (by rw [q]; rfl)
        have eSH : rd_SH A t b (d + 1) k = rd_SH A t b d (k + 1) := rd_scan_n _ _ d k z q
        rw [eSA] at HA HN
        rw [eSH] at HN
        by_cases y : x5 = -1
        · refine br_t y ?_
          rw [ik, ck, ← ef]
          refine ⟨i80, ?_⟩
          by_cases x : 18 ≤ rd_op (A 0) (A 3) b k
          · have eSO : rd_SO A b (d + 1) k = some k := rd_scan_s _ _ d k z (by simpa using x)
            rw [eSO, if_pos y] at HN
            refine br_f (Int32.not_lt.mpr x) (nm_r rfl (nm_r (nI_1 k) (ih (k + 1) x4 (nI (20 * b + k)) (by omega) (by omega) (by omega) h4' HA (fun g o ho => HN g o ?_))))
            rw [if_neg (rd_nm (by omega))] at ho
            exact ho
          · have eSO : rd_SO A b (d + 1) k = rd_SO A b d (k + 1) := rd_scan_n _ _ d k z (by simpa using x)
            rw [eSO] at HN
            exact br_t (Int32.not_le.mp x) (nm_r (nI_1 k) (ih (k + 1) x4 x5 (by omega) (by omega) (by omega) h4' HA HN))
        · refine br_f y (nm_r (nI_1 k) (ih (k + 1) x4 x5 (by omega) (by omega) (by omega) h4' HA (fun g o ho => HN g o ?_)))
          rw [if_neg y] at ho ⊢
          exact ho
    · have ek : e ≤ k := (he.2.2 k h3 h4).mpr z
      have a1 : rd_SA A t b Q (d + 1) k = none := rd_scan_no _ _ (d + 1) k z
      have a2 : rd_SO A b (d + 1) k = none := rd_scan_no _ _ (d + 1) k z
      have a3 : rd_SH A t b (d + 1) k = none := rd_scan_no _ _ (d + 1) k z
      have o0 : (if x5 = -1 then rd_ov b (rd_SO A b (d + 1) k) else x5) = x5 := by
        by_cases y : x5 = -1
        · rw [if_pos y, y, a2]; rfl
        · rw [if_neg y]
      have H := HN a1 x5 o0.symm
      refine br_t (nI_le ek (by omega)) (br_c (fun y => br_c (fun g => H.1 y g a3) (fun g => H.2 (fun q => g q.2.1))) (fun y => H.2 (fun q => y q.1)))
end
