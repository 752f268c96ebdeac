/-! frames, waiting, the end -/
theorem rd_x_putUpR {A : rd_St} {rl : Int32} {ra qa ql : Nat → Int32} {t d : Nat} {k v : Int32} {post : SX → Prop} (ht : t < 8) (hd : A 18 t = nI d) (hd8 : d < 8) (H : post (rd_tX (rd_sw (rd_sw (rd_sw A  19 (8 * t + d) k)  20 (8 * t + d) v)  18 t (nI (d + 1))) rl ra qa ql)) : wpX_putUp post (rd_tX A rl ra qa ql) (nI t) k v := by
  have ct : (nI t).toNatClampNeg = t := nI_clamp (by omega)
  have i8 : vp_in (nI t) 8 := vp_in_nI (by omega) (by omega)
  have cd : (nI (8 * t + d)).toNatClampNeg = 8 * t + d := nI_clamp (by omega)
  have i64 : vp_in (nI (8 * t + d)) 64 := vp_in_nI (by omega) (by omega)
  unfold wpX_putUp
  exact ⟨i8, nm_r (e' := nI (8 * t + d)) (by rw [ct, hd]; exact rd_ix t d 8 8 rfl) ⟨i64, nm_r (e' := upd (A 19) (8 * t + d) k) (by rw [cd]) ⟨i64, nm_r (e' := upd (A 20) (8 * t + d) v) (by rw [cd]) ⟨i8, i8, nm_r (e' := upd (A 18) t (nI (d + 1))) (by rw [ct, hd, nI_1]) H⟩⟩⟩⟩
theorem rd_x_doPutUp {A : rd_St} {rl : Int32} {ra qa ql : Nat → Int32} {t d p : Nat} {k v : Int32} {post : Int32 → SX → Prop} (ht : t < 8) (hd : A 18 t = nI d) (h8 : d ≤ 8) (epl : A 5 t = nI p) (H1 : d < 8 → post (nI (p + 1)) (rd_tX (rd_sw (rd_sw (rd_sw A  19 (8 * t + d) k)  20 (8 * t + d) v)  18 t (nI (d + 1))) rl ra qa ql)) (H0 : d = 8 → wpX_fail (fun r u => match u with | (f_rowLength_1, f_noteCount_1, f_tasks_1, f_time_1, f_done_1, f_turns_1, f_doneInTurn_1, f_inTurn_1, a_ops_1, a_firsts_1, a_seconds_1, a_lengths_1, a_condition_1, a_place_1, a_xs_1, a_ended_1, a_bodyOf_1, a_master_1, a_masterBlock_1, a_limits_1, a_pending_1, a_doomed_1, a_terminable_1, a_calledQueue_1, a_wakeTime_1, a_wakePlace_1, a_depth_1, a_frameKind_1, a_frameValue_1, a_queue_1, a_queueLength_1, a_row_1, a_noteTask_1, a_noteValue_1, a_fallen_1, a_chosen_1) => post r (f_rowLength_1, f_noteCount_1, f_tasks_1, f_time_1, f_done_1, f_turns_1, f_doneInTurn_1, f_inTurn_1, a_ops_1, a_firsts_1, a_seconds_1, a_lengths_1, a_condition_1, a_place_1, a_xs_1, a_ended_1, a_bodyOf_1, a_master_1, a_masterBlock_1, a_limits_1, a_pending_1, a_doomed_1, a_terminable_1, a_calledQueue_1, a_wakeTime_1, a_wakePlace_1, a_depth_1, a_frameKind_1, a_frameValue_1, a_queue_1, a_queueLength_1, a_row_1, a_noteTask_1, a_noteValue_1, a_fallen_1, a_chosen_1)) (rd_tX A rl ra qa ql) (nI t) (nI 13)) : wpX_doPutUp post (rd_tX A rl ra qa ql) (nI t) k v := by
  have ct : (nI t).toNatClampNeg = t := nI_clamp (by omega)
  have i8 : vp_in (nI t) 8 := vp_in_nI (by omega) (by omega)
  unfold wpX_doPutUp
  by_cases z : d < 8
  · refine ⟨i8, br_t (by rw [ct, hd]; exact nI_lt (b := 8) z (by omega)) (rd_x_putUpR ht hd z ⟨i8, ?_⟩)⟩
    have e : A 5 (nI t).toNatClampNeg + 1 = nI (p + 1) := by rw [ct, epl, nI_1]
    have H := H1 z
    rw [← e] at H
    exact H
  · exact ⟨i8, br_f (by rw [ct, hd]; exact nI_nlt (b := 8) (by omega) (by omega)) (H0 (by omega))⟩
section
variable {n D t p b' d : Nat} {a b : Int32} {A : rd_St} {w : List Nat} {Q : Nat → List Nat}
theorem rd_op7 (C : rd_C n D t p b' A w Q) (hp20 : p < 20) : rd_O1 n D t p 7 a b a b A w Q ∨ rd_O2 n D t p 7 a b a b A w Q := by
  obtain ⟨I, ht, h0, hp, n9, epl, hpl, ebo, hbo, hD, hT, hN⟩ := id C
  have hn := I.vN.2
  have ct : (nI t).toNatClampNeg = t := nI_clamp (by omega)
  have i8 : vp_in (nI t) 8 := vp_in_nI (by omega) (by omega)
  obtain ⟨d, hd, ed, _⟩ := rd_dpos I ht
  by_cases z : d < 8
  · refine Or.inl ?_
    have J := rd_i_push (k := 0) (v := 0) I ht ed z ⟨by rw [h0]; decide, by rw [h0]; decide, by rw [h0]; decide, by rw [h0]; decide, by rw [h0]; decide⟩ (Or.inl rfl)
    have J2 := rd_i_pl (p := p + 1) J ht (by omega) (Or.inl h0)
    refine ⟨n, _, w, Q, J2, rd_Gr rfl rfl rfl rfl n9, fun _ => hp, ?_, ?_⟩
    · intro post ra qa ql hx H
      refine br_f (by decide) <| br_f (by decide) <| br_f (by decide) <| br_f (by decide) <| br_f (by decide) <| br_f (by decide) <| br_f (by decide) <| br_f (by decide) <| br_f (by decide) <| br_t rfl <| rd_x_doPutUp (by omega) ed hd epl (fun _ => ?_) (fun y => by omega)
      exact ⟨i8, nm_r (e' := upd (A 5) t (nI (p + 1))) (by rw [ct]; rfl) (H _ (rd_RX_mk hx))⟩
    · intro post ra qa wq am rz ob fr st bl hy H
      refine rd_y_st (d := d) (by omega) epl ed hd (by decide) (by decide) (by decide) (by decide) (by decide) (Or.inl z) ?_
      refine br_f (by decide) <| br_f (by decide) <| br_f (by decide) <| br_f (by decide) <| br_f (by decide) <| br_t rfl <| ?_
      refine br_f (by decide) <| br_f (by decide) <| br_f (by decide) <| br_f (by decide) <| br_f (by decide) <| br_f (by decide) <| br_f (by decide) <| br_f (by decide) <| br_f (by decide) <| br_t rfl <| rd_y_push (by omega) ed z 0 ?_
      refine nm_e ?_
      refine br_f (by decide) ⟨i8, nm_r (e' := upd (A 5) t (nI (p + 1))) (by rw [ct, nI_1]; rfl) ?_⟩
      exact H _ (rd_RY_mk (A := rd_sw (rd_sw (rd_sw (rd_sw A  19 (8 * t + d) 0)  20 (8 * t + d) 0)  18 t (nI (d + 1)))  5 t (nI (p + 1))) (rd_YL_push I ht ed z (by omega) hy (Or.inr ⟨rfl, rfl, rfl⟩)))
  · refine Or.inr (rd_mkO2 C 13 (by omega) (by omega) ?_ ?_)
    · intro post ra qa ql H
      exact br_f (by decide) <| br_f (by decide) <| br_f (by decide) <| br_f (by decide) <| br_f (by decide) <| br_f (by decide) <| br_f (by decide) <| br_f (by decide) <| br_f (by decide) <| br_t rfl <| rd_x_doPutUp (by omega) ed hd epl (fun y => absurd y z) (fun _ => H)
    · intro post ra qa wq am rz ob fr st bl H
      exact rd_y_stf (by omega) epl (by rw [ed]; congr 1; omega) (by decide) (by decide) (by decide) (by decide) (Or.inl rfl) H
theorem rd_op22 {j : Nat} (C : rd_C n D t p b' A w Q) (hp20 : p < 20) (hj : j ≤ 20) (ea : a = nI j) : rd_O1 n D t p 22 a b a b A w Q ∨ rd_O2 n D t p 22 a b a b A w Q := by
  obtain ⟨I, ht, h0, hp, n9, epl, hpl, ebo, hbo, hD, hT, hN⟩ := id C
  have hn := I.vN.2
  have ct : (nI t).toNatClampNeg = t := nI_clamp (by omega)
  have i8 : vp_in (nI t) 8 := vp_in_nI (by omega) (by omega)
  obtain ⟨d, hd, ed, _⟩ := rd_dpos I ht
  by_cases z : d < 8
  · refine Or.inl ?_
    have J := rd_i_push (k := 2) (v := a) I ht ed z ⟨by rw [h0]; decide, by rw [h0]; decide, by rw [h0]; decide, by rw [h0]; decide, by rw [h0]; decide⟩ (Or.inr (Or.inr ⟨rfl, j, hj, ea⟩))
    have J2 := rd_i_pl (p := p + 1) J ht (by omega) (Or.inl h0)
    refine ⟨n, _, w, Q, J2, rd_Gr rfl rfl rfl rfl n9, fun _ => hp, ?_, ?_⟩
    · intro post ra qa ql hx H
      refine br_f (by decide) <| br_f (by decide) <| br_f (by decide) <| br_f (by decide) <| br_f (by decide) <| br_f (by decide) <| br_f (by decide) <| br_f (by decide) <| br_f (by decide) <| br_f (by decide) <| br_f (by decide) <| br_f (by decide) <| br_f (by decide) <| br_f (by decide) <| br_f (by decide) <| br_f (by decide) <| br_f (by decide) <| br_f (by decide) <| br_f (by decide) <| br_f (by decide) <| br_f (by decide) <| br_f (by decide) <| br_f (by decide) <| br_f (by decide) <| br_t rfl <| rd_x_doPutUp (by omega) ed hd epl (fun _ => ?_) (fun y => by omega)
      exact ⟨i8, nm_r (e' := upd (A 5) t (nI (p + 1))) (by rw [ct]; rfl) (H _ (rd_RX_mk hx))⟩
    · intro post ra qa wq am rz ob fr st bl hy H
      refine rd_y_st (d := d) (by omega) epl ed hd (by decide) (by decide) (by decide) (by decide) (by decide) (Or.inl z) ?_
      refine br_f (by decide) <| br_f (by decide) <| br_f (by decide) <| br_f (by decide) <| br_f (by decide) <| br_f (by decide) <| br_f (by decide) <| br_f (by decide) <| br_f (by decide) <| br_f (by decide) <| br_f (by decide) <| br_f (by decide) <| br_f (by decide) <| br_f (by decide) <| br_f (by decide) <| br_f (by decide) <| br_f (by decide) <| br_f (by decide) <| br_f (by decide) <| br_f (by decide) <| br_t rfl <| ?_
      refine br_f (by decide) <| br_f (by decide) <| br_f (by decide) <| br_f (by decide) <| br_f (by decide) <| br_f (by decide) <| br_f (by decide) <| br_f (by decide) <| br_f (by decide) <| br_f (by decide) <| br_f (by decide) <| br_f (by decide) <| br_f (by decide) <| br_f (by decide) <| br_f (by decide) <| br_f (by decide) <| br_f (by decide) <| br_f (by decide) <| br_f (by decide) <| br_f (by decide) <| br_f (by decide) <| br_f (by decide) <| br_f (by decide) <| br_f (by decide) <| br_t rfl <| rd_y_push (by omega) ed z a ?_
      refine br_f (by decide) ⟨i8, nm_r (e' := upd (A 5) t (nI (p + 1))) (by rw [ct, nI_1]; rfl) ?_⟩
      exact H _ (rd_RY_mk (A := rd_sw (rd_sw (rd_sw (rd_sw A  19 (8 * t + d) 2)  20 (8 * t + d) a)  18 t (nI (d + 1)))  5 t (nI (p + 1))) (rd_YL_push I ht ed z (by omega) hy (Or.inl ⟨by decide, rfl, rfl⟩)))
  · refine Or.inr (rd_mkO2 C 13 (by omega) (by omega) ?_ ?_)
    · intro post ra qa ql H
      exact br_f (by decide) <| br_f (by decide) <| br_f (by decide) <| br_f (by decide) <| br_f (by decide) <| br_f (by decide) <| br_f (by decide) <| br_f (by decide) <| br_f (by decide) <| br_f (by decide) <| br_f (by decide) <| br_f (by decide) <| br_f (by decide) <| br_f (by decide) <| br_f (by decide) <| br_f (by decide) <| br_f (by decide) <| br_f (by decide) <| br_f (by decide) <| br_f (by decide) <| br_f (by decide) <| br_f (by decide) <| br_f (by decide) <| br_f (by decide) <| br_t rfl <| rd_x_doPutUp (by omega) ed hd epl (fun y => absurd y z) (fun _ => H)
    · intro post ra qa wq am rz ob fr st bl H
      exact rd_y_stf (by omega) epl (by rw [ed]; congr 1; omega) (by decide) (by decide) (by decide) (by decide) (Or.inr (Or.inr (Or.inr rfl))) H
theorem rd_op21 {j : Nat} (C : rd_C n D t p b' A w Q) (hj : j < 10) (hj0 : 0 < j) (ea : a = nI j) : rd_O2 n D t p 21 a b a b A w Q := by
  obtain ⟨I, ht, h0, hp, n9, epl, hpl, ebo, hbo, hD, hT, hN⟩ := id C
  have hn := I.vN.2
  obtain ⟨d, hd, ed, _⟩ := rd_dpos I ht
  subst ea
  refine rd_mkO2 C j hj0 (by omega) ?_ ?_
  · intro post ra qa ql H
    exact br_f (by decide) <| br_f (by decide) <| br_f (by decide) <| br_f (by decide) <| br_f (by decide) <| br_f (by decide) <| br_f (by decide) <| br_f (by decide) <| br_f (by decide) <| br_f (by decide) <| br_f (by decide) <| br_f (by decide) <| br_f (by decide) <| br_f (by decide) <| br_f (by decide) <| br_f (by decide) <| br_f (by decide) <| br_f (by decide) <| br_f (by decide) <| br_f (by decide) <| br_f (by decide) <| br_f (by decide) <| br_f (by decide) <| br_t rfl <| H
  · intro post ra qa wq am rz ob fr st bl H
    refine rd_y_st (d := d) (by omega) epl ed hd (by decide) (by decide) (by decide) (by decide) (by decide) (Or.inr (by decide)) ?_
    exact br_f (by decide) <| br_f (by decide) <| br_f (by decide) <| br_f (by decide) <| br_f (by decide) <| br_f (by decide) <| br_f (by decide) <| br_f (by decide) <| br_f (by decide) <| br_f (by decide) <| br_f (by decide) <| br_f (by decide) <| br_f (by decide) <| br_f (by decide) <| br_f (by decide) <| br_f (by decide) <| br_f (by decide) <| br_f (by decide) <| br_f (by decide) <| br_t rfl <| H
theorem rd_op25 (C : rd_C n D t p b' A w Q) (a b c e : Int32) : rd_O1 n D t p 25 a b c e A w Q ∨ rd_O2 n D t p 25 a b c e A w Q := by
  obtain ⟨I, ht, h0, hp, n9, epl, hpl, ebo, hbo, hD, hT, hN⟩ := id C
  have hn := I.vN.2
  have ct : (nI t).toNatClampNeg = t := nI_clamp (by omega)
  have i8 : vp_in (nI t) 8 := vp_in_nI (by omega) (by omega)
  obtain ⟨d, hd, ed, _⟩ := rd_dpos I ht
  by_cases z : d = 0
  · refine Or.inl ?_
    subst z
    obtain ⟨B, x, R, J, F, X, Y⟩ := rd_bd0 0 I ht h0 ed n9
    have k : ∀ k, k =  28 ∨ k =  30 ∨ k =  31 ∨ k =  29 → B k = A k := fun k hk => F.1 k (by omega) (by omega) (by omega) (by omega) (by omega) (by omega) (by omega) (by omega) (by omega)
    have nz : B 4 t ≠ 0 := by rcases F.2.2.2.2.2.1 with y | y <;> rw [y] <;> decide
    refine ⟨n, B, x, R, J, ⟨Nat.le_refl _, k _ (by simp), k _ (by simp), k _ (by simp), k _ (by simp), F.2.2.2.1, fun y => absurd y nz⟩, fun y => absurd y nz, ?_, ?_⟩
    · intro post ra qa ql hx H
      refine br_f (by decide) <| br_f (by decide) <| br_f (by decide) <| br_f (by decide) <| br_f (by decide) <| br_f (by decide) <| br_f (by decide) <| br_f (by decide) <| br_f (by decide) <| br_f (by decide) <| br_f (by decide) <| br_f (by decide) <| br_f (by decide) <| br_f (by decide) <| br_f (by decide) <| br_f (by decide) <| br_f (by decide) <| br_f (by decide) <| br_f (by decide) <| br_f (by decide) <| br_f (by decide) <| br_f (by decide) <| br_f (by decide) <| br_f (by decide) <| br_f (by decide) <| br_f (by decide) <| br_f (by decide) <| br_t rfl <| ⟨i8, br_t (by rw [ct, ed]; exact nI_le (a := 0) (b := 0) (Nat.le_refl _) (by omega)) ?_⟩
      refine X _ _ (rd_RX_mk hx) ?_
      rintro u' ⟨ra1, qa1, ql1, rfl, hx1⟩
      exact ⟨i8, i8, nm_r (e' := B 5) (by rw [ct]; exact rd_ue rfl) (H _ (rd_RX_mk hx1))⟩
    · intro post ra qa wq am rz ob fr st bl hy H
      have P : wY_step_160 post (nI t) 25 c e (nI p) (A 26 0) bl (nI w.length) (A 27 0) (A 28 0) (A 29 0) (A 25 0) (A 3) (A 0) (A 1) (A 2) st (A 5) (A 6) (A 11) (A 8) (A 7) rz (A 16) (A 18) (A 19) fr (A 9) ob (A 13) qa wq ra (A 33) am (A 21) (A 22) := by
        refine br_f (by decide) <| br_f (by decide) <| br_f (by decide) <| br_f (by decide) <| br_f (by decide) <| br_f (by decide) <| br_f (by decide) <| br_f (by decide) <| br_f (by decide) <| br_f (by decide) <| br_f (by decide) <| br_f (by decide) <| br_f (by decide) <| br_f (by decide) <| br_f (by decide) <| br_f (by decide) <| br_f (by decide) <| br_f (by decide) <| br_f (by decide) <| br_f (by decide) <| br_f (by decide) <| br_f (by decide) <| br_f (by decide) <| br_t rfl <| ?_
        refine Y 8 (Or.inr rfl) _ _ (rd_RY_mk (rd_YL_D hy)) ?_
        rintro v' ⟨ra1, qa1, wq1, am1, rz1, ob1, fr1, st1, bl1, rfl, hy1⟩
        exact H _ (rd_RY_mk hy1)
      unfold wpY_step
      refine ⟨i8, nm_r (e' := nI p) (by rw [ct]; exact epl) ⟨i8, br_f (by rw [ct, ed]; decide) (br_f (by decide) (br_f (by decide) (br_f (by decide) (br_t rfl ⟨i8, br_t (by rw [ct, ed]; exact nI_le (a := 0) (b := 0) (Nat.le_refl _) (by omega)) (br_t rfl (br_t rfl (br_f (by decide) P)))⟩))))⟩⟩
  · refine Or.inr (rd_mkO2 C 12 (by omega) (by omega) ?_ ?_)
    · intro post ra qa ql H
      exact br_f (by decide) <| br_f (by decide) <| br_f (by decide) <| br_f (by decide) <| br_f (by decide) <| br_f (by decide) <| br_f (by decide) <| br_f (by decide) <| br_f (by decide) <| br_f (by decide) <| br_f (by decide) <| br_f (by decide) <| br_f (by decide) <| br_f (by decide) <| br_f (by decide) <| br_f (by decide) <| br_f (by decide) <| br_f (by decide) <| br_f (by decide) <| br_f (by decide) <| br_f (by decide) <| br_f (by decide) <| br_f (by decide) <| br_f (by decide) <| br_f (by decide) <| br_f (by decide) <| br_f (by decide) <| br_t rfl <| ⟨i8, br_f (by rw [ct, ed]; exact nI_nle (by omega) (by omega)) H⟩
    · intro post ra qa wq am rz ob fr st bl H
      have P : ∀ y, wY_step_24 post (nI t) 25 c e (nI p) y (A 26 0) bl (nI w.length) (A 27 0) (A 28 0) (A 29 0) (A 25 0) (A 3) (A 0) (A 1) (A 2) st (A 5) (A 6) (A 11) (A 8) (A 7) rz (A 16) (A 18) (A 19) fr (A 9) ob (A 13) qa wq ra (A 33) am (A 21) (A 22) := fun y => br_f (by decide) (br_f (by decide) (br_f (by decide) (br_t rfl ⟨i8, br_f (by rw [ct, ed]; exact nI_nle (by omega) (by omega)) (br_f (by decide) (br_f (by decide) H))⟩)))
      unfold wpY_step
      exact ⟨i8, nm_r (e' := nI p) (by rw [ct]; exact epl) ⟨i8, br_c (fun _ => P 1) (fun _ => P 0)⟩⟩
end
