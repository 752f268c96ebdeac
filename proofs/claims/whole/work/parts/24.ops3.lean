/-! leaving blocks and handlers, delays -/
section
variable {post : SY → Prop} {A : rd_St} {rl : Int32} {ra qa wq am rz ob fr st : Nat → Int32} {bl : Int32} {t p d : Nat} {a b : Int32}
theorem rd_y_st8 (ht : t < 8) (hp : A 5 t = nI p) (hd : A 18 t = nI d) (h8 : d ≤ 8) (P1 : ∀ e, d = e + 1 → A 19 (8 * t + e) = 0 → wY_step_160 post (nI t) 8 a b (nI p) (A 26 0) bl rl (A 27 0) (A 28 0) (A 29 0) (A 25 0) (A 3) (A 0) (A 1) (A 2) st (A 5) (A 6) (A 11) (A 8) (A 7) rz (A 16) (A 18) (A 19) fr (A 9) ob (A 13) qa wq ra (A 33) am (A 21) (A 22)) (P0 : (∀ e, d = e + 1 → A 19 (8 * t + e) ≠ 0) → wpY_raise (fun u => match u with | (f_tasks_1, f_blocks_1, f_readies_1, f_time_1, f_done_1, f_turns_1, f_notes_1, a_length_1, a_ops_1, a_as_1, a_bs_1, a_states_1, a_places_1, a_xs_1, a_limits_1, a_bodies_1, a_ends_1, a_raised_1, a_until_1, a_high_1, a_kinds_1, a_frames_1, a_on_1, a_onBlock_1, a_doomed_1, a_queues_1, a_waiting_1, a_row_1, a_dying_1, a_among_1, a_noteTask_1, a_noteInt_1) => post (f_tasks_1, f_blocks_1, f_readies_1, f_time_1, f_done_1, f_turns_1, f_notes_1, a_length_1, a_ops_1, a_as_1, a_bs_1, a_states_1, a_places_1, a_xs_1, a_limits_1, a_bodies_1, a_ends_1, a_raised_1, a_until_1, a_high_1, a_kinds_1, a_frames_1, a_on_1, a_onBlock_1, a_doomed_1, a_queues_1, a_waiting_1, a_row_1, a_dying_1, a_among_1, a_noteTask_1, a_noteInt_1)) (rd_tY A rl ra qa wq am rz ob fr st bl) (nI t) (nI 12)) : wpY_step post (rd_tY A rl ra qa wq am rz ob fr st bl) (nI t) 8 a b := by
  have ct : (nI t).toNatClampNeg = t := nI_clamp (by omega)
  have i8 : vp_in (nI t) 8 := vp_in_nI (by omega) (by omega)
  have G : ∀ z : Int32, (z = 0 ∨ z = 1) → (z = 1 → d = 8) → wY_step_24 post (nI t) 8 a b (nI p) z (A 26 0) bl rl (A 27 0) (A 28 0) (A 29 0) (A 25 0) (A 3) (A 0) (A 1) (A 2) st (A 5) (A 6) (A 11) (A 8) (A 7) rz (A 16) (A 18) (A 19) fr (A 9) ob (A 13) qa wq ra (A 33) am (A 21) (A 22) := fun z h1 h2 =>
    br_t rfl <| rd_y_isTop ht hd h8 (fun e he k => br_f (by decide) <| br_f (by decide) <| br_f (by decide) <| br_f (by decide) <| rd_y_st127 (Or.inr (by decide)) z h2 (br_f (by decide) (P1 e he k)) h1) (fun k => br_t rfl <| br_f (by decide) <| br_f (by decide) (P0 k))
  unfold wpY_step
  refine ⟨i8, nm_r (e' := nI p) (by rw [ct]; exact hp) ⟨i8, br_c (fun z => G 1 (Or.inr rfl) (fun _ => ?_)) (fun _ => G 0 (Or.inl rfl) (fun y => absurd y (by decide)))⟩⟩
  rw [ct, hd] at z
  exact rd_inj (by omega) (by omega) z
theorem rd_y_st14 (ht : t < 8) (hp : A 5 t = nI p) (hd : A 18 t = nI d) (h8 : d ≤ 8) (P1 : ∀ e, d = e + 1 → A 19 (8 * t + e) = 1 → wY_step_160 post (nI t) 14 a b (nI p) (A 26 0) bl rl (A 27 0) (A 28 0) (A 29 0) (A 25 0) (A 3) (A 0) (A 1) (A 2) st (A 5) (A 6) (A 11) (A 8) (A 7) rz (A 16) (A 18) (A 19) fr (A 9) ob (A 13) qa wq ra (A 33) am (A 21) (A 22)) (P0 : (∀ e, d = e + 1 → A 19 (8 * t + e) ≠ 1) → wpY_raise (fun u => match u with | (f_tasks_1, f_blocks_1, f_readies_1, f_time_1, f_done_1, f_turns_1, f_notes_1, a_length_1, a_ops_1, a_as_1, a_bs_1, a_states_1, a_places_1, a_xs_1, a_limits_1, a_bodies_1, a_ends_1, a_raised_1, a_until_1, a_high_1, a_kinds_1, a_frames_1, a_on_1, a_onBlock_1, a_doomed_1, a_queues_1, a_waiting_1, a_row_1, a_dying_1, a_among_1, a_noteTask_1, a_noteInt_1) => post (f_tasks_1, f_blocks_1, f_readies_1, f_time_1, f_done_1, f_turns_1, f_notes_1, a_length_1, a_ops_1, a_as_1, a_bs_1, a_states_1, a_places_1, a_xs_1, a_limits_1, a_bodies_1, a_ends_1, a_raised_1, a_until_1, a_high_1, a_kinds_1, a_frames_1, a_on_1, a_onBlock_1, a_doomed_1, a_queues_1, a_waiting_1, a_row_1, a_dying_1, a_among_1, a_noteTask_1, a_noteInt_1)) (rd_tY A rl ra qa wq am rz ob fr st bl) (nI t) (nI 12)) : wpY_step post (rd_tY A rl ra qa wq am rz ob fr st bl) (nI t) 14 a b := by
  have ct : (nI t).toNatClampNeg = t := nI_clamp (by omega)
  have i8 : vp_in (nI t) 8 := vp_in_nI (by omega) (by omega)
  have G : ∀ z : Int32, (z = 0 ∨ z = 1) → (z = 1 → d = 8) → wY_step_24 post (nI t) 14 a b (nI p) z (A 26 0) bl rl (A 27 0) (A 28 0) (A 29 0) (A 25 0) (A 3) (A 0) (A 1) (A 2) st (A 5) (A 6) (A 11) (A 8) (A 7) rz (A 16) (A 18) (A 19) fr (A 9) ob (A 13) qa wq ra (A 33) am (A 21) (A 22) := fun z h1 h2 =>
    br_f (by decide) <| br_t rfl <| rd_y_isTop ht hd h8 (fun e he k => br_f (by decide) <| br_f (by decide) <| br_f (by decide) <| rd_y_st127 (Or.inr (by decide)) z h2 (br_f (by decide) (P1 e he k)) h1) (fun k => br_t rfl <| br_f (by decide) <| br_f (by decide) (P0 k))
  unfold wpY_step
  refine ⟨i8, nm_r (e' := nI p) (by rw [ct]; exact hp) ⟨i8, br_c (fun z => G 1 (Or.inr rfl) (fun _ => ?_)) (fun _ => G 0 (Or.inl rfl) (fun y => absurd y (by decide)))⟩⟩
  rw [ct, hd] at z
  exact rd_inj (by omega) (by omega) z
theorem rd_y_st23 (ht : t < 8) (hp : A 5 t = nI p) (hd : A 18 t = nI d) (h8 : d ≤ 8) (P1 : ∀ e, d = e + 1 → A 19 (8 * t + e) = 2 → wY_step_160 post (nI t) 23 a b (nI p) (A 26 0) bl rl (A 27 0) (A 28 0) (A 29 0) (A 25 0) (A 3) (A 0) (A 1) (A 2) st (A 5) (A 6) (A 11) (A 8) (A 7) rz (A 16) (A 18) (A 19) fr (A 9) ob (A 13) qa wq ra (A 33) am (A 21) (A 22)) (P0 : (∀ e, d = e + 1 → A 19 (8 * t + e) ≠ 2) → wpY_raise (fun u => match u with | (f_tasks_1, f_blocks_1, f_readies_1, f_time_1, f_done_1, f_turns_1, f_notes_1, a_length_1, a_ops_1, a_as_1, a_bs_1, a_states_1, a_places_1, a_xs_1, a_limits_1, a_bodies_1, a_ends_1, a_raised_1, a_until_1, a_high_1, a_kinds_1, a_frames_1, a_on_1, a_onBlock_1, a_doomed_1, a_queues_1, a_waiting_1, a_row_1, a_dying_1, a_among_1, a_noteTask_1, a_noteInt_1) => post (f_tasks_1, f_blocks_1, f_readies_1, f_time_1, f_done_1, f_turns_1, f_notes_1, a_length_1, a_ops_1, a_as_1, a_bs_1, a_states_1, a_places_1, a_xs_1, a_limits_1, a_bodies_1, a_ends_1, a_raised_1, a_until_1, a_high_1, a_kinds_1, a_frames_1, a_on_1, a_onBlock_1, a_doomed_1, a_queues_1, a_waiting_1, a_row_1, a_dying_1, a_among_1, a_noteTask_1, a_noteInt_1)) (rd_tY A rl ra qa wq am rz ob fr st bl) (nI t) (nI 12)) : wpY_step post (rd_tY A rl ra qa wq am rz ob fr st bl) (nI t) 23 a b := by
  have ct : (nI t).toNatClampNeg = t := nI_clamp (by omega)
  have i8 : vp_in (nI t) 8 := vp_in_nI (by omega) (by omega)
  have G : ∀ z : Int32, (z = 0 ∨ z = 1) → (z = 1 → d = 8) → wY_step_24 post (nI t) 23 a b (nI p) z (A 26 0) bl rl (A 27 0) (A 28 0) (A 29 0) (A 25 0) (A 3) (A 0) (A 1) (A 2) st (A 5) (A 6) (A 11) (A 8) (A 7) rz (A 16) (A 18) (A 19) fr (A 9) ob (A 13) qa wq ra (A 33) am (A 21) (A 22) := fun z h1 h2 =>
    br_f (by decide) <| br_f (by decide) <| br_t rfl <| rd_y_isTop ht hd h8 (fun e he k => br_f (by decide) <| br_f (by decide) <| rd_y_st127 (Or.inr (by decide)) z h2 (br_f (by decide) (P1 e he k)) h1) (fun k => br_t rfl <| br_f (by decide) <| br_f (by decide) (P0 k))
  unfold wpY_step
  refine ⟨i8, nm_r (e' := nI p) (by rw [ct]; exact hp) ⟨i8, br_c (fun z => G 1 (Or.inr rfl) (fun _ => ?_)) (fun _ => G 0 (Or.inl rfl) (fun y => absurd y (by decide)))⟩⟩
  rw [ct, hd] at z
  exact rd_inj (by omega) (by omega) z
end
section
variable {n D t p b' d : Nat} {a b : Int32} {A : rd_St} {w : List Nat} {Q : Nat → List Nat}
theorem rd_op23 (C : rd_C n D t p b' A w Q) (hp20 : p < 20) : rd_O1 n D t p 23 a b a b A w Q ∨ rd_O2 n D t p 23 a b a b A w Q := by
  obtain ⟨I, ht, h0, hp, n9, epl, hpl, ebo, hbo, hD, hT, hN⟩ := id C
  have hn := I.vN.2
  have ct : (nI t).toNatClampNeg = t := nI_clamp (by omega)
  have i8 : vp_in (nI t) 8 := vp_in_nI (by omega) (by omega)
  obtain ⟨d, hd, ed, _⟩ := rd_dpos I ht
  by_cases z : ∃ e, d = e + 1 ∧ A 19 (8 * t + e) = 2
  · refine Or.inl ?_
    obtain ⟨e, ee, ek⟩ := z
    subst ee
    have J := rd_i_pop I ht ed (by omega) (by rw [h0]; decide) (Or.inl (by rw [ek]; decide))
    have J2 := rd_i_pl (p := p + 1) J ht (by omega) (Or.inl h0)
    refine ⟨n, _, w, Q, J2, rd_Gr rfl rfl rfl rfl n9, fun _ => hp, ?_, ?_⟩
    · intro post ra qa ql hx H
      refine br_f (by decide) <| br_f (by decide) <| br_f (by decide) <| br_f (by decide) <| br_f (by decide) <| br_f (by decide) <| br_f (by decide) <| br_f (by decide) <| br_f (by decide) <| br_f (by decide) <| br_f (by decide) <| br_f (by decide) <| br_f (by decide) <| br_f (by decide) <| br_f (by decide) <| br_f (by decide) <| br_f (by decide) <| br_f (by decide) <| br_f (by decide) <| br_f (by decide) <| br_f (by decide) <| br_f (by decide) <| br_f (by decide) <| br_f (by decide) <| br_f (by decide) <| br_t rfl <| ?_
      unfold wpX_doOver
      refine rd_x_hasOnTop (by omega) ed hd (fun e' he k => br_f (by decide) ⟨i8, i8, nm_r (e' := upd (A 18) t (nI e)) (by rw [ct, ed, nI_pred]) ⟨i8, ?_⟩⟩) (fun k => absurd ek (k e rfl))
      rw [ct, epl, nI_1]
      exact ⟨i8, nm_r (e' := upd (A 5) t (nI (p + 1))) rfl (H _ (rd_RX_mk (A := rd_sw (rd_sw A  18 t (nI e))  5 t (nI (p + 1))) hx))⟩
    · intro post ra qa wq am rz ob fr st bl hy H
      refine rd_y_st23 (by omega) epl ed hd (fun e' he k => ?_) (fun k => absurd ek (k e rfl))
      refine br_f (by decide) <| br_f (by decide) <| br_f (by decide) <| br_f (by decide) <| br_f (by decide) <| br_f (by decide) <| br_f (by decide) <| br_f (by decide) <| br_f (by decide) <| br_f (by decide) <| br_f (by decide) <| br_f (by decide) <| br_f (by decide) <| br_f (by decide) <| br_f (by decide) <| br_f (by decide) <| br_f (by decide) <| br_f (by decide) <| br_f (by decide) <| br_f (by decide) <| br_f (by decide) <| br_t rfl <| ?_
      refine br_f (by decide) <| br_f (by decide) <| br_f (by decide) <| br_f (by decide) <| br_f (by decide) <| br_f (by decide) <| br_f (by decide) <| br_f (by decide) <| br_f (by decide) <| br_f (by decide) <| br_f (by decide) <| br_f (by decide) <| br_f (by decide) <| br_f (by decide) <| br_f (by decide) <| br_f (by decide) <| br_f (by decide) <| br_f (by decide) <| br_f (by decide) <| br_f (by decide) <| br_f (by decide) <| br_f (by decide) <| br_f (by decide) <| br_f (by decide) <| br_f (by decide) <| br_t rfl <| ⟨i8, i8, nm_r (e' := upd (A 18) t (nI e)) (by rw [ct, ed, nI_pred]) ?_⟩
      refine br_f (by decide) ⟨i8, nm_r (e' := upd (A 5) t (nI (p + 1))) (by rw [ct, nI_1]) ?_⟩
      exact H _ (rd_RY_mk (A := rd_sw (rd_sw A  18 t (nI e))  5 t (nI (p + 1))) (rd_YL_pop (rd_YL_D hy) ed (by omega)))
  · have no : ∀ e, d = e + 1 → A 19 (8 * t + e) ≠ 2 := fun e he k => z ⟨e, he, k⟩
    refine Or.inr (rd_mkO2 C 12 (by omega) (by omega) ?_ ?_)
    · intro post ra qa ql H
      refine br_f (by decide) <| br_f (by decide) <| br_f (by decide) <| br_f (by decide) <| br_f (by decide) <| br_f (by decide) <| br_f (by decide) <| br_f (by decide) <| br_f (by decide) <| br_f (by decide) <| br_f (by decide) <| br_f (by decide) <| br_f (by decide) <| br_f (by decide) <| br_f (by decide) <| br_f (by decide) <| br_f (by decide) <| br_f (by decide) <| br_f (by decide) <| br_f (by decide) <| br_f (by decide) <| br_f (by decide) <| br_f (by decide) <| br_f (by decide) <| br_f (by decide) <| br_t rfl <| ?_
      unfold wpX_doOver
      exact rd_x_hasOnTop (by omega) ed hd (fun e he k => absurd k (no e he)) (fun _ => br_t rfl H)
    · intro post ra qa wq am rz ob fr st bl H
      exact rd_y_st23 (by omega) epl ed hd (fun e he k => absurd k (no e he)) (fun _ => H)
theorem rd_op8 (C : rd_C n D t p b' A w Q) (hp20 : p < 20) : rd_O1 n D t p 8 a b a b A w Q ∨ rd_O2 n D t p 8 a b a b A w Q := by
  obtain ⟨I, ht, h0, hp, n9, epl, hpl, ebo, hbo, hD, hT, hN⟩ := id C
  have hn := I.vN.2
  have hDD := I.vD.2.1
  have ct : (nI t).toNatClampNeg = t := nI_clamp (by omega)
  have i8 : vp_in (nI t) 8 := vp_in_nI (by omega) (by omega)
  have k7 : A 4 t ≠ 7 := by rw [h0]; decide
  have k8 : A 4 t ≠ 8 := by rw [h0]; decide
  have k9 : A 4 t ≠ 9 := by rw [h0]; decide
  have wk1 : A 16 t = -1 := rd_wk0 I ht ⟨by rw [h0]; decide, by rw [h0]; decide, by rw [h0]; decide⟩
  have wl8 : w.length ≤ 8 := Nat.le_trans (rd_wlen I) hn
  have wx8 : ∀ x, x ∈ w → x < 8 := fun x hx => Nat.lt_of_lt_of_le ((I.vR.2 x).mp hx).1 hn
  obtain ⟨d, hd, ed, _⟩ := rd_dpos I ht
  by_cases z : ∃ e, d = e + 1 ∧ A 19 (8 * t + e) = 0
  · refine Or.inl ?_
    obtain ⟨e, ee, ek⟩ := z
    subst ee
    have hds : e < (A 18 t).toNatClampNeg := by rw [ed, nI_clamp (by omega)]; omega
    have e1 : A 18 (nI t).toNatClampNeg - 1 = nI e := by rw [ct, ed, nI_pred]
    by_cases hl : rd_lv n (A 9) (A 10) (A 4) t (nI e)
    · have J := rd_i_leav I ht h0 (by omega) ed ek hl (fun _ => ⟨p, hp20, epl⟩)
      have nz : (rd_sw A  4 t 6) 4 t ≠ 0 := by
        show upd (A 4) t 6 t ≠ 0
        rw [rd_us]; decide
      refine ⟨n, _, _, Q, J, ⟨Nat.le_refl _, rfl, rfl, rfl, rfl, fun s hs y => ?_, fun y => absurd y nz⟩, fun y => absurd y nz, ?_, ?_⟩
      · have y : upd (A 4) t 6 s = 9 := y
        by_cases q : s = t
        · rw [q, rd_us] at y; exact absurd y (by decide)
        · rw [rd_un q] at y; exact n9 s hs y
      · intro post ra qa ql hx H
        refine br_f (by decide) <| br_f (by decide) <| br_f (by decide) <| br_f (by decide) <| br_f (by decide) <| br_f (by decide) <| br_f (by decide) <| br_f (by decide) <| br_f (by decide) <| br_f (by decide) <| br_t rfl <| ?_
        unfold wpX_doLeave
        refine rd_x_hasOnTop (by omega) ed hd (fun e' he k => br_f (by decide) ⟨i8, ?_⟩) (fun k => absurd ek (k e rfl))
        rw [e1]
        refine rd_x_hasLiving I.vN (fun _ => br_f (by decide) ?_) (fun y => absurd hl y)
        refine rd_x_waitAs (rd_RX_mk hx) (by omega) wl8 wx8 ?_
        rintro u' ⟨ra1, qa1, ql1, rfl, hx1⟩
        exact ⟨i8, i8, nm_r (e' := A 5) (by rw [ct]; exact rd_ue rfl) (H _ (rd_RX_mk hx1))⟩
      · intro post ra qa wq am rz ob fr st bl hy H
        have lv := rd_lv_bl hn (by omega) ht I.vB I.rdp hy.y6 hy.y7 hy.y8 k9 hds ek
        refine rd_y_st8 (by omega) epl ed hd (fun e' he k => ?_) (fun k => absurd ek (k e rfl))
        refine br_f (by decide) <| br_f (by decide) <| br_f (by decide) <| br_f (by decide) <| br_f (by decide) <| br_f (by decide) <| br_t rfl <| rd_y_top (by omega) ed (by omega) (rd_y_isWaitedFor I.vN hy.y9 (fun _ => br_f (by decide) ?_) (fun y => absurd (lv.mpr hl) y))
        refine rd_y_rest hy.r (by omega) wl8 wx8 (fun ra' gr => ?_)
        rw [rd_sw_eq (A := A) (k :=  16) wk1]
        have hy := rd_YL_D hy
        exact H _ (rd_RY_mk (A := rd_sw A  4 t 6) ⟨gr, hy.y2, hy.y3, rd_y4_cd hy.y4 (Or.inr ⟨k7, k8, k9⟩), hy.y5, hy.y6, hy.y7, rd_y8_cd hy.y8 (by decide) k9 k8, rd_y9_u hy.y9 rfl, hy.y10⟩)
    · have J := rd_i_pop I ht ed (by omega) (by rw [h0]; decide) (Or.inr hl)
      have J2 := rd_i_pl (p := p + 1) J ht (by omega) (Or.inl h0)
      refine ⟨n, _, w, Q, J2, rd_Gr rfl rfl rfl rfl n9, fun _ => hp, ?_, ?_⟩
      · intro post ra qa ql hx H
        refine br_f (by decide) <| br_f (by decide) <| br_f (by decide) <| br_f (by decide) <| br_f (by decide) <| br_f (by decide) <| br_f (by decide) <| br_f (by decide) <| br_f (by decide) <| br_f (by decide) <| br_t rfl <| ?_
        unfold wpX_doLeave
        refine rd_x_hasOnTop (by omega) ed hd (fun e' he k => br_f (by decide) ⟨i8, ?_⟩) (fun k => absurd ek (k e rfl))
        rw [e1]
        refine rd_x_hasLiving I.vN (fun y => absurd y hl) (fun _ => br_t rfl ⟨i8, i8, nm_r (e' := upd (A 18) t (nI e)) (by rw [ct]) ⟨i8, ?_⟩⟩)
        rw [ct, epl, nI_1]
        exact ⟨i8, nm_r (e' := upd (A 5) t (nI (p + 1))) rfl (H _ (rd_RX_mk (A := rd_sw (rd_sw A  18 t (nI e))  5 t (nI (p + 1))) hx))⟩
      · intro post ra qa wq am rz ob fr st bl hy H
        have lv := rd_lv_bl hn (by omega) ht I.vB I.rdp hy.y6 hy.y7 hy.y8 k9 hds ek
        refine rd_y_st8 (by omega) epl ed hd (fun e' he k => ?_) (fun k => absurd ek (k e rfl))
        refine br_f (by decide) <| br_f (by decide) <| br_f (by decide) <| br_f (by decide) <| br_f (by decide) <| br_f (by decide) <| br_t rfl <| rd_y_top (by omega) ed (by omega) (rd_y_isWaitedFor I.vN hy.y9 (fun y => absurd (lv.mp y) hl) (fun _ => br_t rfl ⟨i8, i8, nm_r (e' := upd (A 18) t (nI e)) (by rw [e1, ct]) ?_⟩))
        refine br_f (by decide) ⟨i8, nm_r (e' := upd (A 5) t (nI (p + 1))) (by rw [ct, nI_1]) ?_⟩
        exact H _ (rd_RY_mk (A := rd_sw (rd_sw A  18 t (nI e))  5 t (nI (p + 1))) (rd_YL_pop (rd_YL_D hy) ed (by omega)))
  · have no : ∀ e, d = e + 1 → A 19 (8 * t + e) ≠ 0 := fun e he k => z ⟨e, he, k⟩
    refine Or.inr (rd_mkO2 C 12 (by omega) (by omega) ?_ ?_)
    · intro post ra qa ql H
      refine br_f (by decide) <| br_f (by decide) <| br_f (by decide) <| br_f (by decide) <| br_f (by decide) <| br_f (by decide) <| br_f (by decide) <| br_f (by decide) <| br_f (by decide) <| br_f (by decide) <| br_t rfl <| ?_
      unfold wpX_doLeave
      exact rd_x_hasOnTop (by omega) ed hd (fun e he k => absurd k (no e he)) (fun _ => br_t rfl H)
    · intro post ra qa wq am rz ob fr st bl H
      exact rd_y_st8 (by omega) epl ed hd (fun e he k => absurd k (no e he)) (fun _ => H)
theorem rd_op12 {j : Nat} (C : rd_C n D t p b' A w Q) (hp20 : p < 20) (hj : j < 100) (ea : a = nI j) : rd_O1 n D t p 12 a b a b A w Q := by
  obtain ⟨I, ht, h0, hp, n9, epl, hpl, ebo, hbo, hD, ⟨T, hT, eT⟩, hN⟩ := id C
  have hn := I.vN.2
  have ct : (nI t).toNatClampNeg = t := nI_clamp (by omega)
  have i8 : vp_in (nI t) 8 := vp_in_nI (by omega) (by omega)
  have k7 : A 4 t ≠ 7 := by rw [h0]; decide
  have k8 : A 4 t ≠ 8 := by rw [h0]; decide
  have k9 : A 4 t ≠ 9 := by rw [h0]; decide
  have wl8 : w.length ≤ 8 := Nat.le_trans (rd_wlen I) hn
  have wx8 : ∀ x, x ∈ w → x < 8 := fun x hx => Nat.lt_of_lt_of_le ((I.vR.2 x).mp hx).1 hn
  obtain ⟨d, hd, ed, _⟩ := rd_dpos I ht
  subst ea
  by_cases z : j = 0
  · subst z
    refine rd_o_pl (q := p + 1) C A (by omega) I ⟨rfl, rfl, rfl, rfl, rfl, rfl, rfl, rfl, rfl, rfl, rfl, rfl, rfl⟩ ?_ ?_
    · intro post ra qa ql H
      refine br_f (by decide) <| br_f (by decide) <| br_f (by decide) <| br_f (by decide) <| br_f (by decide) <| br_f (by decide) <| br_f (by decide) <| br_f (by decide) <| br_f (by decide) <| br_f (by decide) <| br_f (by decide) <| br_f (by decide) <| br_f (by decide) <| br_f (by decide) <| br_t rfl <| ?_
      unfold wpX_doDelay
      refine br_t rfl ⟨i8, ?_⟩
      rw [ct, epl, nI_1]
      exact ⟨i8, nm_r (e' := upd (A 5) t (nI (p + 1))) rfl H⟩
    · intro post ra qa wq am rz ob fr st bl H
      refine rd_y_st (d := d) (by omega) epl ed hd (by decide) (by decide) (by decide) (by decide) (by decide) (Or.inr (by decide)) ?_
      refine br_f (by decide) <| br_f (by decide) <| br_f (by decide) <| br_f (by decide) <| br_f (by decide) <| br_f (by decide) <| br_f (by decide) <| br_f (by decide) <| br_f (by decide) <| br_f (by decide) <| br_t rfl <| br_t (nI_le (a := 0) (b := 0) (Nat.le_refl _) (by omega)) ?_
      exact br_f (by decide) ⟨i8, nm_r (e' := upd (A 5) t (nI (p + 1))) (by rw [ct, nI_1]) H⟩
  · have J := rd_i_wait (s := 5) I ht h0 (by omega) ⟨p, hp20, epl⟩ hp (fun y => absurd y (by decide)) (fun y => absurd y (by decide))
    have c5 : (rd_sw A  4 t 5) 4 t = 5 := rd_us
    have J2 : rd_Inv n 8 (D + 1) (rd_sw (rd_sw (rd_sw A  4 t 5)  16 t (nI (T + j)))  17 t (nI (p + 1))) (w.filter (fun x => x != t)) Q := rd_i_wake (x := T + j) J (by omega) ⟨p + 1, by omega, rfl⟩ (Or.inr (Or.inl ⟨c5, by rw [← nI_1]; exact congrArg (· + 1) epl.symm⟩))
    have nz : (rd_sw (rd_sw (rd_sw A  4 t 5)  16 t (nI (T + j)))  17 t (nI (p + 1))) 4 t ≠ 0 := by
      show upd (A 4) t 5 t ≠ 0
      rw [rd_us]; decide
    refine ⟨n, _, _, Q, J2, ⟨Nat.le_refl _, rfl, rfl, rfl, rfl, fun s hs y => ?_, fun y => absurd y nz⟩, fun y => absurd y nz, ?_, ?_⟩
    · have y : upd (A 4) t 5 s = 9 := y
      by_cases q : s = t
      · rw [q, rd_us] at y; exact absurd y (by decide)
      · rw [rd_un q] at y; exact n9 s hs y
    · intro post ra qa ql hx H
      refine br_f (by decide) <| br_f (by decide) <| br_f (by decide) <| br_f (by decide) <| br_f (by decide) <| br_f (by decide) <| br_f (by decide) <| br_f (by decide) <| br_f (by decide) <| br_f (by decide) <| br_f (by decide) <| br_f (by decide) <| br_f (by decide) <| br_f (by decide) <| br_t rfl <| ?_
      unfold wpX_doDelay
      refine br_f (nI_ne0 (by omega) (by omega)) (rd_x_waitAs (rd_RX_mk hx) (by omega) wl8 wx8 ?_)
      rintro u' ⟨ra1, qa1, ql1, rfl, hx1⟩
      refine ⟨i8, rd_x_wakeAfter (A := rd_sw A  4 t 5) (by omega) ⟨i8, i8, nm_r (e' := A 5) (by rw [ct]; exact rd_ue rfl) ?_⟩⟩
      have et : A 27 0 + nI j = nI (T + j) := by rw [eT, nI_add]
      have ep : A 5 (nI t).toNatClampNeg + 1 = nI (p + 1) := by rw [ct, epl, nI_1]
      have H' := H _ (rd_RX_mk hx1)
      rw [← et, ← ep] at H'
      exact H'
    · intro post ra qa wq am rz ob fr st bl hy H
      refine rd_y_st (d := d) (by omega) epl ed hd (by decide) (by decide) (by decide) (by decide) (by decide) (Or.inr (by decide)) ?_
      refine br_f (by decide) <| br_f (by decide) <| br_f (by decide) <| br_f (by decide) <| br_f (by decide) <| br_f (by decide) <| br_f (by decide) <| br_f (by decide) <| br_f (by decide) <| br_f (by decide) <| br_t rfl <| br_f (nI_nle (by omega) (by omega)) ?_
      refine rd_y_rest hy.r (by omega) wl8 wx8 (fun ra' gr => ?_)
      have hy := rd_YL_D hy
      refine ⟨i8, nm_r (e' := upd (A 16) t (nI (T + j))) (by rw [ct]; show upd (upd (A 16) t (-1)) t (A 27 0 + nI j) = _; rw [rd_uu, eT, nI_add]) ?_⟩
      exact H _ (rd_RY_mk (A := rd_sw (rd_sw (rd_sw A  4 t 5)  16 t (nI (T + j)))  17 t (nI (p + 1))) ⟨gr, hy.y2, hy.y3, rd_y4_cd hy.y4 (Or.inr ⟨k7, k8, k9⟩), hy.y5, hy.y6, hy.y7, rd_y8_cd hy.y8 (by decide) k9 k8, rd_y9_u hy.y9 rfl, hy.y10⟩)
end
