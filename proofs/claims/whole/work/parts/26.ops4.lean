/-! TASK and DONE -/
theorem rd_ucm {f : Nat → Int32} {i j : Nat} {x y : Int32} (h : i ≠ j) : upd (upd f i x) j y = upd (upd f j y) i x := by
  funext k
  simp only [rd_up]
  by_cases e : k = i
  · by_cases e2 : k = j
    · omega
    · simp [e, h]
  · by_cases e2 : k = j
    · simp [e2, Ne.symm h]
    · simp [e, e2]
theorem rd_YL_new {ex n e E D : Nat} {A : rd_St} {w : List Nat} {Q : Nat → List Nat} {ra ra' qa wq wq' am rz ob fr st : Nat → Int32} {bl b mk blk o : Int32} (I : rd_Inv n e E A w Q) (h : rd_YL ex n D A w Q ra qa wq am rz ob fr st bl) (h8 : n < 8) (hex : n < ex) (hm : (mk = -1 ∧ blk = -1 ∧ o = -1) ∨ ∃ m d, m < n ∧ mk = nI m ∧ A 4 m ≠ 9 ∧ A 18 m = nI d ∧ d ≤ 8 ∧ blk = rd_tb (A 19) m d ∧ o = rd_tby (A 19) fr m d) (hr : rd_LV ra' 0 (w ++ [n])) (hq : ∀ q, wq' q = if 3 * n ≤ q ∧ q < 3 * n + 3 then 0 else wq q) : rd_YL ex (n + 1) D (rd_new A n b mk blk) (w ++ [n]) Q ra' qa wq' am (upd rz n 0) (upd ob n o) fr (upd (upd st n (-1)) n 0) bl := by
  have c0 : (0 : Int32).toNatClampNeg = 0 := by decide
  have dn : ∀ u, u < n + 1 → ∀ l, l < (upd (A 18) n 0 u).toNatClampNeg → u < n ∧ l < (A 18 u).toNatClampNeg := by
    intro u hu l hl
    by_cases y : u = n
    · rw [y, rd_us, c0] at hl; omega
    · rw [rd_un y] at hl; exact ⟨by omega, hl⟩
  obtain ⟨bb, b1, b2, b3⟩ := h.y6
  refine ⟨hr, ?_, ?_, ?_, ?_, ⟨bb, b1, b2, ?_⟩, ?_, ?_, ?_, h.y10⟩
  · intro q hq24
    rw [hq q]
    by_cases z : 3 * n ≤ q ∧ q < 3 * n + 3
    · rw [if_pos z]; exact ⟨0, by omega, rfl⟩
    · rw [if_neg z]; exact h.y2 q hq24
  · intro q hqn
    rw [hq q]
    by_cases z : 3 * n ≤ q ∧ q < 3 * n + 3
    · rw [if_pos z]
      have e : Q q = [] := by
        cases hQ : Q q with
        | nil => rfl
        | cons c l =>
          have := ((I.vQ q).2 c (by rw [hQ]; simp)).2.2.2
          omega
      rw [e]
      exact ⟨rfl, trivial⟩
    · rw [if_neg z]
      exact h.y3 q (by omega)
  · intro u hu a1 a2 a3
    have a1 : upd (A 4) n 0 u ≠ 7 := a1
    have a2 : upd (A 4) n 0 u ≠ 8 := a2
    have a3 : upd (A 4) n 0 u ≠ 9 := a3
    show upd rz n 0 u = if u = ex then 0 else upd (A 12) n 0 u
    rw [if_neg (by omega)]
    by_cases y : u = n
    · rw [y, rd_us, rd_us]
    · rw [rd_un y] at a1 a2 a3
      rw [rd_un y, rd_un y]
      exact rd_y4_n h.y4 (by omega) (by omega) a1 a2 a3
  · intro u hu l hl
    obtain ⟨g1, g2⟩ := dn u hu l hl
    exact h.y5 u g1 l g2
  · intro u hu l hl
    obtain ⟨g1, g2⟩ := dn u hu l hl
    exact b3 u g1 l g2
  · intro u hu l hl k hk
    obtain ⟨g1, g2⟩ := dn u hu l hl
    obtain ⟨g3, g4⟩ := dn u hu k hk
    exact h.y7 u g1 l g2 k g4
  · intro u hu hc
    have hc : upd (A 4) n 0 u ≠ 8 := hc
    show (upd (A 9) n mk u = -1 → upd ob n o u = -1) ∧ ∀ m, m < n + 1 → upd (A 9) n mk u = nI m → (upd (A 4) n 0 m = 9 → upd ob n o u = -1) ∧ (upd (A 4) n 0 m ≠ 9 → upd (A 10) n blk u = -1 → upd ob n o u = -1) ∧ (upd (A 4) n 0 m ≠ 9 → ∀ l, l < 8 → upd (A 10) n blk u = nI l → upd ob n o u = fr (8 * m + l))
    by_cases y : u = n
    · subst y
      rw [rd_us, rd_us, rd_us]
      rcases hm with ⟨m1, m2, m3⟩ | ⟨m, d, hmn, em, m9, ed, hd, eb, eo⟩
      · refine ⟨fun _ => m3, fun m hm em => absurd (em.symm.trans m1) (rd_nm (by omega))⟩
      · refine ⟨fun z => absurd (em.symm.trans z) (rd_nm (by omega)), fun m' hm' em' => ?_⟩
        have e1 : m' = m := rd_inj (by omega) (by omega) (em'.symm.trans em)
        subst e1
        rw [rd_un (show m' ≠ u by omega)]
        refine ⟨fun z => absurd z m9, fun _ z => ?_, fun _ l hl z => ?_⟩
        · rcases rd_tb_spec (A 19) fr m' d with ⟨x1, x2⟩ | ⟨l, x1, x2, x3, x4⟩
          · rw [eo]; exact x2
          · rw [eb, x2] at z; exact absurd z (rd_nm (by omega))
        · rcases rd_tb_spec (A 19) fr m' d with ⟨x1, x2⟩ | ⟨l', x1, x2, x3, x4⟩
          · rw [eb, x1] at z; exact absurd z.symm (rd_nm (by omega))
          · rw [eb, x2] at z
            have : l' = l := rd_inj (by omega) (by omega) z
            rw [eo, x4, this]
    · rw [rd_un y] at hc
      rw [rd_un y, rd_un y, rd_un y]
      obtain ⟨a1, a2⟩ := h.y8 u (by omega) hc
      refine ⟨a1, fun m hm' em => ?_⟩
      have mn : m < n := by
        rcases I.vM u (by omega) with ⟨_, z⟩ | ⟨m2, z1, z2⟩
        · exact absurd (em.symm.trans z) (rd_nm (by omega))
        · have : m2 = m := rd_inj (by omega) (by omega) (z2.symm.trans em)
          omega
      rw [rd_un (show m ≠ n by omega)]
      exact a2 m mn em
  · intro u
    show upd (upd st n (-1)) n 0 u = rd_cv (upd (A 4) n 0 u)
    rw [rd_uu]
    exact rd_y9_u (t := n) (s := 0) (x := 0) h.y9 rfl u
theorem rd_xl_task {post : Int32 → SX → Prop} {A : rd_St} {rl : Int32} {ra qa ql : Nat → Int32} {t d : Nat} {j : Int32} (ht : t < 8) (hd : A 18 t = nI d) (hd8 : d ≤ 8) (H : wpX_makeTask (fun u => match u with | (f_rowLength_1, f_noteCount_1, f_tasks_1, f_time_1, f_done_1, f_turns_1, f_doneInTurn_1, f_inTurn_1, a_ops_1, a_firsts_1, a_seconds_1, a_lengths_1, a_condition_1, a_place_1, a_xs_1, a_ended_1, a_bodyOf_1, a_master_1, a_masterBlock_1, a_limits_1, a_pending_1, a_doomed_1, a_terminable_1, a_calledQueue_1, a_wakeTime_1, a_wakePlace_1, a_depth_1, a_frameKind_1, a_frameValue_1, a_queue_1, a_queueLength_1, a_row_1, a_noteTask_1, a_noteValue_1, a_fallen_1, a_chosen_1) => (vp_in (nI t) 8 ∧ (post ((a_place_1 (nI t).toNatClampNeg) + 1) (f_rowLength_1, f_noteCount_1, f_tasks_1, f_time_1, f_done_1, f_turns_1, f_doneInTurn_1, f_inTurn_1, a_ops_1, a_firsts_1, a_seconds_1, a_lengths_1, a_condition_1, a_place_1, a_xs_1, a_ended_1, a_bodyOf_1, a_master_1, a_masterBlock_1, a_limits_1, a_pending_1, a_doomed_1, a_terminable_1, a_calledQueue_1, a_wakeTime_1, a_wakePlace_1, a_depth_1, a_frameKind_1, a_frameValue_1, a_queue_1, a_queueLength_1, a_row_1, a_noteTask_1, a_noteValue_1, a_fallen_1, a_chosen_1)))) (rd_tX (rd_sw A  6 t (A 26 0)) rl ra qa ql) j (nI t) (rd_tb (A 19) t d)) : ∀ (e k : Nat), k + e = d → wX_doTask_22 post (nI t) j rl (A 25 0) (A 26 0) (A 27 0) (A 28 0) (A 29 0) (A 30 0) (A 31 0) (A 0) (A 1) (A 2) (A 3) (A 4) (A 5) (A 6) (A 7) (A 8) (A 9) (A 10) (A 11) (A 12) (A 13) (A 14) (A 15) (A 16) (A 17) (A 18) (A 19) (A 20) qa ql ra (A 21) (A 22) (A 32) (A 23) (e + 1) (rd_tb (A 19) t k) (nI k)
  | 0, k, h1 => by
    have e : k = d := by omega
    subst e
    have ct : (nI t).toNatClampNeg = t := nI_clamp (by omega)
    have i8 : vp_in (nI t) 8 := vp_in_nI (by omega) (by omega)
    exact ⟨i8, br_t (by rw [ct, hd]; exact nI_le (Nat.le_refl _) (by omega)) ⟨i8, nm_r (e' := upd (A 6) t (A 26 0)) (by rw [ct]) H⟩⟩
  | e + 1, k, h1 => by
    have ct : (nI t).toNatClampNeg = t := nI_clamp (by omega)
    have i8 : vp_in (nI t) 8 := vp_in_nI (by omega) (by omega)
    have ik : nI t * 8 + nI k = nI (8 * t + k) := rd_ix t k 8 8 rfl
    have ck : (nI (8 * t + k)).toNatClampNeg = 8 * t + k := nI_clamp (by omega)
    have r := rd_xl_task (post := post) ht hd hd8 H e (k + 1) (by omega)
    refine ⟨i8, br_f (by rw [ct, hd]; exact nI_ge (by omega) (by omega)) ?_⟩
    rw [ik, ck]
    refine ⟨vp_in_nI (by omega) (by omega), br_c (fun z => nm_r (nI_1 k) ?_) (fun z => nm_r (nI_1 k) ?_)⟩
    · have e' : rd_tb (A 19) t (k + 1) = nI k := by simp only [rd_tb]; rw [if_pos z]
      rw [e'] at r
      exact r
    · have e' : rd_tb (A 19) t (k + 1) = rd_tb (A 19) t k := by simp only [rd_tb]; rw [if_neg z]
      rw [e'] at r
      exact r
section
variable {n D t p b' d : Nat} {a b : Int32} {A : rd_St} {w : List Nat} {Q : Nat → List Nat}
theorem rd_y_st6 {post : SY → Prop} {rl : Int32} {ra qa wq am rz ob fr st : Nat → Int32} {bl : Int32} (ht : t < 8) (hp : A 5 t = nI p) (hd : A 18 t = nI d) (h8 : d ≤ 8) (P1 : A 26 0 ≠ 8 → wY_step_160 post (nI t) 6 a b (nI p) (A 26 0) bl rl (A 27 0) (A 28 0) (A 29 0) (A 25 0) (A 3) (A 0) (A 1) (A 2) st (A 5) (A 6) (A 11) (A 8) (A 7) rz (A 16) (A 18) (A 19) fr (A 9) ob (A 13) qa wq ra (A 33) am (A 21) (A 22)) (P0 : A 26 0 = 8 → wpY_raise (fun u => match u with | (f_tasks_1, f_blocks_1, f_readies_1, f_time_1, f_done_1, f_turns_1, f_notes_1, a_length_1, a_ops_1, a_as_1, a_bs_1, a_states_1, a_places_1, a_xs_1, a_limits_1, a_bodies_1, a_ends_1, a_raised_1, a_until_1, a_high_1, a_kinds_1, a_frames_1, a_on_1, a_onBlock_1, a_doomed_1, a_queues_1, a_waiting_1, a_row_1, a_dying_1, a_among_1, a_noteTask_1, a_noteInt_1) => post (f_tasks_1, f_blocks_1, f_readies_1, f_time_1, f_done_1, f_turns_1, f_notes_1, a_length_1, a_ops_1, a_as_1, a_bs_1, a_states_1, a_places_1, a_xs_1, a_limits_1, a_bodies_1, a_ends_1, a_raised_1, a_until_1, a_high_1, a_kinds_1, a_frames_1, a_on_1, a_onBlock_1, a_doomed_1, a_queues_1, a_waiting_1, a_row_1, a_dying_1, a_among_1, a_noteTask_1, a_noteInt_1)) (rd_tY A rl ra qa wq am rz ob fr st bl) (nI t) (nI 13)) : wpY_step post (rd_tY A rl ra qa wq am rz ob fr st bl) (nI t) 6 a b := by
  have ct : (nI t).toNatClampNeg = t := nI_clamp (by omega)
  have i8 : vp_in (nI t) 8 := vp_in_nI (by omega) (by omega)
  have G : ∀ z : Int32, (z = 0 ∨ z = 1) → (z = 1 → d = 8) → wY_step_24 post (nI t) 6 a b (nI p) z (A 26 0) bl rl (A 27 0) (A 28 0) (A 29 0) (A 25 0) (A 3) (A 0) (A 1) (A 2) st (A 5) (A 6) (A 11) (A 8) (A 7) rz (A 16) (A 18) (A 19) fr (A 9) ob (A 13) qa wq ra (A 33) am (A 21) (A 22) := fun z h1 h2 =>
    br_f (by decide) (br_f (by decide) (br_f (by decide) (br_f (by decide) (rd_y_st127 (Or.inr (by decide)) z h2 (br_t rfl (br_c (fun y => br_t rfl (P0 y)) (fun y => P1 y))) h1))))
  unfold wpY_step
  refine ⟨i8, nm_r (e' := nI p) (by rw [ct]; exact hp) ⟨i8, br_c (fun z => G 1 (Or.inr rfl) (fun _ => ?_)) (fun _ => G 0 (Or.inl rfl) (fun y => absurd y (by decide)))⟩⟩
  rw [ct, hd] at z
  exact rd_inj (by omega) (by omega) z
theorem rd_op6 {j : Nat} (C : rd_C n D t p b' A w Q) (hp20 : p < 20) (hj : j < 4) (ea : a = nI j) : rd_O1 n D t p 6 a b a b A w Q ∨ rd_O2 n D t p 6 a b a b A w Q := by
  obtain ⟨I, ht, h0, hp, n9, epl, hpl, ebo, hbo, hD, hT, hN⟩ := id C
  have hn := I.vN.2
  have hk := I.vN.1
  have ct : (nI t).toNatClampNeg = t := nI_clamp (by omega)
  have i8 : vp_in (nI t) 8 := vp_in_nI (by omega) (by omega)
  have k9 : A 4 t ≠ 9 := by rw [h0]; decide
  have k8 : A 4 t ≠ 8 := by rw [h0]; decide
  obtain ⟨d, hd, ed, ec⟩ := rd_dpos I ht
  subst ea
  by_cases z : n < 8
  · refine Or.inl ?_
    have tn : t ≠ n := by omega
    have wl : w.length < 8 := by have := rd_wlen I; omega
    have hm : (n = 0 ∧ nI t = -1 ∧ rd_tb (A 19) t d = -1) ∨ ∃ m, m < n ∧ nI t = nI m ∧ A 4 m ≠ 8 ∧ (rd_tb (A 19) t d = -1 ∨ ∃ l, rd_tb (A 19) t d = nI l ∧ l < (A 18 m).toNatClampNeg ∧ A 19 (8 * m + l) = 0) := by
      refine Or.inr ⟨t, ht, rfl, k8, ?_⟩
      rcases rd_tb_spec (A 19) (A 19) t d with ⟨x1, _⟩ | ⟨l, x1, x2, x3, _⟩
      · exact Or.inl x1
      · exact Or.inr ⟨l, x2, by omega, x3⟩
    have J := rd_i_new (b := j) (rd_i_xs (t := t) (x := nI n) I) z (by omega) hm
    have c0 : (rd_new (rd_sw A  6 t (nI n)) n (nI j) (nI t) (rd_tb (A 19) t d)) 4 t = 0 := (rd_un tn).trans h0
    have J2 := rd_i_pl (t := t) (p := p + 1) J (by omega) (by omega) (Or.inl c0)
    refine ⟨n + 1, _, w ++ [n], Q, J2, ⟨by omega, rfl, rfl, rfl, rfl, fun s hs y => ?_, fun _ => rd_hd_app⟩, fun _ => (rd_un tn).trans hp, ?_, ?_⟩
    · have y : upd (A 4) n 0 s = 9 := y
      by_cases q : s = n
      · rw [q, rd_us] at y; exact absurd y (by decide)
      · rw [rd_un q] at y; exact n9 s (by omega) y
    · intro post ra qa ql hx H
      refine br_f (by decide) <| br_f (by decide) <| br_f (by decide) <| br_f (by decide) <| br_f (by decide) <| br_f (by decide) <| br_f (by decide) <| br_f (by decide) <| br_t rfl <| ?_
      unfold wpX_doTask
      refine br_t (by rw [hk]; exact nI_lt (b := 8) z (by omega)) ⟨_, rd_xl_task (by omega) ed hd ?_ d 0 (by omega)⟩
      rw [hk]
      refine rd_x_makeTask (A := rd_sw A  6 t (nI n)) hk z wl hx.1 (fun ra' gr => ⟨i8, ?_⟩)
      have ep : upd (A 5) n 0 (nI t).toNatClampNeg + 1 = nI (p + 1) := by rw [ct, rd_un tn, epl, nI_1]
      refine ⟨i8, nm_r (e' := upd (upd (A 5) n 0) t (nI (p + 1))) ?_ ?_⟩
      · rw [ct]
        have : (rd_new (rd_sw A  6 t (nI n)) n (nI j) (nI t) (rd_tb (A 19) t d)) 5 t + 1 = nI (p + 1) := by
          show upd (A 5) n 0 t + 1 = nI (p + 1)
          rw [rd_un tn, epl, nI_1]
        rw [this]
        rfl
      · exact H _ (rd_RX_mk (A := rd_sw (rd_new (rd_sw A  6 t (nI n)) n (nI j) (nI t) (rd_tb (A 19) t d))  5 t (nI (p + 1))) ⟨gr, hx.2⟩)
    · intro post ra qa wq am rz ob fr st bl hy H
      refine rd_y_st6 (by omega) epl ed hd (fun _ => ?_) (fun y => ?_)
      · refine br_f (by decide) <| br_f (by decide) <| br_f (by decide) <| br_f (by decide) <| br_t rfl <| ?_
        refine br_f (by decide) <| br_f (by decide) <| br_f (by decide) <| br_f (by decide) <| br_f (by decide) <| br_f (by decide) <| br_f (by decide) <| br_f (by decide) <| br_t rfl <| ?_
        refine rd_y_make (blk := rd_tb (A 19) t d) hk z wl hy.r (rd_tby (A 19) fr t d) (Or.inr ⟨t, d, ht, rfl, ed, hd, rfl⟩) (fun ra' wq' g1 g2 => ?_)
        have hy2 := rd_YL_new (b := nI j) I (rd_YL_D hy) z (by omega) (Or.inr ⟨t, d, ht, rfl, k9, ed, hd, rfl, rfl⟩) g1 g2
        have en : nI (n + 1) - 1 = nI n := nI_pred n
        refine ⟨i8, nm_r (e' := upd (upd (A 6) t (nI n)) n 0) ?_ ?_⟩
        · rw [ct]
          show upd (upd (A 6) n 0) t (nI (n + 1) - 1) = _
          rw [en]
          exact rd_ucm (Ne.symm tn)
        · refine br_f (by decide) ⟨i8, nm_r (e' := upd (upd (A 5) n 0) t (nI (p + 1))) (by rw [ct, nI_1]; rfl) ?_⟩
          exact H _ (rd_RY_mk (A := rd_sw (rd_new (rd_sw A  6 t (nI n)) n (nI j) (nI t) (rd_tb (A 19) t d))  5 t (nI (p + 1))) hy2)
      · rw [hk] at y
        have : n = 8 := rd_inj (by omega) (by omega) y
        omega
  · have e8 : n = 8 := by omega
    refine Or.inr (rd_mkO2 C 13 (by omega) (by omega) ?_ ?_)
    · intro post ra qa ql H
      refine br_f (by decide) <| br_f (by decide) <| br_f (by decide) <| br_f (by decide) <| br_f (by decide) <| br_f (by decide) <| br_f (by decide) <| br_f (by decide) <| br_t rfl <| ?_
      unfold wpX_doTask
      exact br_f (by rw [hk]; exact nI_nlt (b := 8) (by omega) (by omega)) H
    · intro post ra qa wq am rz ob fr st bl H
      refine rd_y_st6 (by omega) epl ed hd (fun y => ?_) (fun _ => H)
      exact absurd (by rw [hk, e8]; rfl) y
end
