/-! meetings; ACCEPT -/
def rd_mt (A : rd_St) (t c d : Nat) : rd_St := rd_sw (rd_sw (rd_sw (rd_sw (rd_sw (rd_sw A  4 c 2)  16 c (-1))  19 (8 * t + d) 1)  20 (8 * t + d) (nI c))  18 t (nI (d + 1)))  6 t (A 6 c)
theorem rd_x_beginMeeting {A : rd_St} {rl : Int32} {ra qa ql : Nat → Int32} {t c d : Nat} {post : SX → Prop} (ht : t < 8) (hc : c < 8) (hd : A 18 t = nI d) (h8 : d < 8) (H : post (rd_tX (rd_mt A t c d) rl ra qa ql)) : wpX_beginMeeting post (rd_tX A rl ra qa ql) (nI t) (nI c) := by
  have ct : (nI t).toNatClampNeg = t := nI_clamp (by omega)
  have cc : (nI c).toNatClampNeg = c := nI_clamp (by omega)
  have it : vp_in (nI t) 8 := vp_in_nI (by omega) (by omega)
  have ic : vp_in (nI c) 8 := vp_in_nI (by omega) (by omega)
  unfold wpX_beginMeeting
  refine ⟨ic, nm_r (e' := upd (A 4) c 2) (by rw [cc]) ⟨ic, nm_r (e' := upd (A 16) c (-1)) (by rw [cc]) ?_⟩⟩
  refine rd_x_putUpR (A := rd_sw (rd_sw A  4 c 2)  16 c (-1)) ht hd h8 ⟨ic, it, nm_r (e' := upd (A 6) t (A 6 c)) (by rw [ct, cc]; rfl) H⟩
theorem rd_i_mt {n E : Nat} {A : rd_St} {w : List Nat} {Q : Nat → List Nat} {t c d : Nat} (hn : n ≤ 8) (I1 : rd_Inv n 8 E (rd_sw (rd_sw A  4 c 2)  16 c (-1)) w Q) (ht : t < n) (hc : c < n) (tc : t ≠ c) (hd : A 18 t = nI d) (h8 : d < 8) (ht0 : A 4 t = 0) (nf : rd_nf n (A 18) (A 19) (A 20) c) : rd_Inv n 8 E (rd_mt A t c d) w Q := by
  have k : (rd_sw (rd_sw A  4 c 2)  16 c (-1)) 4 t = 0 := (rd_un tc).trans ht0
  exact rd_i_xs (rd_i_push (k := 1) (v := nI c) I1 ht hd h8 ⟨by rw [k]; decide, by rw [k]; decide, by rw [k]; decide, by rw [k]; decide, by rw [k]; decide⟩ (Or.inr (Or.inl ⟨rfl, c, hc, rfl, rd_us, nf⟩)))
/-- the reference's meet -/
theorem rd_y_meet {post : SY → Prop} {n e E D : Nat} {A : rd_St} {w : List Nat} {Q : Nat → List Nat} {ra qa wq am rz ob fr st : Nat → Int32} {bl : Int32} {t c d : Nat} {q : Int32} (I : rd_Inv n e E A w Q) (I1 : rd_Inv n 8 E (rd_sw (rd_sw A  4 c 2)  16 c (-1)) (w.filter (fun x => x != c)) (rd_fq Q c)) (hy : rd_YL 8 n D A w Q ra qa wq am rz ob fr st bl) (hDD : D ≤ 500) (ht : t < n) (hc : c < n) (k7 : A 4 c ≠ 7) (k8 : A 4 c ≠ 8) (k9 : A 4 c ≠ 9) (hd : A 18 t = nI d) (h8 : d < 8) (H : ∀ ra' qa' wq', rd_YL 8 n (D + 1) (rd_sw (rd_mt A t c d)  5 t q) (w.filter (fun x => x != c)) (rd_fq Q c) ra' qa' wq' am rz ob (upd fr (8 * t + d) (nI c)) (upd st c 2) bl → post (rd_tY (rd_sw (rd_mt A t c d)  5 t q) (nI (w.filter (fun x => x != c)).length) ra' qa' wq' am rz ob (upd fr (8 * t + d) (nI c)) (upd st c 2) bl)) : wpY_meet post (rd_tY A (nI w.length) ra qa wq am rz ob fr st bl) (nI t) (nI c) q := by
  have hn := I.vN.2
  have ct : (nI t).toNatClampNeg = t := nI_clamp (by omega)
  have cc : (nI c).toNatClampNeg = c := nI_clamp (by omega)
  have it : vp_in (nI t) 8 := vp_in_nI (by omega) (by omega)
  have ic : vp_in (nI c) 8 := vp_in_nI (by omega) (by omega)
  unfold wpY_meet
  refine rd_y_leaveQueues hn (by omega) (fun q => Nat.le_trans (rd_qlen I) hn) (fun q x hx => Nat.lt_of_lt_of_le ((I.vQ q).2 x hx).1 hn) hy.y2 hy.y3 (fun qa' wq' g2 g3 => ?_)
  refine rd_y_rest hy.r (by omega) (Nat.le_trans (rd_wlen I) hn) (fun x hx => Nat.lt_of_lt_of_le ((I.vR.2 x).mp hx).1 hn) (fun ra' gr => ?_)
  have hy1 : rd_YL 8 n D (rd_sw (rd_sw A  4 c 2)  16 c (-1)) (w.filter (fun x => x != c)) (rd_fq Q c) ra' qa' wq' am rz ob fr (upd st c 2) bl := ⟨gr, g2, g3, rd_y4_cd hy.y4 (Or.inr ⟨k7, k8, k9⟩), hy.y5, hy.y6, hy.y7, rd_y8_cd hy.y8 (by decide) k9 k8, rd_y9_u hy.y9 rfl, hy.y10⟩
  have hy2 := rd_YL_push (k := 1) (v := nI c) (f := nI c) I1 ht hd h8 hDD hy1 (Or.inl ⟨by decide, rfl, rfl⟩)
  refine rd_y_push (A := rd_sw (rd_sw A  4 c 2)  16 c (-1)) (by omega) hd h8 (nI c) ?_
  exact ⟨ic, it, nm_r (e' := upd (A 6) t (A 6 c)) (by rw [ct, cc]; rfl) ⟨it, nm_r (e' := upd (A 5) t q) (by rw [ct]; rfl) (H ra' qa' wq' hy2)⟩⟩
/-- the first of a queue: a caller -/
theorem rd_first {n e E : Nat} {A : rd_St} {w : List Nat} {Q : Nat → List Nat} {q c : Nat} {L : List Nat} (I : rd_Inv n e E A w Q) (hq : Q q = c :: L) : c < n ∧ A 4 c = 1 ∧ A 15 c = nI q ∧ q < 3 * n := (I.vQ q).2 c (by rw [hq]; simp)
theorem rd_x_meetFirst {n e E : Nat} {A : rd_St} {w : List Nat} {Q : Nat → List Nat} {u : SX} {t q c d : Nat} {L : List Nat} {post : SX → Prop} (I : rd_Inv n e E A w Q) (hu : rd_RX A w Q u) (ht : t < n) (hq : Q q = c :: L) (hd : A 18 t = nI d) (h8 : d < 8) (H : ∀ u', rd_RX (rd_mt A t c d) w (rd_fq Q c) u' → post u') : wpX_meetFirstOf post u (nI t) (nI q) := by
  have hn := I.vN.2
  obtain ⟨hc, c1, ccq, hq3⟩ := rd_first I hq
  obtain ⟨ra, qa, ql, rfl, hx⟩ := hu
  have i8 : nI q * 8 = nI (8 * q) := by
    have := rd_ix q 0 8 8 rfl
    rw [nI_0, Int32.add_zero] at this
    exact this
  have hl := (hx.2 q (by omega)).2
  rw [hq] at hl
  unfold wpX_meetFirstOf
  refine ⟨by rw [i8]; exact vp_in_nI (by omega) (by omega), nm_r (e' := nI c) (by rw [i8, nI_clamp (by omega)]; exact hl.1) ?_⟩
  refine rd_x_leaveQueue (rd_RX_mk hx) (by omega) (show q < 24 by omega) ccq (fun p => Nat.le_trans (rd_qlen I) hn) (fun x hx => Nat.lt_of_lt_of_le ((I.vQ q).2 x hx).1 hn) ?_
  rw [rd_dq_fq hn I.vQ ccq (by omega)]
  rintro u' ⟨ra1, qa1, ql1, rfl, hx1⟩
  refine rd_x_beginMeeting (by omega) (by omega) hd h8 ?_
  exact H _ (rd_RX_mk hx1)
section
variable {n D t p b' d : Nat} {a b : Int32} {A : rd_St} {w : List Nat} {Q : Nat → List Nat}
/-- a meeting with the first of a queue: the outcome, on both sides, the task going on at q -/
theorem rd_o_meet {op : Int32} {k c q : Nat} {L : List Nat} (C : rd_C n D t p b' A w Q) (hq : Q k = c :: L) (ed : A 18 t = nI d) (h8 : d < 8) (hq21 : q ≤ 21) (X : ∀ (post : SX → Prop) (ra qa ql : Nat → Int32), rd_XL w Q ra qa ql → (∀ P2 : SX → Prop, (∀ u', rd_RX (rd_mt A t c d) w (rd_fq Q c) u' → P2 u') → wpX_meetFirstOf P2 (rd_tX A (nI w.length) ra qa ql) (nI t) (nI k)) → (∀ u', rd_RX (rd_sw (rd_mt A t c d)  5 t (nI q)) w (rd_fq Q c) u' → post u') → wX_perform_119 post (nI t) (nI (p + 1)) op a b (nI w.length) (A 25 0) (A 26 0) (A 27 0) (A 28 0) (A 29 0) (A 30 0) (A 31 0) (A 0) (A 1) (A 2) (A 3) (A 4) (A 5) (A 6) (A 7) (A 8) (A 9) (A 10) (A 11) (A 12) (A 13) (A 14) (A 15) (A 16) (A 17) (A 18) (A 19) (A 20) qa ql ra (A 21) (A 22) (A 32) (A 23)) (Y : ∀ (post : SY → Prop) (ra qa wq am rz ob fr st : Nat → Int32) (bl : Int32), rd_YL 8 n D A w Q ra qa wq am rz ob fr st bl → wpY_meet (fun u => match u with | (f_tasks_1, f_blocks_1, f_readies_1, f_time_1, f_done_1, f_turns_1, f_notes_1, a_length_1, a_ops_1, a_as_1, a_bs_1, a_states_1, a_places_1, a_xs_1, a_limits_1, a_bodies_1, a_ends_1, a_raised_1, a_until_1, a_high_1, a_kinds_1, a_frames_1, a_on_1, a_onBlock_1, a_doomed_1, a_queues_1, a_waiting_1, a_row_1, a_dying_1, a_among_1, a_noteTask_1, a_noteInt_1) => post (f_tasks_1, f_blocks_1, f_readies_1, f_time_1, f_done_1, f_turns_1, f_notes_1, a_length_1, a_ops_1, a_as_1, a_bs_1, a_states_1, a_places_1, a_xs_1, a_limits_1, a_bodies_1, a_ends_1, a_raised_1, a_until_1, a_high_1, a_kinds_1, a_frames_1, a_on_1, a_onBlock_1, a_doomed_1, a_queues_1, a_waiting_1, a_row_1, a_dying_1, a_among_1, a_noteTask_1, a_noteInt_1)) (rd_tY A (nI w.length) ra qa wq am rz ob fr st bl) (nI t) (nI c) (nI q) → wpY_step post (rd_tY A (nI w.length) ra qa wq am rz ob fr st bl) (nI t) op a b) : rd_O1 n D t p op a b a b A w Q := by
  obtain ⟨I, ht, h0, hp, n9, epl, hpl, ebo, hbo, hD, hT, hN⟩ := id C
  have hn := I.vN.2
  obtain ⟨hc, c1, ccq, hk⟩ := rd_first I hq
  have tc : t ≠ c := fun y => by rw [← y, h0] at c1; exact absurd c1 (by decide)
  have k0 : A 4 c ≠ 0 := by rw [c1]; decide
  have k2 : A 4 c ≠ 2 := by rw [c1]; decide
  have k7 : A 4 c ≠ 7 := by rw [c1]; decide
  have k8 : A 4 c ≠ 8 := by rw [c1]; decide
  have k9 : A 4 c ≠ 9 := by rw [c1]; decide
  have wf : w.filter (fun x => x != c) = w := rd_fl_not (fun y => k0 ((I.vR.2 c).mp y).2)
  have I1 := rd_i_serve I hc c1
  have I2 := rd_i_mt hn I1 ht hc tc ed h8 h0 (rd_nf_of hn I.vF hc k2)
  have c0 : (rd_mt A t c d) 4 t = 0 := (rd_un tc).trans h0
  have I3 := rd_i_pl (t := t) (p := q) I2 ht hq21 (Or.inl c0)
  refine ⟨n, _, w, rd_fq Q c, I3, ⟨Nat.le_refl _, rfl, rfl, rfl, rfl, fun s hs y => ?_, fun _ => id⟩, fun _ => hp, ?_, ?_⟩
  · have y : upd (A 4) c 2 s = 9 := y
    by_cases r : s = c
    · rw [r, rd_us] at y; exact absurd y (by decide)
    · rw [rd_un r] at y; exact n9 s hs y
  · intro post ra qa ql hx H
    exact X post ra qa ql hx (fun P2 h => rd_x_meetFirst I (rd_RX_mk hx) ht hq ed h8 h) H
  · intro post ra qa wq am rz ob fr st bl hy H
    refine Y post ra qa wq am rz ob fr st bl hy ?_
    refine rd_y_meet I (by rw [wf]; exact I1) hy (by omega) ht hc k7 k8 k9 ed h8 (fun ra' qa' wq' hy2 => ?_)
    rw [wf] at hy2 ⊢
    exact H _ (rd_RY_mk hy2)
theorem rd_op13 {j : Nat} (C : rd_C n D t p b' A w Q) (hp20 : p < 20) (hj : j < 3) (ea : a = nI j) : rd_O1 n D t p 13 a b a b A w Q ∨ rd_O2 n D t p 13 a b a b A w Q := by
  obtain ⟨I, ht, h0, hp, n9, epl, hpl, ebo, hbo, hD, hT, hN⟩ := id C
  have hn := I.vN.2
  have ct : (nI t).toNatClampNeg = t := nI_clamp (by omega)
  have i8 : vp_in (nI t) 8 := vp_in_nI (by omega) (by omega)
  have k7 : A 4 t ≠ 7 := by rw [h0]; decide
  have k8 : A 4 t ≠ 8 := by rw [h0]; decide
  have k9 : A 4 t ≠ 9 := by rw [h0]; decide
  have wk1 : A 16 t = -1 := rd_wk0 I ht ⟨by rw [h0]; decide, by rw [h0]; decide, by rw [h0]; decide⟩
  have wl8 : w.length ≤ 8 := Nat.le_trans (rd_wlen I) hn
  have wx8 : ∀ x, x ∈ w → x < 8 := fun x hx => Nat.lt_of_lt_of_le ((I.vR.2 x).mp hx).1 hn
  have iq : nI t * 3 + nI j = nI (3 * t + j) := rd_ix t j 3 3 rfl
  have iq' : 3 * nI t + nI j = nI (3 * t + j) := rd_ix' t j 3 3 rfl
  have cq : (nI (3 * t + j)).toNatClampNeg = 3 * t + j := nI_clamp (by omega)
  have i24 : vp_in (nI (3 * t + j)) 24 := vp_in_nI (by omega) (by omega)
  obtain ⟨d, hd, ed, _⟩ := rd_dpos I ht
  subst ea
  by_cases z : d < 8
  · refine Or.inl ?_
    cases hQ : Q (3 * t + j) with
    | nil =>
      have J := rd_i_wait (s := 3) I ht h0 (by omega) ⟨p, hp20, epl⟩ hp (fun _ => ⟨d, z, ed⟩) (fun y => absurd y (by decide))
      have nz : (rd_sw A  4 t 3) 4 t ≠ 0 := by
        show upd (A 4) t 3 t ≠ 0
        rw [rd_us]; decide
      refine ⟨n, rd_sw A  4 t 3, _, Q, J, ⟨Nat.le_refl _, rfl, rfl, rfl, rfl, fun s hs y => ?_, fun y => absurd y nz⟩, fun y => absurd y nz, ?_, ?_⟩
      · have y : upd (A 4) t 3 s = 9 := y
        by_cases r : s = t
        · rw [r, rd_us] at y; exact absurd y (by decide)
        · rw [rd_un r] at y; exact n9 s hs y
      · intro post ra qa ql hx H
        have e0 := (hx.2 (3 * t + j) (by omega)).1
        rw [hQ] at e0
        refine br_f (by decide) <| br_f (by decide) <| br_f (by decide) <| br_f (by decide) <| br_f (by decide) <| br_f (by decide) <| br_f (by decide) <| br_f (by decide) <| br_f (by decide) <| br_f (by decide) <| br_f (by decide) <| br_f (by decide) <| br_f (by decide) <| br_f (by decide) <| br_f (by decide) <| br_t rfl <| ?_
        unfold wpX_doAccept
        refine ⟨i8, br_t (by rw [ct, ed]; exact nI_lt (b := 8) z (by omega)) (nm_r iq ⟨i24, br_t (by rw [cq]; exact e0) (rd_x_waitAs (rd_RX_mk hx) (by omega) wl8 wx8 ?_)⟩)⟩
        rintro u' ⟨ra1, qa1, ql1, rfl, hx1⟩
        exact ⟨i8, i8, nm_r (e' := A 5) (by rw [ct]; exact rd_ue rfl) (H _ (rd_RX_mk hx1))⟩
      · intro post ra qa wq am rz ob fr st bl hy H
        have e0 := (hy.y3 (3 * t + j) (by omega)).1
        rw [hQ] at e0
        refine rd_y_st (d := d) (by omega) epl ed hd (by decide) (by decide) (by decide) (by decide) (by decide) (Or.inl z) ?_
        refine br_f (by decide) <| br_f (by decide) <| br_f (by decide) <| br_f (by decide) <| br_f (by decide) <| br_f (by decide) <| br_f (by decide) <| br_f (by decide) <| br_f (by decide) <| br_f (by decide) <| br_f (by decide) <| br_t rfl <| ⟨by rw [iq']; exact i24, br_t (by rw [iq', cq]; exact e0) ?_⟩
        refine rd_y_rest hy.r (by omega) wl8 wx8 (fun ra' gr => ?_)
        rw [rd_sw_eq (A := A) (k :=  16) wk1]
        have hy := rd_YL_D hy
        exact H _ (rd_RY_mk (A := rd_sw A  4 t 3) ⟨gr, hy.y2, hy.y3, rd_y4_cd hy.y4 (Or.inr ⟨k7, k8, k9⟩), hy.y5, hy.y6, hy.y7, rd_y8_cd hy.y8 (by decide) k9 k8, rd_y9_u hy.y9 rfl, hy.y10⟩)
    | cons c L =>
      refine rd_o_meet (q := p + 1) C hQ ed z (by omega) ?_ ?_
      · intro post ra qa ql hx K H
        have e0 := (hx.2 (3 * t + j) (by omega)).1
        have hl8 := rd_qlen (q := 3 * t + j) I
        rw [hQ] at e0 hl8
        refine br_f (by decide) <| br_f (by decide) <| br_f (by decide) <| br_f (by decide) <| br_f (by decide) <| br_f (by decide) <| br_f (by decide) <| br_f (by decide) <| br_f (by decide) <| br_f (by decide) <| br_f (by decide) <| br_f (by decide) <| br_f (by decide) <| br_f (by decide) <| br_f (by decide) <| br_t rfl <| ?_
        unfold wpX_doAccept
        refine ⟨i8, br_t (by rw [ct, ed]; exact nI_lt (b := 8) z (by omega)) (nm_r iq ⟨i24, br_f (by rw [cq, e0]; exact nI_ne0 (by simp) (by omega)) (K _ ?_)⟩)⟩
        rintro u' ⟨ra1, qa1, ql1, rfl, hx1⟩
        exact ⟨i8, i8, nm_r (e' := upd (A 5) t (nI (p + 1))) (by rw [ct]; show upd (A 5) t (A 5 t + 1) = _; rw [epl, nI_1]) (H _ (rd_RX_mk (A := rd_sw (rd_mt A t c d)  5 t (nI (p + 1))) hx1))⟩
      · intro post ra qa wq am rz ob fr st bl hy P
        obtain ⟨e0, e1⟩ := hy.y3 (3 * t + j) (by omega)
        have hl8 := rd_qlen (q := 3 * t + j) I
        rw [hQ] at e0 e1 hl8
        have i8' : 8 * nI (3 * t + j) = nI (8 * (3 * t + j)) := by
          have := rd_ix' (3 * t + j) 0 8 8 rfl
          rw [nI_0, Int32.add_zero] at this
          exact this
        refine rd_y_st (d := d) (by omega) epl ed hd (by decide) (by decide) (by decide) (by decide) (by decide) (Or.inl z) ?_
        refine br_f (by decide) <| br_f (by decide) <| br_f (by decide) <| br_f (by decide) <| br_f (by decide) <| br_f (by decide) <| br_f (by decide) <| br_f (by decide) <| br_f (by decide) <| br_f (by decide) <| br_f (by decide) <| br_t rfl <| ⟨by rw [iq']; exact i24, br_f (by rw [iq', cq, e0]; exact nI_ne0 (by simp) (by omega)) ?_⟩
        rw [iq', i8', nI_clamp (show 8 * (3 * t + j) < 2 ^ 31 by omega), e1.1, nI_1]
        exact ⟨vp_in_nI (by omega) (by omega), P⟩
  · refine Or.inr (rd_mkO2 C 13 (by omega) (by omega) ?_ ?_)
    · intro post ra qa ql H
      refine br_f (by decide) <| br_f (by decide) <| br_f (by decide) <| br_f (by decide) <| br_f (by decide) <| br_f (by decide) <| br_f (by decide) <| br_f (by decide) <| br_f (by decide) <| br_f (by decide) <| br_f (by decide) <| br_f (by decide) <| br_f (by decide) <| br_f (by decide) <| br_f (by decide) <| br_t rfl <| ?_
      unfold wpX_doAccept
      exact ⟨i8, br_f (by rw [ct, ed]; exact nI_nlt (b := 8) (by omega) (by omega)) H⟩
    · intro post ra qa wq am rz ob fr st bl H
      exact rd_y_stf (by omega) epl (by rw [ed]; congr 1; omega) (by decide) (by decide) (by decide) (by decide) (Or.inr (Or.inl rfl)) H
end
