/-! ABORT -/
def rd_TP (t p : Nat) (w0 : List Nat) (A : rd_St) (w : List Nat) : Prop := (A 4 t = 0 ∧ A 5 t = nI p ∧ A 12 t = 0 ∧ (w0.head? = some t → w.head? = some t)) ∨ A 4 t = 7 ∨ A 4 t = 8
def rd_K4 (A B : rd_St) : Prop := B 28 = A 28 ∧ B 30 = A 30 ∧ B 31 = A 31 ∧ B 29 = A 29
theorem rd_K4_w {A B : rd_St} (h : rd_stw A B) : rd_K4 A B := ⟨h _ (by decide) (by decide) (by decide) (by decide) (by decide) (by decide) (by decide) (by decide) (by decide), h _ (by decide) (by decide) (by decide) (by decide) (by decide) (by decide) (by decide) (by decide) (by decide), h _ (by decide) (by decide) (by decide) (by decide) (by decide) (by decide) (by decide) (by decide) (by decide), h _ (by decide) (by decide) (by decide) (by decide) (by decide) (by decide) (by decide) (by decide) (by decide)⟩
theorem rd_K4_tr {A B C : rd_St} (h : rd_K4 A B) (g : rd_K4 B C) : rd_K4 A C := ⟨g.1.trans h.1, g.2.1.trans h.2.1, g.2.2.1.trans h.2.2.1, g.2.2.2.trans h.2.2.2⟩
theorem rd_abl {n D t p : Nat} {w0 : List Nat} (ht : t < n) : ∀ (d k : Nat), k + d = n → ∀ (A : rd_St) (w : List Nat) (Q : Nat → List Nat), rd_Inv n 8 D A w Q → (∀ s, s < n → A 4 s ≠ 9) → (∀ u, u < n → A 23 u = A 24 u) → (∀ u, n ≤ u → u < 8 → A 24 u = 0) → (∀ u, u < 8 → A 34 u = 1) → rd_TP t p w0 A w → ∃ B x R, rd_Inv n 8 D B x R ∧ (∀ s, s < n → B 4 s ≠ 9) ∧ ((∀ u, n ≤ u → u < 8 → B 24 u = 0) ∧ ∀ u, u < 8 → B 34 u = 1) ∧ rd_TP t p w0 B x ∧ rd_K4 A B ∧
    (∀ (post : Int32 → SX → Prop) (ra qa ql : Nat → Int32), rd_XL w Q ra qa ql → (∀ ra qa ql, rd_XL x R ra qa ql → wX_doAbort_33 post (nI t) 1 (nI n) (nI x.length) (B 25 0) (B 26 0) (B 27 0) (B 28 0) (B 29 0) (B 30 0) (B 31 0) (B 0) (B 1) (B 2) (B 3) (B 4) (B 5) (B 6) (B 7) (B 8) (B 9) (B 10) (B 11) (B 12) (B 13) (B 14) (B 15) (B 16) (B 17) (B 18) (B 19) (B 20) qa ql ra (B 21) (B 22) (B 32) (B 23)) → wX_doAbort_33 post (nI t) (d + 1) (nI k) (nI w.length) (A 25 0) (A 26 0) (A 27 0) (A 28 0) (A 29 0) (A 30 0) (A 31 0) (A 0) (A 1) (A 2) (A 3) (A 4) (A 5) (A 6) (A 7) (A 8) (A 9) (A 10) (A 11) (A 12) (A 13) (A 14) (A 15) (A 16) (A 17) (A 18) (A 19) (A 20) qa ql ra (A 21) (A 22) (A 32) (A 23)) ∧
    (∀ (post : SY → Prop) (ra qa wq am rz ob fr st : Nat → Int32) (bl : Int32), rd_YL 8 n D A w Q ra qa wq am rz ob fr st bl → (∀ ra qa wq am rz ob fr st bl, rd_YL 8 n D B x R ra qa wq am rz ob fr st bl → wY_abort_48 post (9 - n) (nI n) (B 26 0) bl (nI x.length) (B 27 0) (B 28 0) (B 29 0) (B 25 0) (B 3) (B 0) (B 1) (B 2) st (B 5) (B 6) (B 11) (B 8) (B 7) rz (B 16) (B 18) (B 19) fr (B 9) ob (B 13) qa wq ra (B 33) am (B 21) (B 22)) → wY_abort_48 post (d + (9 - n)) (nI k) (A 26 0) bl (nI w.length) (A 27 0) (A 28 0) (A 29 0) (A 25 0) (A 3) (A 0) (A 1) (A 2) st (A 5) (A 6) (A 11) (A 8) (A 7) rz (A 16) (A 18) (A 19) fr (A 9) ob (A 13) qa wq ra (A 33) am (A 21) (A 22))
  | 0, k, hk, A, w, Q, I, n9, h1, h2, hg, hT => by
    have e : k = n := by omega
    subst e
    refine ⟨A, w, Q, I, n9, ⟨h2, hg⟩, hT, ⟨rfl, rfl, rfl, rfl⟩, fun post ra qa ql hx H => H ra qa ql hx, fun post ra qa wq am rz ob fr st bl hy H => ?_⟩
    rw [Nat.zero_add]
    exact H ra qa wq am rz ob fr st bl hy
  | d + 1, k, hk, A, w, Q, I, n9, h1, h2, hg, hT => by
    have hn := I.vN.2
    have hkn : k < n := by omega
    have ck : (nI k).toNatClampNeg = k := nI_clamp (by omega)
    have i8 : vp_in (nI k) 8 := vp_in_nI (by omega) (by omega)
    have fu : d + 1 + (9 - n) = (d + (9 - n)) + 1 := by omega
    have tk : ¬ A 26 0 ≤ nI k := by rw [I.vN.1]; exact nI_ge (by omega) (by omega)
    have k8 : ¬ (8 : Int32) ≤ nI k := nI_ge (b := 8) (by omega) (by omega)
    by_cases skip : A 23 k = 0 ∨ A 4 k = 7 ∨ A 4 k = 8
    · obtain ⟨B, x, R, J, m9, m2, mT, mK, X, Y⟩ := rd_abl ht d (k + 1) (by omega) A w Q I n9 h1 h2 hg hT
      refine ⟨B, x, R, J, m9, m2, mT, mK, ?_, ?_⟩
      · intro post ra qa ql hx H
        have nx := X post ra qa ql hx H
        refine br_f tk ⟨i8, ?_⟩
        rw [ck]
        by_cases c0 : A 23 k = 0
        · exact br_t c0 (nm_r (nI_1 k) nx)
        · refine br_f c0 (rd_x_isThere I.vN (by omega) (fun _ a2 a3 => ?_) (fun _ => br_t rfl (nm_r (nI_1 k) nx)))
          rcases skip with y | y | y
          · exact absurd y c0
          · exact absurd y a2
          · exact absurd y a3
      · intro post ra qa wq am rz ob fr st bl hy H
        have nx := Y post ra qa wq am rz ob fr st bl hy H
        rw [fu]
        refine br_f k8 ⟨i8, ?_⟩
        rw [ck]
        rw [hy.y10 k (by omega) (hg k (by omega))]
        by_cases c0 : A 24 k = 0
        · exact br_t c0 (nm_r (nI_1 k) nx)
        · refine br_f c0 ⟨i8, ?_⟩
          rw [hy.y9 k]
          by_cases c7 : A 4 k = 7
          · exact br_t (by rw [c7]; rfl) (nm_r (nI_1 k) nx)
          · refine br_f (fun y => c7 ((rd_cv_eq (by decide) (by decide)).mp y)) ⟨i8, ?_⟩
            rcases skip with y | y | y
            · rw [h1 k hkn] at y; exact absurd y c0
            · exact absurd y c7
            · exact br_t (by rw [y]; rfl) (nm_r (nI_1 k) nx)
    · have c0 : A 23 k ≠ 0 := fun y => skip (Or.inl y)
      have c7 : A 4 k ≠ 7 := fun y => skip (Or.inr (Or.inl y))
      have c8 : A 4 k ≠ 8 := fun y => skip (Or.inr (Or.inr y))
      have a0 : A 24 k ≠ 0 := by rw [← h1 k hkn]; exact c0
      by_cases c2 : A 4 k = 2
      · have I1 : rd_Inv n 8 D (rd_sw A  13 k 1) w Q := rd_i_dm (c := 1) I (by omega)
        obtain ⟨B, x, R, J, m9, m2, mT, mK, X, Y⟩ := rd_abl (p := p) (w0 := w0) ht d (k + 1) (by omega) (rd_sw A  13 k 1) w Q I1 n9 h1 h2 hg hT
        refine ⟨B, x, R, J, m9, m2, mT, rd_K4_tr ⟨rfl, rfl, rfl, rfl⟩ mK, ?_, ?_⟩
        · intro post ra qa ql hx H
          have nx := X post ra qa ql hx H
          refine br_f tk ⟨i8, ?_⟩
          rw [ck]
          refine br_f c0 (rd_x_isThere I.vN (by omega) (fun _ _ _ => br_f (by decide) ⟨i8, br_t c2 ⟨i8, nm_r (e' := upd (A 13) k 1) (by rw [rd_nb1]) (nm_r (nI_1 k) nx)⟩⟩) (fun y => absurd ⟨hkn, c7, c8⟩ y))
        · intro post ra qa wq am rz ob fr st bl hy H
          have nx := Y post ra qa wq am rz ob fr st bl hy H
          rw [fu]
          refine br_f k8 ⟨i8, ?_⟩
          rw [ck, hy.y10 k (by omega) (hg k (by omega))]
          refine br_f a0 ⟨i8, ?_⟩
          rw [hy.y9 k, rd_cv_n (n9 k hkn)]
          exact br_f c7 ⟨i8, br_f c8 ⟨i8, br_t c2 ⟨i8, nm_r (e' := upd (A 13) k 1) (by rw [rd_nb1]) (nm_r (nI_1 k) nx)⟩⟩⟩
      · obtain ⟨B1, x1, R1, J1, F, X1, Y1⟩ := rd_bd (ex := 8) (t := k) 14 I hkn c7 c8 (rd_nf_of hn I.vF hkn c2) n9 (fun y => by omega)
        have ech : B1 23 = A 23 := F.1 _ (by decide) (by decide) (by decide) (by decide) (by decide) (by decide) (by decide) (by decide) (by decide)
        have eam : B1 24 = A 24 := F.1 _ (by decide) (by decide) (by decide) (by decide) (by decide) (by decide) (by decide) (by decide) (by decide)
        have egl : B1 34 = A 34 := F.1 _ (by decide) (by decide) (by decide) (by decide) (by decide) (by decide) (by decide) (by decide) (by decide)
        have hT1 : rd_TP t p w0 B1 x1 := by
          rcases hT with ⟨a1, a2, a3, a4⟩ | y
          · by_cases e : t = k
            · rw [e]; exact Or.inr F.2.2.2.2.2.1
            · have kt := F.2.2.1 t ⟨a1, e⟩
              exact Or.inl ⟨kt.1.trans a1, kt.2.1.trans a2, kt.2.2.1.trans a3, fun q => kt.2.2.2.2 (a4 q)⟩
          · exact Or.inr (F.2.2.2.2.1 t y)
        obtain ⟨B, x, R, J, m9, m2, mT, mK, X, Y⟩ := rd_abl (p := p) (w0 := w0) ht d (k + 1) (by omega) B1 x1 R1 J1 F.2.2.2.1 (by rw [ech, eam]; exact h1) (by rw [eam]; exact h2) (by rw [egl]; exact hg) hT1
        refine ⟨B, x, R, J, m9, m2, mT, rd_K4_tr (rd_K4_w F.1) mK, ?_, ?_⟩
        · intro post ra qa ql hx H
          refine br_f tk ⟨i8, ?_⟩
          rw [ck]
          refine br_f c0 (rd_x_isThere I.vN (by omega) (fun _ _ _ => br_f (by decide) ⟨i8, br_f c2 (X1 _ _ (rd_RX_mk hx) ?_)⟩) (fun y => absurd ⟨hkn, c7, c8⟩ y))
          rintro u' ⟨ra1, qa1, ql1, rfl, hx1⟩
          exact nm_r (nI_1 k) (X post ra1 qa1 ql1 hx1 H)
        · intro post ra qa wq am rz ob fr st bl hy H
          rw [fu]
          refine br_f k8 ⟨i8, ?_⟩
          rw [ck, hy.y10 k (by omega) (hg k (by omega))]
          refine br_f a0 ⟨i8, ?_⟩
          rw [hy.y9 k, rd_cv_n (n9 k hkn)]
          refine br_f c7 ⟨i8, br_f c8 ⟨i8, br_f c2 (Y1 _ _ (rd_RY_mk hy) ?_)⟩⟩
          rintro v' ⟨ra1, qa1, wq1, am1, rz1, ob1, fr1, st1, bl1, rfl, hy1⟩
          exact nm_r (nI_1 k) (Y post ra1 qa1 wq1 am1 rz1 ob1 fr1 st1 bl1 hy1 H)
theorem rd_yl_abt {post : SY → Prop} {A : rd_St} {rl : Int32} {ra qa wq am rz ob fr st : Nat → Int32} {bl : Int32} (P : post (rd_tY A rl ra qa wq am rz ob fr st bl)) : ∀ (d k : Nat), k + d = 8 → (∀ u, k ≤ u → u < 8 → am u = 0) → wY_abort_48 post (d + 1) (nI k) (A 26 0) bl rl (A 27 0) (A 28 0) (A 29 0) (A 25 0) (A 3) (A 0) (A 1) (A 2) st (A 5) (A 6) (A 11) (A 8) (A 7) rz (A 16) (A 18) (A 19) fr (A 9) ob (A 13) qa wq ra (A 33) am (A 21) (A 22)
  | 0, k, h1, h2 => by
    have e : k = 8 := by omega
    subst e
    exact br_t (nI_le (a := 8) (b := 8) (by omega) (by omega)) P
  | d + 1, k, h1, h2 => by
    have ck : (nI k).toNatClampNeg = k := nI_clamp (by omega)
    exact br_f (nI_ge (b := 8) (by omega) (by omega)) ⟨vp_in_nI (by omega) (by omega), br_t (by rw [ck]; exact h2 k (Nat.le_refl _) (by omega)) (nm_r (nI_1 k) (rd_yl_abt P d (k + 1) (by omega) (fun u a b => h2 u (by omega) b)))⟩
section
variable {n D t p b' d : Nat} {a b : Int32} {A : rd_St} {w : List Nat} {Q : Nat → List Nat}
theorem rd_op24 {v : Nat} (C : rd_C n D t p b' A w Q) (hp20 : p < 20) (hv : v < 8) (ea : a = nI v) : rd_O1 n D t p 24 a b a b A w Q := by
  obtain ⟨I, ht, h0, hp, n9, epl, hpl, ebo, hbo, hD, hT, hN⟩ := id C
  have hn := I.vN.2
  have ct : (nI t).toNatClampNeg = t := nI_clamp (by omega)
  have i8 : vp_in (nI t) 8 := vp_in_nI (by omega) (by omega)
  have cv : (nI v).toNatClampNeg = v := nI_clamp (by omega)
  have i8v : vp_in (nI v) 8 := vp_in_nI hv (by omega)
  obtain ⟨d, hd, ed, _⟩ := rd_dpos I ht
  subst ea
  have tail : ∀ (post : SY → Prop) (B : rd_St) (rl : Int32) (ra qa wq am rz ob fr st : Nat → Int32) (bl : Int32), wpY_abort (fun u => match u with | (f_tasks_1, f_blocks_1, f_readies_1, f_time_1, f_done_1, f_turns_1, f_notes_1, a_length_1, a_ops_1, a_as_1, a_bs_1, a_states_1, a_places_1, a_xs_1, a_limits_1, a_bodies_1, a_ends_1, a_raised_1, a_until_1, a_high_1, a_kinds_1, a_frames_1, a_on_1, a_onBlock_1, a_doomed_1, a_queues_1, a_waiting_1, a_row_1, a_dying_1, a_among_1, a_noteTask_1, a_noteInt_1) => (vp_in (nI t) 8 ∧ ((a_states_1 (nI t).toNatClampNeg = 0 → wY_step_448 post (nI t) 24 (nI v) (nI p) f_tasks_1 f_blocks_1 f_readies_1 f_time_1 f_done_1 f_turns_1 f_notes_1 a_length_1 a_ops_1 a_as_1 a_bs_1 a_states_1 a_places_1 a_xs_1 a_limits_1 a_bodies_1 a_ends_1 a_raised_1 a_until_1 a_high_1 a_kinds_1 a_frames_1 a_on_1 a_onBlock_1 a_doomed_1 a_queues_1 a_waiting_1 a_row_1 a_dying_1 a_among_1 a_noteTask_1 a_noteInt_1) ∧ (¬ a_states_1 (nI t).toNatClampNeg = 0 → post (f_tasks_1, f_blocks_1, f_readies_1, f_time_1, f_done_1, f_turns_1, f_notes_1, a_length_1, a_ops_1, a_as_1, a_bs_1, a_states_1, a_places_1, a_xs_1, a_limits_1, a_bodies_1, a_ends_1, a_raised_1, a_until_1, a_high_1, a_kinds_1, a_frames_1, a_on_1, a_onBlock_1, a_doomed_1, a_queues_1, a_waiting_1, a_row_1, a_dying_1, a_among_1, a_noteTask_1, a_noteInt_1))))) (rd_tY A (nI w.length) ra qa wq am rz ob fr st bl) (nI v) → wpY_step post (rd_tY A (nI w.length) ra qa wq am rz ob fr st bl) (nI t) 24 (nI v) b := by
    intro post B rl ra qa wq am rz ob fr st bl H
    refine rd_y_st (d := d) (by omega) epl ed hd (by decide) (by decide) (by decide) (by decide) (by decide) (Or.inr (by decide)) ?_
    exact br_f (by decide) <| br_f (by decide) <| br_f (by decide) <| br_f (by decide) <| br_f (by decide) <| br_f (by decide) <| br_f (by decide) <| br_f (by decide) <| br_f (by decide) <| br_f (by decide) <| br_f (by decide) <| br_f (by decide) <| br_f (by decide) <| br_f (by decide) <| br_f (by decide) <| br_f (by decide) <| br_f (by decide) <| br_f (by decide) <| br_f (by decide) <| br_f (by decide) <| br_f (by decide) <| br_f (by decide) <| br_t rfl <| H
  by_cases there : v < n ∧ A 4 v ≠ 7 ∧ A 4 v ≠ 8
  · obtain ⟨hvn, v7, v8⟩ := there
    obtain ⟨cs, hcs, hcs2⟩ := rd_ch_ex n (A 9) (A 10) (A 23) v (fun _ => True)
    have I1 : rd_Inv n 8 (D + 1) (rd_sa (rd_sa (rd_sa A  23 (upd cs v 1))  24 (fun u => if u < n then upd cs v 1 u else 0))  34 (fun _ => 1)) w Q := I
    have l1 : ∀ u, u < n → (rd_sa (rd_sa (rd_sa A  23 (upd cs v 1))  24 (fun u => if u < n then upd cs v 1 u else 0))  34 (fun _ => 1)) 23 u = (rd_sa (rd_sa (rd_sa A  23 (upd cs v 1))  24 (fun u => if u < n then upd cs v 1 u else 0))  34 (fun _ => 1)) 24 u := by
      intro u hu
      show upd cs v 1 u = if u < n then upd cs v 1 u else 0
      rw [if_pos hu]
    have l2 : ∀ u, n ≤ u → u < 8 → (rd_sa (rd_sa (rd_sa A  23 (upd cs v 1))  24 (fun u => if u < n then upd cs v 1 u else 0))  34 (fun _ => 1)) 24 u = 0 := by
      intro u hu _
      show (if u < n then upd cs v 1 u else 0) = 0
      rw [if_neg (by omega)]
    obtain ⟨B, x, R, J, m9, m2, mT, mK, X, Y⟩ := rd_abl (p := p) (w0 := w) ht n 0 (by omega) _ w Q I1 n9 l1 l2 (fun _ _ => rfl) (Or.inl ⟨h0, epl, hp, id⟩)
    -- both sides up to their loops
    have X1 : ∀ (K : Int32 → SX → Prop) (ra qa ql : Nat → Int32), rd_XL w Q ra qa ql → (∀ ra qa ql, rd_XL x R ra qa ql → ((B 4 t = 0 → K (B 5 t + 1) (rd_tX B (nI x.length) ra qa ql)) ∧ (B 4 t ≠ 0 → K (B 5 t) (rd_tX B (nI x.length) ra qa ql)))) → wpX_doAbort K (rd_tX A (nI w.length) ra qa ql) (nI t) (nI v) := by
      intro K ra qa ql hx H
      unfold wpX_doAbort
      refine rd_x_isThere I.vN hv (fun _ _ _ => br_f (by decide) (rd_x_choose (q := fun _ => True) I.vN I.vM (fun _ => ⟨fun _ => Or.inl rfl, fun _ => trivial⟩) (fun ch g1 g2 => ⟨i8v, ?_⟩))) (fun y => absurd ⟨hvn, v7, v8⟩ y)
      have ech := rd_ch_un hn hcs hcs2 g1 g2
      subst ech
      refine nm_r (e' := upd ch v 1) (by rw [cv, rd_nb1]; rfl) ⟨n + 1, ?_⟩
      refine X K ra qa ql hx (fun ra1 qa1 ql1 hx1 => br_t (by rw [J.vN.1]; exact nI_le (Nat.le_refl _) (by omega)) ⟨i8, ?_⟩)
      rw [ct]
      exact br_c (fun y => ⟨i8, (H ra1 qa1 ql1 hx1).1 y⟩) (fun y => ⟨i8, (H ra1 qa1 ql1 hx1).2 y⟩)
    have Y1 : ∀ (P : SY → Prop) (ra qa wq am rz ob fr st : Nat → Int32) (bl : Int32), rd_YL 8 n D A w Q ra qa wq am rz ob fr st bl → (∀ v', rd_RY 8 n (D + 1) B x R v' → P v') → wpY_abort P (rd_tY A (nI w.length) ra qa wq am rz ob fr st bl) (nI v) := by
      intro P ra qa wq am rz ob fr st bl hy H
      have hy1 := rd_YL_D hy
      unfold wpY_abort
      refine br_t (by rw [I.vN.1]; exact nI_lt hvn (by omega)) ⟨i8v, ?_⟩
      rw [cv, hy.y9 v]
      refine br_f (fun y => v7 ((rd_cv_eq (by decide) (by decide)).mp y)) ⟨i8v, br_f (fun y => v8 ((rd_cv_eq (by decide) (by decide)).mp y)) ?_⟩
      refine rd_y_gather (q := fun _ => True) I.vN I.vM (fun _ => ⟨fun _ => Or.inl (by decide), fun _ => trivial⟩) (fun am' g1 g2 => ⟨i8v, nm_r (e' := upd am' v 1) (by rw [rd_nb1]) ⟨n + (9 - n), ?_⟩⟩)
      refine Y P ra qa wq (upd am' v 1) rz ob fr st bl ⟨hy1.r, hy1.y2, hy1.y3, hy1.y4, hy1.y5, hy1.y6, hy1.y7, hy1.y8, hy1.y9, ?_⟩ ?_
      · intro u hu _
        show upd am' v 1 u = if u < n then upd cs v 1 u else 0
        by_cases z : u < n
        · rw [if_pos z]
          by_cases e : u = v
          · rw [e, rd_us, rd_us]
          · rw [rd_un e, rd_un e]
            exact (rd_ch_eq hn hcs g1 u z).symm
        · rw [if_neg z, rd_un (by omega)]
          exact g2 u (by omega) hu
      · intro ra2 qa2 wq2 am2 rz2 ob2 fr2 st2 bl2 hy2
        have e1 : 9 - n = (8 - n) + 1 := by omega
        rw [e1]
        refine rd_yl_abt (H _ (rd_RY_mk hy2)) (8 - n) n (by omega) (fun u a1 a2 => ?_)
        rw [hy2.y10 u a2 (m2.2 u a2)]
        exact m2.1 u a1 a2
    rcases mT with ⟨t0, tp, te, th⟩ | t78
    · have J2 := rd_i_pl (t := t) (p := p + 1) J ht (by omega) (Or.inl t0)
      refine ⟨n, _, x, R, J2, ⟨Nat.le_refl _, mK.1, mK.2.1, mK.2.2.1, mK.2.2.2, m9, fun _ => th⟩, fun _ => te, ?_, ?_⟩
      · intro post ra qa ql hx H
        refine br_f (by decide) <| br_f (by decide) <| br_f (by decide) <| br_f (by decide) <| br_f (by decide) <| br_f (by decide) <| br_f (by decide) <| br_f (by decide) <| br_f (by decide) <| br_f (by decide) <| br_f (by decide) <| br_f (by decide) <| br_f (by decide) <| br_f (by decide) <| br_f (by decide) <| br_f (by decide) <| br_f (by decide) <| br_f (by decide) <| br_f (by decide) <| br_f (by decide) <| br_f (by decide) <| br_f (by decide) <| br_f (by decide) <| br_f (by decide) <| br_f (by decide) <| br_f (by decide) <| br_t rfl <| X1 _ ra qa ql hx (fun ra1 qa1 ql1 hx1 => ⟨fun _ => ⟨i8, nm_r (e' := upd (B 5) t (nI (p + 1))) (by rw [ct, tp, nI_1]) (H _ (rd_RX_mk (A := rd_sw B  5 t (nI (p + 1))) hx1))⟩, fun y => absurd t0 y⟩)
      · intro post ra qa wq am rz ob fr st bl hy H
        refine tail post A (nI w.length) ra qa wq am rz ob fr st bl (Y1 _ ra qa wq am rz ob fr st bl hy ?_)
        rintro v' ⟨ra1, qa1, wq1, am1, rz1, ob1, fr1, st1, bl1, rfl, hy1⟩
        have e0 : st1 t = 0 := by rw [hy1.y9 t, t0]; rfl
        exact ⟨i8, br_t (by rw [ct]; exact e0) (br_f (by decide) ⟨i8, nm_r (e' := upd (B 5) t (nI (p + 1))) (by rw [ct, nI_1]) (H _ (rd_RY_mk (A := rd_sw B  5 t (nI (p + 1))) hy1))⟩)⟩
    · have nz : B 4 t ≠ 0 := by rcases t78 with y | y <;> rw [y] <;> decide
      refine ⟨n, B, x, R, J, ⟨Nat.le_refl _, mK.1, mK.2.1, mK.2.2.1, mK.2.2.2, m9, fun y => absurd y nz⟩, fun y => absurd y nz, ?_, ?_⟩
      · intro post ra qa ql hx H
        refine br_f (by decide) <| br_f (by decide) <| br_f (by decide) <| br_f (by decide) <| br_f (by decide) <| br_f (by decide) <| br_f (by decide) <| br_f (by decide) <| br_f (by decide) <| br_f (by decide) <| br_f (by decide) <| br_f (by decide) <| br_f (by decide) <| br_f (by decide) <| br_f (by decide) <| br_f (by decide) <| br_f (by decide) <| br_f (by decide) <| br_f (by decide) <| br_f (by decide) <| br_f (by decide) <| br_f (by decide) <| br_f (by decide) <| br_f (by decide) <| br_f (by decide) <| br_f (by decide) <| br_t rfl <| X1 _ ra qa ql hx (fun ra1 qa1 ql1 hx1 => ⟨fun y => absurd y nz, fun _ => ⟨i8, nm_r (e' := B 5) (by rw [ct]; exact rd_ue rfl) (H _ (rd_RX_mk hx1))⟩⟩)
      · intro post ra qa wq am rz ob fr st bl hy H
        refine tail post A (nI w.length) ra qa wq am rz ob fr st bl (Y1 _ ra qa wq am rz ob fr st bl hy ?_)
        rintro v' ⟨ra1, qa1, wq1, am1, rz1, ob1, fr1, st1, bl1, rfl, hy1⟩
        have e0 : st1 t ≠ 0 := by
          rw [hy1.y9 t]
          exact fun y => nz ((rd_cv_eq (by decide) (by decide)).mp y)
        exact ⟨i8, br_f (by rw [ct]; exact e0) (H _ (rd_RY_mk hy1))⟩
  · refine rd_o_ply (q := p + 1) C A (by omega) I ⟨rfl, rfl, rfl, rfl, rfl, rfl, rfl, rfl, rfl, rfl, rfl, rfl, rfl⟩ ?_ ?_
    · intro post ra qa ql _ H
      refine br_f (by decide) <| br_f (by decide) <| br_f (by decide) <| br_f (by decide) <| br_f (by decide) <| br_f (by decide) <| br_f (by decide) <| br_f (by decide) <| br_f (by decide) <| br_f (by decide) <| br_f (by decide) <| br_f (by decide) <| br_f (by decide) <| br_f (by decide) <| br_f (by decide) <| br_f (by decide) <| br_f (by decide) <| br_f (by decide) <| br_f (by decide) <| br_f (by decide) <| br_f (by decide) <| br_f (by decide) <| br_f (by decide) <| br_f (by decide) <| br_f (by decide) <| br_f (by decide) <| br_t rfl <| ?_
      unfold wpX_doAbort
      refine rd_x_isThere I.vN hv (fun a1 a2 a3 => absurd ⟨a1, a2, a3⟩ there) (fun _ => br_t rfl ⟨i8, i8, nm_r (e' := upd (A 5) t (nI (p + 1))) (by rw [ct, epl, nI_1]) H⟩)
    · intro post ra qa wq am rz ob fr st bl hy H
      refine tail post A (nI w.length) ra qa wq am rz ob fr st bl ?_
      have e0 : st t = 0 := by rw [hy.y9 t, h0]; rfl
      have fin : (vp_in (nI t) 8 ∧ ((st (nI t).toNatClampNeg = 0 → wY_step_448 post (nI t) 24 (nI v) (nI p) (A 26 0) bl (nI w.length) (A 27 0) (A 28 0) (A 29 0) (A 25 0) (A 3) (A 0) (A 1) (A 2) st (A 5) (A 6) (A 11) (A 8) (A 7) rz (A 16) (A 18) (A 19) fr (A 9) ob (A 13) qa wq ra (A 33) am (A 21) (A 22)) ∧ (¬ st (nI t).toNatClampNeg = 0 → post (rd_tY A (nI w.length) ra qa wq am rz ob fr st bl)))) := ⟨i8, br_t (by rw [ct]; exact e0) (br_f (by decide) ⟨i8, nm_r (e' := upd (A 5) t (nI (p + 1))) (by rw [ct, nI_1]) H⟩)⟩
      unfold wpY_abort
      by_cases hvn : v < n
      · refine br_t (by rw [I.vN.1]; exact nI_lt hvn (by omega)) ⟨i8v, ?_⟩
        rw [cv, hy.y9 v]
        by_cases h7 : A 4 v = 7
        · exact br_t (by rw [h7]; rfl) fin
        · refine br_f (fun y => h7 ((rd_cv_eq (by decide) (by decide)).mp y)) ⟨i8v, ?_⟩
          by_cases h8 : A 4 v = 8
          · exact br_t (by rw [h8]; rfl) fin
          · exact absurd ⟨hvn, h7, h8⟩ there
      · exact br_f (by rw [I.vN.1]; exact nI_nlt (by omega) (by omega)) fin
end
