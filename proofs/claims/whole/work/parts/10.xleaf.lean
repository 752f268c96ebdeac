/-! the component's small methods -/
theorem rd_x_makeReady {A : rd_St} {w : List Nat} {Q : Nat → List Nat} {u : SX} {t : Nat} {post : SX → Prop} (hu : rd_RX A w Q u) (ht : t < 8) (hw : w.length < 8) (H : ∀ u', rd_RX (rd_ready A t) (w ++ [t]) Q u' → post u') : wpX_makeReady post u (nI t) := by
  obtain ⟨ra, qa, ql, rfl, hl⟩ := hu
  have ct : (nI t).toNatClampNeg = t := nI_clamp (by omega)
  have cw : (nI w.length).toNatClampNeg = w.length := nI_clamp (by omega)
  have i8 : vp_in (nI t) 8 := vp_in_nI ht (by omega)
  unfold wpX_makeReady
  refine ⟨i8, nm_r (e' := upd (A 4) t 0) (by rw [ct]) ⟨i8, nm_r (e' := upd (A 16) t (-1)) (by rw [ct]) ⟨vp_in_nI hw (by omega), nm_r (e' := upd ra w.length (nI t)) (by rw [cw]) (nm_r (rd_len1 w t).symm ?_)⟩⟩⟩
  exact H _ (rd_RX_mk (A := rd_ready A t) (rd_XL_put (t := t) hl))
theorem rd_xl_row {post : SX → Prop} {A : rd_St} {qa ql : Nat → Int32} {t : Nat} (ht : t < 8) : ∀ (rest K : List Nat) (ra : Nat → Int32) (k rl : Nat), (∀ x, x ∈ rest → x < 8) → rd_LV ra 0 K → rd_LV ra k rest → K.length ≤ k → k + rest.length = rl → rl ≤ 8 → (∀ ra', rd_LV ra' 0 (K ++ rest.filter (fun x => x != t)) → post (rd_tX A (nI (K ++ rest.filter (fun x => x != t)).length) ra' qa ql)) → wX_leaveRow_4 post (nI t) (nI rl) (A 25 0) (A 26 0) (A 27 0) (A 28 0) (A 29 0) (A 30 0) (A 31 0) (rest.length + 1) (nI K.length) (nI k) (A 0) (A 1) (A 2) (A 3) (A 4) (A 5) (A 6) (A 7) (A 8) (A 9) (A 10) (A 11) (A 12) (A 13) (A 14) (A 15) (A 16) (A 17) (A 18) (A 19) (A 20) qa ql ra (A 21) (A 22) (A 32) (A 23)
  | [], K, ra, k, rl, _, h1, _, h3, h4, h5, H => by
    simp only [List.length_nil, Nat.add_zero] at h4
    subst h4
    have := H ra (by simpa using h1)
    simp only [List.filter_nil, List.append_nil] at this
    exact br_t (nI_le (Nat.le_refl _) (by omega)) this
  | x :: rest, K, ra, k, rl, hx, h1, h2, h3, h4, h5, H => by
    simp only [List.length_cons] at h4
    have ck : (nI k).toNatClampNeg = k := nI_clamp (by omega)
    have cK : (nI K.length).toNatClampNeg = K.length := nI_clamp (by omega)
    have e : ra (nI k).toNatClampNeg = nI x := by rw [ck]; exact h2.1
    have x8 := hx x (by simp)
    refine br_f (nI_ge (by omega) (by omega)) ⟨vp_in_nI (by omega) (by omega), ?_⟩
    by_cases z : x = t
    · refine br_t (by rw [e, z]) (nm_r (nI_1 k) ?_)
      refine rd_xl_row ht rest K ra (k + 1) rl (fun y hy => hx y (by simp [hy])) h1 h2.2 (by omega) (by omega) h5 ?_
      intro ra' h
      have g := H ra'
      rw [List.filter_cons, if_neg (by simp [z])] at g
      exact g h
    · refine br_f (by rw [e]; exact fun q => z (rd_inj (by omega) (by omega) q)) ⟨vp_in_nI (by omega) (by omega), vp_in_nI (by omega) (by omega), nm_r (e' := upd ra K.length (nI x)) (by rw [e, cK]) (nm_r (nI_1 _) (nm_r (nI_1 k) ?_))⟩
      have eL : (K ++ [x]).length = K.length + 1 := by simp
      have g := rd_xl_row (post := post) (A := A) (qa := qa) (ql := ql) ht rest (K ++ [x]) (upd ra K.length (nI x)) (k + 1) rl (fun y hy => hx y (by simp [hy])) (by have := rd_LV_put (x := x) h1; rw [Nat.zero_add] at this; exact this) (rd_LV_fr h2.2 (fun i hi _ => rd_un (by omega))) (by omega) (by omega) h5 (by
        intro ra' h
        have g := H ra'
        rw [List.filter_cons, if_pos (by simp [z])] at g
        rw [List.append_assoc] at h ⊢
        exact g h)
      rw [eL] at g
      exact g
theorem rd_x_leaveRow {A : rd_St} {w : List Nat} {Q : Nat → List Nat} {u : SX} {t : Nat} {post : SX → Prop} (hu : rd_RX A w Q u) (ht : t < 8) (hw : w.length ≤ 8) (hx : ∀ x, x ∈ w → x < 8) (H : ∀ u', rd_RX A (w.filter (fun x => x != t)) Q u' → post u') : wpX_leaveRow post u (nI t) := by
  obtain ⟨ra, qa, ql, rfl, hl⟩ := hu
  unfold wpX_leaveRow
  exact ⟨_, rd_xl_row ht w [] ra 0 w.length hx trivial hl.1 (Nat.zero_le _) (by simp) hw (fun ra' h => H _ (rd_RX_mk ⟨h, hl.2⟩))⟩
theorem rd_xl_que {post : SX → Prop} {A : rd_St} {rl : Int32} {ra ql : Nat → Int32} {t q len : Nat} (ht : t < 8) (hq : q < 24) (hl : ql q = nI len) (h8 : len ≤ 8) : ∀ (rest K : List Nat) (qa : Nat → Int32) (k : Nat), (∀ x, x ∈ rest → x < 8) → rd_LV qa (8 * q) K → rd_LV qa (8 * q + k) rest → K.length ≤ k → k + rest.length = len → (∀ qa', rd_LV qa' (8 * q) (K ++ rest.filter (fun x => x != t)) → (∀ i, i < 8 * q ∨ 8 * q + 8 ≤ i → qa' i = qa i) → post (rd_tX A rl ra qa' (upd ql q (nI (K ++ rest.filter (fun x => x != t)).length)))) → wX_leaveQueue_12 post (nI t) (nI q) rl (A 25 0) (A 26 0) (A 27 0) (A 28 0) (A 29 0) (A 30 0) (A 31 0) (rest.length + 1) (nI K.length) (nI k) (A 0) (A 1) (A 2) (A 3) (A 4) (A 5) (A 6) (A 7) (A 8) (A 9) (A 10) (A 11) (A 12) (A 13) (A 14) (A 15) (A 16) (A 17) (A 18) (A 19) (A 20) qa ql ra (A 21) (A 22) (A 32) (A 23)
  | [], K, qa, k, _, h1, _, h3, h4, H => by
    simp only [List.length_nil, Nat.add_zero] at h4
    subst h4
    have cq : (nI q).toNatClampNeg = q := nI_clamp (by omega)
    have g := H qa (by simpa using h1) (fun _ _ => rfl)
    simp only [List.filter_nil, List.append_nil] at g
    exact ⟨vp_in_nI hq (by omega), br_t (by rw [cq, hl]; exact nI_le (Nat.le_refl _) (by omega)) ⟨vp_in_nI hq (by omega), nm_r (e' := upd ql q (nI K.length)) (by rw [cq]) g⟩⟩
  | x :: rest, K, qa, k, hx, h1, h2, h3, h4, H => by
    simp only [List.length_cons] at h4
    have cq : (nI q).toNatClampNeg = q := nI_clamp (by omega)
    have ik : nI q * 8 + nI k = nI (8 * q + k) := rd_ix q k 8 8 rfl
    have iK : nI q * 8 + nI K.length = nI (8 * q + K.length) := rd_ix q K.length 8 8 rfl
    have ck : (nI (8 * q + k)).toNatClampNeg = 8 * q + k := nI_clamp (by omega)
    have cK : (nI (8 * q + K.length)).toNatClampNeg = 8 * q + K.length := nI_clamp (by omega)
    have x8 := hx x (by simp)
    refine ⟨vp_in_nI hq (by omega), br_f (by rw [cq, hl]; exact nI_ge (by omega) (by omega)) ⟨by rw [ik]; exact vp_in_nI (by omega) (by omega), nm_r (e' := nI x) (by rw [ik, ck]; exact h2.1) ?_⟩⟩
    by_cases z : x = t
    · refine br_t (by rw [z]) (nm_r (nI_1 k) ?_)
      refine rd_xl_que ht hq hl h8 rest K qa (k + 1) (fun y hy => hx y (by simp [hy])) h1 h2.2 (by omega) (by omega) ?_
      intro qa' h h'
      have g := H qa'
      rw [List.filter_cons, if_neg (by simp [z])] at g
      exact g h h'
    · refine br_f (fun y => z (rd_inj (by omega) (by omega) y)) ⟨by rw [iK]; exact vp_in_nI (by omega) (by omega), nm_r (e' := upd qa (8 * q + K.length) (nI x)) (by rw [iK, cK]) (nm_r (nI_1 _) (nm_r (nI_1 k) ?_))⟩
      have eL : (K ++ [x]).length = K.length + 1 := by simp
      have g := rd_xl_que (post := post) (A := A) (rl := rl) (ra := ra) ht hq hl h8 rest (K ++ [x]) (upd qa (8 * q + K.length) (nI x)) (k + 1) (fun y hy => hx y (by simp [hy])) (rd_LV_put (x := x) h1) (rd_LV_fr h2.2 (fun i hi _ => rd_un (by omega))) (by omega) (by omega) (by
        intro qa' h h'
        have g := H qa'
        rw [List.filter_cons, if_pos (by simp [z])] at g
        rw [List.append_assoc] at h ⊢
        exact g h (fun i hi => (h' i hi).trans (rd_un (by omega))))
      rw [eL] at g
      exact g
theorem rd_x_leaveQueue {A : rd_St} {w : List Nat} {Q : Nat → List Nat} {u : SX} {t q : Nat} {post : SX → Prop} (hu : rd_RX A w Q u) (ht : t < 8) (hq : q < 24) (hc : A 15 t = nI q) (hw : ∀ p, (Q p).length ≤ 8) (hx : ∀ x, x ∈ Q q → x < 8) (H : ∀ u', rd_RX A w (rd_dq Q q ((Q q).filter (fun x => x != t))) u' → post u') : wpX_leaveQueue post u (nI t) := by
  obtain ⟨ra, qa, ql, rfl, hl⟩ := hu
  have ct : (nI t).toNatClampNeg = t := nI_clamp (by omega)
  unfold wpX_leaveQueue
  refine ⟨vp_in_nI ht (by omega), nm_r (e' := nI q) (by rw [ct]; exact hc) ⟨_, rd_xl_que ht hq (hl.2 q hq).1 (hw q) (Q q) [] qa 0 hx trivial (hl.2 q hq).2 (Nat.zero_le _) (by simp) ?_⟩⟩
  intro qa' h1 h2
  refine H _ (rd_RX_mk ⟨hl.1, fun p hp => ?_⟩)
  by_cases e : p = q
  · subst e
    rw [rd_us, rd_dq_s]
    exact ⟨rfl, h1⟩
  · rw [rd_un e, rd_dq_n e]
    refine ⟨(hl.2 p hp).1, rd_LV_fr (hl.2 p hp).2 (fun i a b => h2 i ?_)⟩
    have := hw p
    omega
theorem rd_x_wd29 {A : rd_St} {w : List Nat} {Q : Nat → List Nat} {ra qa ql : Nat → Int32} {t : Nat} {post : SX → Prop} (hl : rd_XL w Q ra qa ql) (ht : t < 8) (H : ∀ u', rd_RX (rd_fall A t) w Q u' → post u') : wX_withdraw_29 post (nI t) (nI w.length) (A 25 0) (A 26 0) (A 27 0) (A 28 0) (A 29 0) (A 30 0) (A 31 0) (A 0) (A 1) (A 2) (A 3) (A 4) (A 5) (A 6) (A 7) (A 8) (A 9) (A 10) (A 11) (A 12) (A 13) (A 14) (A 15) (A 16) (A 17) (A 18) (A 19) (A 20) qa ql ra (A 21) (A 22) (A 32) (A 23) := by
  have ct : (nI t).toNatClampNeg = t := nI_clamp (by omega)
  have i8 : vp_in (nI t) 8 := vp_in_nI ht (by omega)
  exact ⟨i8, nm_r (e' := upd (A 4) t 9) (by rw [ct]) ⟨i8, nm_r (e' := upd (A 16) t (-1)) (by rw [ct]) (H _ (rd_RX_mk (A := rd_fall A t) hl))⟩⟩
theorem rd_dq_fq {n : Nat} {cd cq : Nat → Int32} {Q : Nat → List Nat} {t q : Nat} (hn : n ≤ 8) (h : rd_vQ n cd cq Q) (hc : cq t = nI q) (hq : q < 24) : rd_dq Q q ((Q q).filter (fun x => x != t)) = rd_fq Q t := by
  funext p
  unfold rd_fq
  by_cases e : p = q
  · rw [e, rd_dq_s]
  · rw [rd_dq_n e, rd_fl_not]
    intro hm
    have := (h p).2 t hm
    exact e (rd_inj (by omega) (by omega) (this.2.2.1.symm.trans hc))
theorem rd_x_wd14 {n e D : Nat} {A : rd_St} {w z : List Nat} {Q : Nat → List Nat} {ra qa ql : Nat → Int32} {t : Nat} {post : SX → Prop} (I : rd_Inv n e D A z Q) (hl : rd_XL w Q ra qa ql) (ht : t < n) (H : ∀ u', rd_RX (rd_fall A t) w (rd_fq Q t) u' → post u') : wX_withdraw_14 post (nI t) (nI w.length) (A 25 0) (A 26 0) (A 27 0) (A 28 0) (A 29 0) (A 30 0) (A 31 0) (A 0) (A 1) (A 2) (A 3) (A 4) (A 5) (A 6) (A 7) (A 8) (A 9) (A 10) (A 11) (A 12) (A 13) (A 14) (A 15) (A 16) (A 17) (A 18) (A 19) (A 20) qa ql ra (A 21) (A 22) (A 32) (A 23) := by
  have hn := I.vN.2
  have ct : (nI t).toNatClampNeg = t := nI_clamp (by omega)
  have i8 : vp_in (nI t) 8 := vp_in_nI (by omega) (by omega)
  by_cases h1 : A 4 t = 1
  · obtain ⟨q, hq, hc⟩ := I.vZ t ht h1
    refine ⟨i8, br_t (by rw [ct]; exact h1) (rd_x_leaveQueue (rd_RX_mk hl) (by omega) (show q < 24 by omega) hc (fun p => Nat.le_trans (rd_qlen I) hn) (fun x hx => Nat.lt_of_lt_of_le ((I.vQ q).2 x hx).1 hn) ?_)⟩
    rintro u' ⟨ra', qa', ql', rfl, hl'⟩
    rw [rd_dq_fq hn I.vQ hc (by omega)] at hl'
    exact rd_x_wd29 hl' (by omega) H
  · refine ⟨i8, br_f (by rw [ct]; exact h1) (rd_x_wd29 hl (by omega) ?_)⟩
    rw [rd_fq_no (rd_vQ_no I.vQ h1)] at H
    exact H
theorem rd_x_withdraw {n e D : Nat} {A : rd_St} {w : List Nat} {Q : Nat → List Nat} {u : SX} {t : Nat} {post : SX → Prop} (I : rd_Inv n e D A w Q) (hu : rd_RX A w Q u) (ht : t < n) (H : ∀ u', rd_RX (rd_fall A t) (w.filter (fun x => x != t)) (rd_fq Q t) u' → post u') : wpX_withdraw post u (nI t) := by
  have hn := I.vN.2
  have ct : (nI t).toNatClampNeg = t := nI_clamp (by omega)
  have i8 : vp_in (nI t) 8 := vp_in_nI (by omega) (by omega)
  obtain ⟨ra, qa, ql, rfl, hl⟩ := hu
  unfold wpX_withdraw
  by_cases h0 : A 4 t = 0
  · refine ⟨i8, br_t (by rw [ct]; exact h0) (rd_x_leaveRow (rd_RX_mk hl) (by omega) (Nat.le_trans (rd_wlen I) hn) (fun x hx => Nat.lt_of_lt_of_le ((I.vR.2 x).mp hx).1 hn) ?_)⟩
    rintro u' ⟨ra', qa', ql', rfl, hl'⟩
    exact rd_x_wd14 I hl' ht H
  · refine ⟨i8, br_f (by rw [ct]; exact h0) (rd_x_wd14 I hl ht ?_)⟩
    rw [rd_fl_not (fun y => h0 ((I.vR.2 t).mp y).2)] at H
    exact H
theorem rd_xl_liv {post : Int32 → Prop} {A : rd_St} {rl : Int32} {ra qa ql : Nat → Int32} {t n : Nat} {b : Int32} (hn : n ≤ 8) (hk : A 26 0 = nI n) (H1 : rd_lv n (A 9) (A 10) (A 4) t b → post 1) (H0 : ¬ rd_lv n (A 9) (A 10) (A 4) t b → post 0) : ∀ (d k : Nat), k + d = n → (∀ u, u < k → ¬ (A 9 u = nI t ∧ A 10 u = b ∧ A 4 u ≠ 8)) → wX_hasLiving_2 post (nI t) b rl (A 25 0) (A 26 0) (A 27 0) (A 28 0) (A 29 0) (A 30 0) (A 31 0) (A 0) (A 1) (A 2) (A 3) (A 4) (A 5) (A 6) (A 7) (A 8) (A 9) (A 10) (A 11) (A 12) (A 13) (A 14) (A 15) (A 16) (A 17) (A 18) (A 19) (A 20) qa ql ra (A 21) (A 22) (A 32) (A 23) (d + 1) (nI k)
  | 0, k, h1, h2 => by
    have e : k = n := by omega
    subst e
    refine br_t (by rw [hk]; exact nI_le (Nat.le_refl _) (by omega)) (H0 ?_)
    rintro ⟨u, hu, a⟩
    exact h2 u hu a
  | d + 1, k, h1, h2 => by
    have ck : (nI k).toNatClampNeg = k := nI_clamp (by omega)
    have i8 : vp_in (nI k) 8 := vp_in_nI (by omega) (by omega)
    have next : ¬ (A 9 k = nI t ∧ A 10 k = b ∧ A 4 k ≠ 8) → wX_hasLiving_2 post (nI t) b rl (A 25 0) (A 26 0) (A 27 0) (A 28 0) (A 29 0) (A 30 0) (A 31 0) (A 0) (A 1) (A 2) (A 3) (A 4) (A 5) (A 6) (A 7) (A 8) (A 9) (A 10) (A 11) (A 12) (A 13) (A 14) (A 15) (A 16) (A 17) (A 18) (A 19) (A 20) qa ql ra (A 21) (A 22) (A 32) (A 23) (d + 1) (nI (k + 1)) := fun z =>
      rd_xl_liv hn hk H1 H0 d (k + 1) (by omega) (fun u hu => by
        by_cases e : u = k
        · rw [e]; exact z
        · exact h2 u (by omega))
    refine br_f (by rw [hk]; exact nI_ge (by omega) (by omega)) ⟨i8, ?_⟩
    by_cases e1 : A 9 k = nI t
    · refine br_t (by rw [ck]; exact e1) ⟨i8, ?_⟩
      by_cases e2 : A 10 k = b
      · refine br_t (by rw [ck]; exact e2) ⟨i8, ?_⟩
        by_cases e3 : A 4 k = 8
        · exact br_t (by rw [ck]; exact e3) (nm_r (nI_1 k) (next (fun z => z.2.2 e3)))
        · exact br_f (by rw [ck]; exact e3) (H1 ⟨k, by omega, e1, e2, e3⟩)
      · exact br_f (by rw [ck]; exact e2) (nm_r (nI_1 k) (next (fun z => e2 z.2.1)))
    · exact br_f (by rw [ck]; exact e1) (nm_r (nI_1 k) (next (fun z => e1 z.1)))
theorem rd_x_hasLiving {post : Int32 → Prop} {A : rd_St} {rl : Int32} {ra qa ql : Nat → Int32} {t n : Nat} {b : Int32} (hn : rd_vN n (A 26)) (H1 : rd_lv n (A 9) (A 10) (A 4) t b → post 1) (H0 : ¬ rd_lv n (A 9) (A 10) (A 4) t b → post 0) : wpX_hasLiving post (rd_tX A rl ra qa ql) (nI t) b := by
  unfold wpX_hasLiving
  exact ⟨_, rd_xl_liv hn.2 hn.1 H1 H0 n 0 (by omega) (fun u hu => by omega)⟩
theorem rd_x_waitAs {A : rd_St} {w : List Nat} {Q : Nat → List Nat} {u : SX} {t : Nat} {s : Int32} {post : SX → Prop} (hu : rd_RX A w Q u) (ht : t < 8) (hw : w.length ≤ 8) (hx : ∀ x, x ∈ w → x < 8) (H : ∀ u', rd_RX (rd_sw A  4 t s) (w.filter (fun x => x != t)) Q u' → post u') : wpX_waitAs post u (nI t) s := by
  have ct : (nI t).toNatClampNeg = t := nI_clamp (by omega)
  obtain ⟨ra, qa, ql, rfl, hl⟩ := hu
  unfold wpX_waitAs
  refine rd_x_leaveRow (rd_RX_mk hl) ht hw hx ?_
  rintro u' ⟨ra', qa', ql', rfl, hl'⟩
  exact ⟨vp_in_nI ht (by omega), nm_r (e' := upd (A 4) t s) (by rw [ct]) (H _ (rd_RX_mk (A := rd_sw A  4 t s) hl'))⟩
theorem rd_x_putUp {A : rd_St} {w : List Nat} {Q : Nat → List Nat} {u : SX} {t d : Nat} {k v : Int32} {post : SX → Prop} (hu : rd_RX A w Q u) (ht : t < 8) (hd : A 18 t = nI d) (hd8 : d < 8) (H : ∀ u', rd_RX (rd_sw (rd_sw (rd_sw A  19 (8 * t + d) k)  20 (8 * t + d) v)  18 t (nI (d + 1))) w Q u' → post u') : wpX_putUp post u (nI t) k v := by
  have ct : (nI t).toNatClampNeg = t := nI_clamp (by omega)
  have i8 : vp_in (nI t) 8 := vp_in_nI (by omega) (by omega)
  have cd : (nI (8 * t + d)).toNatClampNeg = 8 * t + d := nI_clamp (by omega)
  have i64 : vp_in (nI (8 * t + d)) 64 := vp_in_nI (by omega) (by omega)
  obtain ⟨ra, qa, ql, rfl, hl⟩ := hu
  unfold wpX_putUp
  refine ⟨i8, nm_r (e' := nI (8 * t + d)) (by rw [ct, hd]; exact rd_ix t d 8 8 rfl) ⟨i64, nm_r (e' := upd (A 19) (8 * t + d) k) (by rw [cd]) ⟨i64, nm_r (e' := upd (A 20) (8 * t + d) v) (by rw [cd]) ⟨i8, i8, nm_r (e' := upd (A 18) t (nI (d + 1))) (by rw [ct, hd, nI_1]) ?_⟩⟩⟩⟩
  exact H _ (rd_RX_mk (A := rd_sw (rd_sw (rd_sw A  19 (8 * t + d) k)  20 (8 * t + d) v)  18 t (nI (d + 1))) hl)
