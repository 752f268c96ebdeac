/-! completing a task -/
theorem rd_x_mkReady {A : rd_St} {w : List Nat} {ra qa ql : Nat → Int32} {t : Nat} {post : SX → Prop} (hr : rd_LV ra 0 w) (ht : t < 8) (hw : w.length < 8) (H : ∀ ra', rd_LV ra' 0 (w ++ [t]) → post (rd_tX (rd_ready A t) (nI (w ++ [t]).length) ra' qa ql)) : wpX_makeReady post (rd_tX A (nI w.length) ra qa ql) (nI t) := by
  have ct : (nI t).toNatClampNeg = t := nI_clamp (by omega)
  have cw : (nI w.length).toNatClampNeg = w.length := nI_clamp (by omega)
  have i8 : vp_in (nI t) 8 := vp_in_nI ht (by omega)
  have h2 : rd_LV (upd ra w.length (nI t)) 0 (w ++ [t]) := by
    have := rd_LV_put (x := t) hr
    rw [Nat.zero_add] at this
    exact this
  unfold wpX_makeReady
  exact ⟨i8, nm_r (e' := upd (A 4) t 0) (by rw [ct]) ⟨i8, nm_r (e' := upd (A 16) t (-1)) (by rw [ct]) ⟨vp_in_nI hw (by omega), nm_r (e' := upd ra w.length (nI t)) (by rw [cw]) (nm_r (rd_len1 w t).symm (H _ h2))⟩⟩⟩
theorem rd_xc_in {post : SX → Prop} {J : Int32 → Int32 → Int32 → Int32 → Int32 → Int32 → Int32 → Int32 → Int32 → (Nat → Int32) → (Nat → Int32) → (Nat → Int32) → (Nat → Int32) → (Nat → Int32) → (Nat → Int32) → (Nat → Int32) → (Nat → Int32) → (Nat → Int32) → (Nat → Int32) → (Nat → Int32) → (Nat → Int32) → (Nat → Int32) → (Nat → Int32) → (Nat → Int32) → (Nat → Int32) → (Nat → Int32) → (Nat → Int32) → (Nat → Int32) → (Nat → Int32) → (Nat → Int32) → (Nat → Int32) → (Nat → Int32) → (Nat → Int32) → (Nat → Int32) → (Nat → Int32) → (Nat → Int32) → (Nat → Int32) → Prop} {n e D t q : Nat} {Q : Nat → List Nat} (hq : q < 24) {qa ql : Nat → Int32} : ∀ (rest : List Nat) (A : rd_St) (w : List Nat) (ra : Nat → Int32) (k : Nat), rd_Inv n e D A w (rd_dq Q q rest) → rd_LV ra 0 w → rd_LV qa (8 * q + k) rest → ql q = nI (k + rest.length) → k + rest.length ≤ 8 → (∀ ra', rd_LV ra' 0 (w ++ rest) → J (nI (q + 1)) (nI (w ++ rest).length) ((rd_wa A rest) 25 0) ((rd_wa A rest) 26 0) ((rd_wa A rest) 27 0) ((rd_wa A rest) 28 0) ((rd_wa A rest) 29 0) ((rd_wa A rest) 30 0) ((rd_wa A rest) 31 0) ((rd_wa A rest) 0) ((rd_wa A rest) 1) ((rd_wa A rest) 2) ((rd_wa A rest) 3) ((rd_wa A rest) 4) ((rd_wa A rest) 5) ((rd_wa A rest) 6) ((rd_wa A rest) 7) ((rd_wa A rest) 8) ((rd_wa A rest) 9) ((rd_wa A rest) 10) ((rd_wa A rest) 11) ((rd_wa A rest) 12) ((rd_wa A rest) 13) ((rd_wa A rest) 14) ((rd_wa A rest) 15) ((rd_wa A rest) 16) ((rd_wa A rest) 17) ((rd_wa A rest) 18) ((rd_wa A rest) 19) ((rd_wa A rest) 20) qa (upd ql q 0) ra' ((rd_wa A rest) 21) ((rd_wa A rest) 22) ((rd_wa A rest) 32) ((rd_wa A rest) 23)) → wX_complete_31 post J (nI t) (nI q) (rest.length + 1) (nI k) (nI w.length) (A 25 0) (A 26 0) (A 27 0) (A 28 0) (A 29 0) (A 30 0) (A 31 0) (A 0) (A 1) (A 2) (A 3) (A 4) (A 5) (A 6) (A 7) (A 8) (A 9) (A 10) (A 11) (A 12) (A 13) (A 14) (A 15) (A 16) (A 17) (A 18) (A 19) (A 20) qa ql ra (A 21) (A 22) (A 32) (A 23)
  | [], A, w, ra, k, I, h1, h2, h3, h4, H => by
    have cq : (nI q).toNatClampNeg = q := nI_clamp (by omega)
    have iq : vp_in (nI q) 24 := vp_in_nI hq (by omega)
    have g := H ra (by rw [List.append_nil]; exact h1)
    rw [List.append_nil] at g
    simp only [List.length_nil, Nat.add_zero] at h3
    exact ⟨iq, br_t (by rw [cq, h3]; exact nI_le (Nat.le_refl _) (by simp only [List.length_nil] at h4; omega)) ⟨iq, nm_r (e' := upd ql q 0) (by rw [cq]) (nm_r (nI_1 q) g)⟩⟩
  | c :: rest, A, w, ra, k, I, h1, h2, h3, h4, H => by
    have hn := I.vN.2
    simp only [List.length_cons] at h3 h4
    have cq : (nI q).toNatClampNeg = q := nI_clamp (by omega)
    have iq : vp_in (nI q) 24 := vp_in_nI hq (by omega)
    have ik : nI q * 8 + nI k = nI (8 * q + k) := rd_ix q k 8 8 rfl
    have ck : (nI (8 * q + k)).toNatClampNeg = 8 * q + k := nI_clamp (by omega)
    obtain ⟨a1, a2, a3, _, a4, _⟩ := rd_i_dq I
    have cc : (nI c).toNatClampNeg = c := nI_clamp (by omega)
    have r := rd_i_rp (x := 11) a1 a2 (by rw [a3]; decide) (by rw [a3]; decide) a4 (rd_nf_of hn I.vF a2 (by rw [a3]; decide)) (by omega)
    have wl : w.length < 8 := Nat.lt_of_lt_of_le (rd_wlen' I a2 (by rw [a3]; decide)) hn
    refine ⟨iq, br_f (by rw [cq, h3]; exact nI_ge (by omega) (by omega)) ⟨by rw [ik]; exact vp_in_nI (by omega) (by omega), nm_r (e' := nI c) (by rw [ik, ck]; exact h2.1) ⟨vp_in_nI (by omega) (by omega), nm_r (e' := upd (A 12) c 11) (by rw [cc]) ?_⟩⟩⟩
    refine rd_x_mkReady (A := rd_sw A  12 c 11) h1 (by omega) wl (fun ra' h => nm_r (nI_1 k) ?_)
    refine rd_xc_in hq rest (rd_ready (rd_sw A  12 c 11) c) (w ++ [c]) ra' (k + 1) r h h2.2 (by rw [h3]; congr 1; omega) (by omega) (fun ra'' g => ?_)
    have := H ra''
    rw [List.append_assoc] at g ⊢
    exact this g
theorem rd_yc_in {post : SY → Prop} {J : Int32 → Int32 → Int32 → Int32 → Int32 → Int32 → Int32 → Int32 → (Nat → Int32) → (Nat → Int32) → (Nat → Int32) → (Nat → Int32) → (Nat → Int32) → (Nat → Int32) → (Nat → Int32) → (Nat → Int32) → (Nat → Int32) → (Nat → Int32) → (Nat → Int32) → (Nat → Int32) → (Nat → Int32) → (Nat → Int32) → (Nat → Int32) → (Nat → Int32) → (Nat → Int32) → (Nat → Int32) → (Nat → Int32) → (Nat → Int32) → (Nat → Int32) → (Nat → Int32) → (Nat → Int32) → (Nat → Int32) → (Nat → Int32) → Prop} {ex n e D t k : Nat} {Q : Nat → List Nat} (ht : t < n) (hk : k < 3) : ∀ (rest : List Nat) (A : rd_St) (w : List Nat) (ra qa wq am rz ob fr st : Nat → Int32) (bl : Int32), rd_Inv n e D A w (rd_dq Q (3 * t + k) rest) → (ex < n → A 4 ex = 0) → rd_YL ex n D A w (rd_dq Q (3 * t + k) rest) ra qa wq am rz ob fr st bl → (∀ ra qa wq am rz ob fr st bl, rd_YL ex n D (rd_wa A rest) (w ++ rest) (rd_dq Q (3 * t + k) []) ra qa wq am rz ob fr st bl → J (nI (k + 1)) ((rd_wa A rest) 26 0) bl (nI (w ++ rest).length) ((rd_wa A rest) 27 0) ((rd_wa A rest) 28 0) ((rd_wa A rest) 29 0) ((rd_wa A rest) 25 0) ((rd_wa A rest) 3) ((rd_wa A rest) 0) ((rd_wa A rest) 1) ((rd_wa A rest) 2) st ((rd_wa A rest) 5) ((rd_wa A rest) 6) ((rd_wa A rest) 11) ((rd_wa A rest) 8) ((rd_wa A rest) 7) rz ((rd_wa A rest) 16) ((rd_wa A rest) 18) ((rd_wa A rest) 19) fr ((rd_wa A rest) 9) ob ((rd_wa A rest) 13) qa wq ra ((rd_wa A rest) 33) am ((rd_wa A rest) 21) ((rd_wa A rest) 22)) → wY_complete_28 post J (nI t) (nI k) (rest.length + 1) (A 26 0) bl (nI w.length) (A 27 0) (A 28 0) (A 29 0) (A 25 0) (A 3) (A 0) (A 1) (A 2) st (A 5) (A 6) (A 11) (A 8) (A 7) rz (A 16) (A 18) (A 19) fr (A 9) ob (A 13) qa wq ra (A 33) am (A 21) (A 22)
  | [], A, w, ra, qa, wq, am, rz, ob, fr, st, bl, I, hex, hy, H => by
    have hn := I.vN.2
    have iq : 3 * nI t + nI k = nI (3 * t + k) := rd_ix' t k 3 3 rfl
    have cq : (nI (3 * t + k)).toNatClampNeg = 3 * t + k := nI_clamp (by omega)
    have h3 := (hy.y3 (3 * t + k) (by omega)).1
    rw [rd_dq_s] at h3
    have g := H ra qa wq am rz ob fr st bl (by rw [List.append_nil]; exact hy)
    rw [List.append_nil] at g
    refine ⟨by rw [iq]; exact vp_in_nI (by omega) (by omega), br_t (by rw [iq, cq, h3]; exact nI_le (a := 0) (b := 0) (Nat.le_refl _) (by omega)) (nm_r (nI_1 k) g)⟩
  | c :: rest, A, w, ra, qa, wq, am, rz, ob, fr, st, bl, I, hex, hy, H => by
    have hn := I.vN.2
    have iq : 3 * nI t + nI k = nI (3 * t + k) := rd_ix' t k 3 3 rfl
    have cq : (nI (3 * t + k)).toNatClampNeg = 3 * t + k := nI_clamp (by omega)
    obtain ⟨h3, h3'⟩ := hy.y3 (3 * t + k) (by omega)
    rw [rd_dq_s] at h3 h3'
    obtain ⟨a1, a2, a3, _, a4, a5⟩ := rd_i_dq I
    have cc : (nI c).toNatClampNeg = c := nI_clamp (by omega)
    have cex : c ≠ ex := fun e => by
      rw [← e] at hex
      rw [hex a2] at a3
      exact absurd a3 (by decide)
    have r := rd_i_rp (x := 11) a1 a2 (by rw [a3]; decide) (by rw [a3]; decide) a4 (rd_nf_of hn I.vF a2 (by rw [a3]; decide)) (by omega)
    have wl : w.length < 8 := Nat.lt_of_lt_of_le (rd_wlen' I a2 (by rw [a3]; decide)) hn
    have hlen := rd_qlen (q := 3 * t + k) I
    rw [rd_dq_s] at hlen
    simp only [List.length_cons] at hlen h3
    have i8 : 8 * nI (3 * t + k) = nI (8 * (3 * t + k)) := by
      have := rd_ix' (3 * t + k) 0 8 8 rfl
      rw [Nat.add_zero] at this
      rw [← this, nI_0]
      exact (Int32.add_zero _).symm
    refine ⟨by rw [iq]; exact vp_in_nI (by omega) (by omega), br_f (by rw [iq, cq, h3]; exact nI_ge (a := 0) (by omega) (by omega)) ⟨by rw [iq, i8]; exact vp_in_nI (by omega) (by omega), nm_r (e' := nI c) (by rw [iq, i8, nI_clamp (by omega)]; exact h3'.1) ?_⟩⟩
    refine rd_y_leaveQueues (n := n) (Q := rd_dq Q (3 * t + k) (c :: rest)) hn (by omega) (fun q => Nat.le_trans (rd_qlen I) hn) (fun q x hx => Nat.lt_of_lt_of_le ((I.vQ q).2 x hx).1 hn) hy.y2 hy.y3 (fun qa' wq' g2 g3 => ?_)
    rw [a5] at g3
    refine ⟨vp_in_nI (by omega) (by omega), nm_r (e' := upd rz c 11) (by rw [cc]) ?_⟩
    refine rd_y_wake (A := rd_sw A  12 c 11) (Q := rd_dq Q (3 * t + k) rest) (rd_RY_mk (ex := ex) (D := D) ⟨hy.r, g2, g3, rd_y4_pe hy.y4 cex, hy.y5, hy.y6, hy.y7, hy.y8, hy.y9, hy.y10⟩) hn a2 wl (show A 4 c ≠ 7 by rw [a3]; decide) (show A 4 c ≠ 8 by rw [a3]; decide) (show A 4 c ≠ 9 by rw [a3]; decide) ?_
    rintro v' ⟨ra1, qa1, wq1, am1, rz1, ob1, fr1, st1, bl1, rfl, hy1⟩
    refine rd_yc_in ht hk rest (rd_ready (rd_sw A  12 c 11) c) (w ++ [c]) ra1 qa1 wq1 am1 rz1 ob1 fr1 st1 bl1 r (fun z => (rd_un (fun e => cex e.symm)).trans (hex z)) hy1 ?_
    intro ra2 qa2 wq2 am2 rz2 ob2 fr2 st2 bl2 g
    have := H ra2 qa2 wq2 am2 rz2 ob2 fr2 st2 bl2
    rw [List.append_assoc] at g ⊢
    exact this g
/-- what wakening the callers of a queue keeps -/
theorem rd_ST_wa {n e D k : Nat} {A : rd_St} {w L : List Nat} {Q : Nat → List Nat} (h : rd_Inv n e D A w (rd_dq Q k L)) : rd_ST n A (rd_wa A L) w (w ++ L) ∧ rd_Inv n e D (rd_wa A L) (w ++ L) (rd_dq Q k []) := by
  obtain ⟨a, b, c, d⟩ := rd_i_wa h
  refine ⟨⟨b, c, rd_kp_w d (fun t ht => by rcases ht with z | z <;> rw [z] <;> decide), ?_, ?_⟩, a⟩
  · intro s z
    by_cases y : A 4 s = 1
    · have := rd_wa_cd (s := s) (L := L) (A := A)
      rcases this with q | q
      · rw [q, y] at z; exact absurd z (by decide)
      · rw [q] at z; exact absurd z (by decide)
    · rw [(d s y).1] at z; exact z
  · intro s z
    have y : A 4 s ≠ 1 := by rcases z with z | z <;> rw [z] <;> decide
    rw [(d s y).1]; exact z
/-- the callers in the three queues of a task, in lockstep -/
theorem rd_cq3 {ex n e D t : Nat} (ht : t < n) : ∀ (d k : Nat), k + d = 3 → ∀ (A : rd_St) (w : List Nat) (Q : Nat → List Nat), rd_Inv n e D A w Q → (ex < n → A 4 ex = 0) → ∃ A' w' Q', rd_Inv n e D A' w' Q' ∧ rd_ST n A A' w w' ∧
    (∀ (post : SX → Prop) (ra qa ql : Nat → Int32), rd_XL w Q ra qa ql → (∀ u', rd_RX A' w' Q' u' → post u') → wX_complete_19 post (nI t) (d + 1) (nI (3 * t + k)) (nI w.length) (A 25 0) (A 26 0) (A 27 0) (A 28 0) (A 29 0) (A 30 0) (A 31 0) (A 0) (A 1) (A 2) (A 3) (A 4) (A 5) (A 6) (A 7) (A 8) (A 9) (A 10) (A 11) (A 12) (A 13) (A 14) (A 15) (A 16) (A 17) (A 18) (A 19) (A 20) qa ql ra (A 21) (A 22) (A 32) (A 23)) ∧
    (∀ (post : SY → Prop) (ra qa wq am rz ob fr st : Nat → Int32) (bl : Int32), rd_YL ex n D A w Q ra qa wq am rz ob fr st bl → (∀ ra qa wq am rz ob fr st bl, rd_YL ex n D A' w' Q' ra qa wq am rz ob fr st bl → wY_complete_23 post (nI t) 1 (nI 3) (A' 26 0) bl (nI w'.length) (A' 27 0) (A' 28 0) (A' 29 0) (A' 25 0) (A' 3) (A' 0) (A' 1) (A' 2) st (A' 5) (A' 6) (A' 11) (A' 8) (A' 7) rz (A' 16) (A' 18) (A' 19) fr (A' 9) ob (A' 13) qa wq ra (A' 33) am (A' 21) (A' 22)) → wY_complete_23 post (nI t) (d + 1) (nI k) (A 26 0) bl (nI w.length) (A 27 0) (A 28 0) (A 29 0) (A 25 0) (A 3) (A 0) (A 1) (A 2) st (A 5) (A 6) (A 11) (A 8) (A 7) rz (A 16) (A 18) (A 19) fr (A 9) ob (A 13) qa wq ra (A 33) am (A 21) (A 22))
  | 0, k, hk, A, w, Q, I, hex => by
    have hn := I.vN.2
    have e : k = 3 := by omega
    subst e
    have i3 : (nI t + 1) * 3 = nI (3 * t + 3) := by
      rw [nI_1]
      have := rd_ix (t + 1) 0 3 3 rfl
      rw [nI_0, Int32.add_zero] at this
      rw [this]
      congr 1
    refine ⟨A, w, Q, I, rd_ST_rf _ _ _, ?_, ?_⟩
    · intro post ra qa ql hx H
      exact br_t (by rw [i3]; exact nI_le (Nat.le_refl _) (by omega)) (H _ (rd_RX_mk hx))
    · intro post ra qa wq am rz ob fr st bl hy H
      exact H ra qa wq am rz ob fr st bl hy
  | d + 1, k, hk, A, w, Q, I, hex => by
    have hn := I.vN.2
    have I0 := I
    rw [← rd_dq_e (Q := Q) (k := 3 * t + k)] at I0
    obtain ⟨S1, I1⟩ := rd_ST_wa I0
    obtain ⟨A', w', Q', I', S', X, Y⟩ := rd_cq3 (ex := ex) ht d (k + 1) (by omega) _ _ _ I1 (fun z => (S1.2.2.1 ex (Or.inl (hex z))).1.trans (hex z))
    refine ⟨A', w', Q', I', rd_ST_tr S1 S', ?_, ?_⟩
    · intro post ra qa ql hx H
      have i3 : (nI t + 1) * 3 = nI (3 * t + 3) := by
        rw [nI_1]
        have := rd_ix (t + 1) 0 3 3 rfl
        rw [nI_0, Int32.add_zero] at this
        rw [this]
        congr 1
      have hlen := rd_qlen (q := 3 * t + k) I
      obtain ⟨q1, q2⟩ := hx.2 (3 * t + k) (by omega)
      refine br_f (by rw [i3]; exact nI_ge (by omega) (by omega)) ⟨_, rd_xc_in (by omega) (Q (3 * t + k)) A w ra 0 I0 hx.1 q2 (by rw [q1, Nat.zero_add]) (by omega) (fun ra' g => ?_)⟩
      refine X post ra' qa _ ⟨g, fun p hp => ?_⟩ H
      by_cases e : p = 3 * t + k
      · subst e
        rw [rd_us, rd_dq_s]
        exact ⟨rfl, trivial⟩
      · rw [rd_un e, rd_dq_n e]
        exact hx.2 p hp
    · intro post ra qa wq am rz ob fr st bl hy H
      have hy0 := hy
      rw [← rd_dq_e (Q := Q) (k := 3 * t + k)] at hy0
      refine br_f (nI_ge (b := 3) (by omega) (by omega)) ⟨_, rd_yc_in ht (by omega) (Q (3 * t + k)) A w ra qa wq am rz ob fr st bl I0 hex hy0 ?_⟩
      intro ra qa wq am rz ob fr st bl g
      exact Y post ra qa wq am rz ob fr st bl g H
def rd_FS (n t : Nat) (A B : rd_St) (w x : List Nat) : Prop := rd_sta A B ∧ rd_wl n A B ∧ rd_kp (fun s => (A 4 s = 0 ∨ A 4 s = 9) ∧ s ≠ t) A B w x ∧ (∀ s, B 4 s = 9 → A 4 s = 9 ∧ s ≠ t) ∧ (∀ s, A 4 s = 7 ∨ A 4 s = 8 → B 4 s = 7 ∨ B 4 s = 8) ∧ (B 4 t = 7 ∨ B 4 t = 8) ∧ rd_W B t < rd_W A t
def rd_cmp (A : rd_St) (t : Nat) (how : Int32) : rd_St := rd_sw (rd_sw A  7 t how)  4 t 7
theorem rd_cs {ex n D t : Nat} {A : rd_St} {w : List Nat} {Q : Nat → List Nat} (I : rd_Inv n 8 D A w Q) (ht : t < n) (h9 : A 4 t = 9) (hd : A 18 t = 0) (how : Int32) (hex : ex < n → A 4 ex = 0) : ∃ A1 w1 A' w' Q', rd_Inv n 8 D A' w' Q' ∧ rd_FS n t A A' w w' ∧
    (∀ (post : SX → Prop) (u : SX), rd_RX A w Q u → (∀ u', rd_RX A1 w1 Q' u' → post u') → wpX_complete post u (nI t) how) ∧
    (∀ (post : SX → Prop) (u : SX), rd_RX A1 w1 Q' u → (∀ u', rd_RX A' w' Q' u' → post u') → wpX_settle post u (nI t)) ∧
    (∀ (post : SY → Prop) (ra qa wq am rz ob fr st : Nat → Int32) (bl : Int32), rd_YL ex n D (rd_cmp A t how) w Q ra qa wq am rz ob fr st bl → (∀ v', rd_RY ex n D A' w' Q' v' → post v') → wY_complete_23 post (nI t) 4 (nI 0) ((rd_cmp A t how) 26 0) bl (nI w.length) ((rd_cmp A t how) 27 0) ((rd_cmp A t how) 28 0) ((rd_cmp A t how) 29 0) ((rd_cmp A t how) 25 0) ((rd_cmp A t how) 3) ((rd_cmp A t how) 0) ((rd_cmp A t how) 1) ((rd_cmp A t how) 2) st ((rd_cmp A t how) 5) ((rd_cmp A t how) 6) ((rd_cmp A t how) 11) ((rd_cmp A t how) 8) ((rd_cmp A t how) 7) rz ((rd_cmp A t how) 16) ((rd_cmp A t how) 18) ((rd_cmp A t how) 19) fr ((rd_cmp A t how) 9) ob ((rd_cmp A t how) 13) qa wq ra ((rd_cmp A t how) 33) am ((rd_cmp A t how) 21) ((rd_cmp A t how) 22)) := by
  have hn := I.vN.2
  have ct : (nI t).toNatClampNeg = t := nI_clamp (by omega)
  have i8 : vp_in (nI t) 8 := vp_in_nI (by omega) (by omega)
  have I1 : rd_Inv n t D (rd_cmp A t how) w Q := rd_i_cmp (rd_i_en I) ht h9 hd
  have c7 : (rd_cmp A t how) 4 t = 7 := rd_us
  have hex1 : ex < n → (rd_cmp A t how) 4 ex = 0 := fun z => (rd_un (fun e => by rw [e] at hex; rw [hex ht] at h9; exact absurd h9 (by decide))).trans (hex z)
  obtain ⟨A1, w1, Q', J1, S1, X1, Y1⟩ := rd_cq3 (ex := ex) ht 3 0 rfl _ _ _ I1 hex1
  have c71 := S1.2.2.2.2 t (Or.inl c7)
  obtain ⟨A', w', J2, S2, X2, Y2⟩ := rd_settle (ex := ex) (t + 1) t (by omega) A1 w1 J1 ht (fun z => (S1.2.2.1 ex (Or.inl (hex1 z))).1.trans (hex1 z)) (fun z => by
    rcases c71 with y | y <;> rw [y] at z <;> exact absurd z (by decide))
  have S := rd_ST_tr S1 S2
  have S0 : ∀ s, s ≠ t → (rd_cmp A t how) 4 s = A 4 s := fun s hs => rd_un hs
  refine ⟨A1, w1, A', w', Q', J2, ⟨rd_sta_tr (rd_sta_tr (rd_sta_sw (by simp)) (rd_sta_sw (by simp))) S.1, rd_wl_tr (rd_wl_cmp h9) S.2.1, ?_, ?_, ?_, S.2.2.2.2 t (Or.inl c7), ?_⟩, ?_, ?_, ?_⟩
  · have no : ¬ (fun s => (A 4 s = 0 ∨ A 4 s = 9) ∧ s ≠ t) t := fun z => z.2 rfl
    refine rd_kp_tr (rd_kp_tr rd_kp_en (rd_kp_cd no) (fun _ z => z)) S.2.2.1 (fun s z => ?_)
    rw [S0 s z.2]; exact z.1
  · intro s z
    have := S.2.2.2.1 s z
    by_cases e : s = t
    · rw [e, c7] at this; exact absurd this (by decide)
    · rw [S0 s e] at this; exact ⟨this, e⟩
  · intro s z
    refine S.2.2.2.2 s ?_
    by_cases e : s = t
    · rw [e]; exact Or.inl c7
    · rw [S0 s e]; exact z
  · exact Nat.lt_of_le_of_lt (S.2.1 t ht) (rd_w_cmp (A := A) h9)
  · rintro post u ⟨ra, qa, ql, rfl, hx⟩ H
    unfold wpX_complete
    have e3 : nI t * 3 = nI (3 * t + 0) := by
      have := rd_ix t 0 3 3 rfl
      rw [nI_0, Int32.add_zero] at this
      exact this
    exact ⟨i8, nm_r (e' := upd (A 7) t how) (by rw [ct]) ⟨i8, nm_r (e' := upd (A 4) t 7) (by rw [ct]) (nm_r e3 ⟨_, X1 post ra qa ql hx H⟩)⟩⟩
  · rintro post u ⟨ra, qa, ql, rfl, hx⟩ H
    unfold wpX_settle
    exact ⟨_, X2 post ra qa ql 0 (t + 2) (by omega) (by omega) hx H⟩
  · intro post ra qa wq am rz ob fr st bl hy H
    refine Y1 post ra qa wq am rz ob fr st bl hy ?_
    intro ra qa wq am rz ob fr st bl hy
    refine br_t (nI_le (a := 3) (b := 3) (by omega) (by omega)) ?_
    unfold wpY_settle
    refine ⟨_, Y2 _ ra qa wq am rz ob fr st bl (t + 2) (by omega) hy ?_⟩
    rintro v' ⟨ra', qa', wq', am, rz', ob', fr', st', bl', rfl, hy'⟩
    exact H _ (rd_RY_mk hy')
/-- the reference completes a falling task -/
theorem rd_y_cmp9 {ex n D t : Nat} {A A' : rd_St} {w w' : List Nat} {Q Q' : Nat → List Nat} {how : Int32} (I : rd_Inv n 8 D A w Q) (ht : t < n) (h9 : A 4 t = 9) (hd : A 18 t = 0) (Y : ∀ (post : SY → Prop) (ra qa wq am rz ob fr st : Nat → Int32) (bl : Int32), rd_YL ex n D (rd_cmp A t how) w Q ra qa wq am rz ob fr st bl → (∀ v', rd_RY ex n D A' w' Q' v' → post v') → wY_complete_23 post (nI t) 4 (nI 0) ((rd_cmp A t how) 26 0) bl (nI w.length) ((rd_cmp A t how) 27 0) ((rd_cmp A t how) 28 0) ((rd_cmp A t how) 29 0) ((rd_cmp A t how) 25 0) ((rd_cmp A t how) 3) ((rd_cmp A t how) 0) ((rd_cmp A t how) 1) ((rd_cmp A t how) 2) st ((rd_cmp A t how) 5) ((rd_cmp A t how) 6) ((rd_cmp A t how) 11) ((rd_cmp A t how) 8) ((rd_cmp A t how) 7) rz ((rd_cmp A t how) 16) ((rd_cmp A t how) 18) ((rd_cmp A t how) 19) fr ((rd_cmp A t how) 9) ob ((rd_cmp A t how) 13) qa wq ra ((rd_cmp A t how) 33) am ((rd_cmp A t how) 21) ((rd_cmp A t how) 22)) (post : SY → Prop) (v : SY) (hv : rd_RY ex n D A w Q v) (H : ∀ v', rd_RY ex n D A' w' Q' v' → post v') : wpY_complete post v (nI t) how := by
  have hn := I.vN.2
  have ct : (nI t).toNatClampNeg = t := nI_clamp (by omega)
  have i8 : vp_in (nI t) 8 := vp_in_nI (by omega) (by omega)
  obtain ⟨ra, qa, wq, am, rz, ob, fr, st, bl, rfl, hy⟩ := hv
  unfold wpY_complete
  refine rd_y_rest hy.r (by omega) (Nat.le_trans (rd_wlen I) hn) (fun x hx => Nat.lt_of_lt_of_le ((I.vR.2 x).mp hx).1 hn) (fun ra' gr => ?_)
  have c0 : A 4 t ≠ 0 := by rw [h9]; decide
  have hw : A 16 t = -1 := rd_wk0 I ht ⟨by rw [h9]; decide, by rw [h9]; decide, by rw [h9]; decide⟩
  rw [rd_fl_not (fun y => c0 ((I.vR.2 t).mp y).2)] at gr ⊢
  rw [rd_sw_eq (A := A) (k :=  16) hw]
  refine ⟨i8, nm_r (e' := upd (A 7) t how) (by rw [ct]) ⟨i8, nm_r (e' := upd rz t 0) (by rw [ct]) ⟨_, Y post ra' qa wq am (upd rz t 0) ob fr (upd st t 7) bl ?_ H⟩⟩⟩
  exact ⟨gr, hy.y2, hy.y3, rd_y4_rz (rd_y4_cd hy.y4 (Or.inl (Or.inl rfl))) (Or.inl rd_us), hy.y5, hy.y6, hy.y7, rd_y8_cmp hy.y8 hn I.vB h9 hd, rd_y9_u hy.y9 rfl, hy.y10⟩
/-- the reference completes a ready task without frames: the component lets it fall first -/
theorem rd_y_cmp0 {ex n D t : Nat} {A A' : rd_St} {w w' : List Nat} {Q Q' : Nat → List Nat} {how : Int32} (I : rd_Inv n 8 D A w Q) (ht : t < n) (h0 : A 4 t = 0) (Y : ∀ (post : SY → Prop) (ra qa wq am rz ob fr st : Nat → Int32) (bl : Int32), rd_YL 8 n D (rd_cmp (rd_fall A t) t how) (w.filter (fun x => x != t)) (rd_fq Q t) ra qa wq am rz ob fr st bl → (∀ v', rd_RY 8 n D A' w' Q' v' → post v') → wY_complete_23 post (nI t) 4 (nI 0) ((rd_cmp (rd_fall A t) t how) 26 0) bl (nI (w.filter (fun x => x != t)).length) ((rd_cmp (rd_fall A t) t how) 27 0) ((rd_cmp (rd_fall A t) t how) 28 0) ((rd_cmp (rd_fall A t) t how) 29 0) ((rd_cmp (rd_fall A t) t how) 25 0) ((rd_cmp (rd_fall A t) t how) 3) ((rd_cmp (rd_fall A t) t how) 0) ((rd_cmp (rd_fall A t) t how) 1) ((rd_cmp (rd_fall A t) t how) 2) st ((rd_cmp (rd_fall A t) t how) 5) ((rd_cmp (rd_fall A t) t how) 6) ((rd_cmp (rd_fall A t) t how) 11) ((rd_cmp (rd_fall A t) t how) 8) ((rd_cmp (rd_fall A t) t how) 7) rz ((rd_cmp (rd_fall A t) t how) 16) ((rd_cmp (rd_fall A t) t how) 18) ((rd_cmp (rd_fall A t) t how) 19) fr ((rd_cmp (rd_fall A t) t how) 9) ob ((rd_cmp (rd_fall A t) t how) 13) qa wq ra ((rd_cmp (rd_fall A t) t how) 33) am ((rd_cmp (rd_fall A t) t how) 21) ((rd_cmp (rd_fall A t) t how) 22)) (hex : ex = t ∨ ex = 8) (post : SY → Prop) (v : SY) (hv : rd_RY ex n D A w Q v) (H : ∀ v', rd_RY 8 n D A' w' Q' v' → post v') : wpY_complete post v (nI t) how := by
  have hn := I.vN.2
  have ct : (nI t).toNatClampNeg = t := nI_clamp (by omega)
  have i8 : vp_in (nI t) 8 := vp_in_nI (by omega) (by omega)
  have c9 : A 4 t ≠ 9 := by rw [h0]; decide
  have c8 : A 4 t ≠ 8 := by rw [h0]; decide
  obtain ⟨ra, qa, wq, am, rz, ob, fr, st, bl, rfl, hy⟩ := hv
  unfold wpY_complete
  refine rd_y_rest hy.r (by omega) (Nat.le_trans (rd_wlen I) hn) (fun x hx => Nat.lt_of_lt_of_le ((I.vR.2 x).mp hx).1 hn) (fun ra' gr => ?_)
  refine ⟨i8, nm_r (e' := upd (A 7) t how) (by rw [ct]; rfl) ⟨i8, nm_r (e' := upd rz t 0) (by rw [ct]) ⟨_, Y post ra' qa wq am (upd rz t 0) ob fr (upd st t 7) bl ?_ H⟩⟩⟩
  have ecd : (rd_cmp (rd_fall A t) t how) 4 = upd (A 4) t 7 := rd_uu
  have efq : rd_fq Q t = Q := rd_fq_no (rd_vQ_no I.vQ (by rw [h0]; decide))
  refine ⟨gr, hy.y2, ?_, ?_, hy.y5, hy.y6, hy.y7, ?_, ?_, hy.y10⟩
  · rw [efq]; exact hy.y3
  · rw [ecd]
    intro u hu a b c
    show upd rz t 0 u = if u = 8 then 0 else A 12 u
    rw [if_neg (by omega)]
    by_cases e : u = t
    · rw [e, rd_us] at a; exact absurd rfl a
    · rw [rd_un e] at a b c ⊢
      refine rd_y4_n hy.y4 hu ?_ a b c
      rcases hex with z | z
      · rw [z]; exact e
      · omega
  · rw [ecd]; exact rd_y8_cd hy.y8 (by decide) c9 c8
  · rw [ecd]; exact rd_y9_u hy.y9 rfl
