/-! TIME passes, on both sides -/
theorem rd_i_fq {n e D t : Nat} {A : rd_St} {w : List Nat} {Q : Nat → List Nat} (h : rd_Inv n e D A w Q) : rd_Inv n e D A w (rd_fq Q t) :=
  ⟨h.vG, h.vN, h.vR, rd_vQ_fq h.vQ, h.vF, h.vU, h.vM, h.vB, h.vX, h.vC, h.vE, h.vL, h.vK, h.vD, h.vW, h.vP, h.vZ, h.vA, h.rbo, h.rpl, h.rdp, h.rli, h.rdm, h.rpe, h.rcd⟩
theorem rd_ptl {n D x : Nat} (hx : x < 2 ^ 31) : ∀ (d k : Nat), k + d = n → ∀ (A : rd_St) (w : List Nat) (Q : Nat → List Nat), rd_Inv n 8 D A w Q → (∀ s, s < n → A 4 s ≠ 9) → ∃ B z R, rd_Inv n 8 D B z R ∧ (∀ s, s < n → B 4 s ≠ 9) ∧ rd_K4 A B ∧ rd_wl n A B ∧ ((∃ u, k ≤ u ∧ u < n ∧ A 16 u = nI x) → rd_ph n B < rd_ph n A) ∧
    (∀ (post : Int32 → SX → Prop) (ra qa ql : Nat → Int32), rd_XL w Q ra qa ql → (∀ u', rd_RX B z R u' → post 1 u') → wX_passTime_64 post (nI x) (d + 1) (nI k) (nI w.length) (A 25 0) (A 26 0) (A 27 0) (A 28 0) (A 29 0) (A 30 0) (A 31 0) (A 0) (A 1) (A 2) (A 3) (A 4) (A 5) (A 6) (A 7) (A 8) (A 9) (A 10) (A 11) (A 12) (A 13) (A 14) (A 15) (A 16) (A 17) (A 18) (A 19) (A 20) qa ql ra (A 21) (A 22) (A 32) (A 23)) ∧
    (∀ (post : Int32 → SY → Prop) (ra qa wq am rz ob fr st : Nat → Int32) (bl : Int32), rd_YL 8 n D A w Q ra qa wq am rz ob fr st bl → (∀ v', rd_RY 8 n D B z R v' → post 1 v') → wY_passTime_61 post (nI x) (d + 1) (nI k) (A 26 0) bl (nI w.length) (A 27 0) (A 28 0) (A 29 0) (A 25 0) (A 3) (A 0) (A 1) (A 2) st (A 5) (A 6) (A 11) (A 8) (A 7) rz (A 16) (A 18) (A 19) fr (A 9) ob (A 13) qa wq ra (A 33) am (A 21) (A 22))
  | 0, k, hk, A, w, Q, I, n9 => by
    have hn := I.vN.2
    have e : k = n := by omega
    subst e
    refine ⟨A, w, Q, I, n9, ⟨rfl, rfl, rfl, rfl⟩, rd_wl_rf _ _, fun ⟨u, a, b, _⟩ => by omega, ?_, ?_⟩
    · intro post ra qa ql hx H
      exact br_t (by rw [I.vN.1]; exact nI_le (Nat.le_refl _) (by omega)) (H _ (rd_RX_mk hx))
    · intro post ra qa wq am rz ob fr st bl hy H
      exact br_t (by rw [I.vN.1]; exact nI_le (Nat.le_refl _) (by omega)) (H _ (rd_RY_mk hy))
  | d + 1, k, hk, A, w, Q, I, n9 => by
    have hn := I.vN.2
    have hkn : k < n := by omega
    have ck : (nI k).toNatClampNeg = k := nI_clamp (by omega)
    have i8 : vp_in (nI k) 8 := vp_in_nI (by omega) (by omega)
    have tk : ¬ A 26 0 ≤ nI k := by rw [I.vN.1]; exact nI_ge (by omega) (by omega)
    by_cases due : A 16 k = nI x
    · obtain ⟨⟨y, hy21, ey⟩, hc⟩ : (∃ y, y ≤ 21 ∧ A 17 k = nI y) ∧ (A 4 k = 1 ∧ A 17 k = A 5 k + 2 ∨ A 4 k = 5 ∧ A 17 k = A 5 k + 1 ∨ A 4 k = 4 ∧ ∃ b p i, (b < 4 ∧ p ≤ 21) ∧ A 8 k = nI b ∧ A 5 k = nI p ∧ rd_oth (A 0) (A 3) b p = some i ∧ A 17 k = A 1 (20 * b + i)) := by
        rcases I.vW k hkn with q | ⟨_, q1, q2⟩
        · exact absurd (due.symm.trans q) (rd_nm hx)
        · exact ⟨q1, q2⟩
      have c145 : A 4 k = 1 ∨ A 4 k = 5 ∨ A 4 k = 4 := by
        rcases hc with q | q | q
        · exact Or.inl q.1
        · exact Or.inr (Or.inl q.1)
        · exact Or.inr (Or.inr q.1)
      have c0 : A 4 k ≠ 0 := by rcases c145 with q | q | q <;> rw [q] <;> decide
      have c2 : A 4 k ≠ 2 := by rcases c145 with q | q | q <;> rw [q] <;> decide
      have c7 : A 4 k ≠ 7 := by rcases c145 with q | q | q <;> rw [q] <;> decide
      have c8 : A 4 k ≠ 8 := by rcases c145 with q | q | q <;> rw [q] <;> decide
      have c9 : A 4 k ≠ 9 := by rcases c145 with q | q | q <;> rw [q] <;> decide
      have w15 : A 4 k = 1 ∨ A 4 k = 2 ∨ A 4 k = 3 ∨ A 4 k = 4 ∨ A 4 k = 5 := by
        rcases c145 with q | q | q
        · exact Or.inl q
        · exact Or.inr (Or.inr (Or.inr (Or.inr q)))
        · exact Or.inr (Or.inr (Or.inr (Or.inl q)))
      have pe0 : A 12 k = 0 := I.vP k hkn w15
      have I1 := rd_i_ready (rd_i_fq (t := k) I) hkn c0 c8 rd_fq_nm (rd_nf_of hn I.vF hkn c2)
      have I2 : rd_Inv n 8 D (rd_ready (rd_sw A  5 k (nI y)) k) (w ++ [k]) (rd_fq Q k) := rd_i_pl (t := k) (p := y) I1 hkn hy21 (Or.inl rd_us)
      have wl1 : rd_wl n A (rd_ready (rd_sw A  5 k (nI y)) k) := rd_wl_ready (A := A) w15
      have ws : rd_W (rd_ready (rd_sw A  5 k (nI y)) k) k < rd_W A k := by
        show rd_c (upd (A 4) k 0 k) (A 12 k) + 2 * (A 18 k).toNatClampNeg < rd_c (A 4 k) (A 12 k) + 2 * (A 18 k).toNatClampNeg
        rw [rd_us, rd_c_w _ w15, pe0, rd_c00]; omega
      have wl8 : w.length < 8 := Nat.lt_of_lt_of_le (rd_wlen' I hkn c0) hn
      obtain ⟨B, z, R, J, m9, mK, mw, _, X, Y⟩ := rd_ptl hx d (k + 1) (by omega) _ _ _ I2 (fun s hs q => by
        have q : upd (A 4) k 0 s = 9 := q
        by_cases e : s = k
        · rw [e, rd_us] at q; exact absurd q (by decide)
        · rw [rd_un e] at q; exact n9 s hs q)
      refine ⟨B, z, R, J, m9, rd_K4_tr ⟨rfl, rfl, rfl, rfl⟩ mK, rd_wl_tr wl1 mw, fun _ => Nat.lt_of_le_of_lt (rd_ph_le mw) (rd_ph_lt wl1 hkn ws), ?_, ?_⟩
      · intro post ra qa ql hX H
        refine br_f tk ⟨i8, ?_⟩
        rw [ck]
        have f97 : ∀ (Q' : Nat → List Nat) (ra qa ql : Nat → Int32), Q' = rd_fq Q k → rd_XL w Q' ra qa ql → wX_passTime_97 post (wX_passTime_64 post (nI x) (d + 1)) (nI x) (nI k) (nI w.length) (A 25 0) (A 26 0) (A 27 0) (A 28 0) (A 29 0) (A 30 0) (A 31 0) (A 0) (A 1) (A 2) (A 3) (A 4) (A 5) (A 6) (A 7) (A 8) (A 9) (A 10) (A 11) (A 12) (A 13) (A 14) (A 15) (A 16) (A 17) (A 18) (A 19) (A 20) qa ql ra (A 21) (A 22) (A 32) (A 23) := by
          intro Q' ra qa ql eQ hX'
          subst eQ
          refine ⟨i8, i8, nm_r (e' := upd (A 5) k (nI y)) (by rw [ck, ey]) ?_⟩
          refine rd_x_makeReady (rd_RX_mk (A := rd_sw A  5 k (nI y)) hX') (by omega) wl8 ?_
          rintro u' ⟨ra1, qa1, ql1, rfl, hx1⟩
          exact nm_r (nI_1 k) (X post ra1 qa1 ql1 hx1 H)
        refine br_t due ⟨i8, ?_⟩
        by_cases c1 : A 4 k = 1
        · obtain ⟨q, hq, eq⟩ := I.vZ k hkn c1
          refine br_t c1 (rd_x_leaveQueue (rd_RX_mk hX) (by omega) (show q < 24 by omega) eq (fun p => Nat.le_trans (rd_qlen I) hn) (fun x hx => Nat.lt_of_lt_of_le ((I.vQ q).2 x hx).1 hn) ?_)
          rw [rd_dq_fq hn I.vQ eq (by omega)]
          rintro u' ⟨ra1, qa1, ql1, rfl, hx1⟩
          exact f97 _ ra1 qa1 ql1 rfl hx1
        · exact br_f c1 (f97 _ ra qa ql (rd_fq_no (rd_vQ_no I.vQ c1)).symm hX)
      · intro post ra qa wq am rz ob fr st bl hy H
        refine br_f tk ⟨i8, ?_⟩
        rw [ck]
        have f142 : wY_passTime_142 post (wY_passTime_61 post (nI x) (d + 1)) (nI x) (nI k) (A 17 k) (nI k) (A 26 0) bl (nI w.length) (A 27 0) (A 28 0) (A 29 0) (A 25 0) (A 3) (A 0) (A 1) (A 2) st (A 5) (A 6) (A 11) (A 8) (A 7) rz (A 16) (A 18) (A 19) fr (A 9) ob (A 13) qa wq ra (A 33) am (A 21) (A 22) := by
          refine ⟨i8, nm_r (e' := upd (A 5) k (nI y)) (by rw [ck, ey]) ?_⟩
          refine rd_y_leaveQueues (A := rd_sw A  5 k (nI y)) hn (by omega) (fun q => Nat.le_trans (rd_qlen I) hn) (fun q x hx => Nat.lt_of_lt_of_le ((I.vQ q).2 x hx).1 hn) hy.y2 hy.y3 (fun qa' wq' g2 g3 => ?_)
          refine rd_y_wake (A := rd_sw A  5 k (nI y)) (Q := rd_fq Q k) (rd_RY_mk (ex := 8) (D := D) ⟨hy.r, g2, g3, hy.y4, hy.y5, hy.y6, hy.y7, hy.y8, hy.y9, hy.y10⟩) hn hkn wl8 c7 c8 c9 ?_
          rintro v' ⟨ra1, qa1, wq1, am1, rz1, ob1, fr1, st1, bl1, rfl, hy1⟩
          exact nm_r (nI_1 k) (Y post ra1 qa1 wq1 am1 rz1 ob1 fr1 st1 bl1 hy1 H)
        refine br_t due ⟨i8, ?_⟩
        rw [hy.y9 k, rd_cv_n c9]
        by_cases c4 : A 4 k = 4
        · obtain ⟨b, p, i, ⟨qb, qp⟩, q1, q2, q3, q4⟩ : ∃ b p i, (b < 4 ∧ p ≤ 21) ∧ A 8 k = nI b ∧ A 5 k = nI p ∧ rd_oth (A 0) (A 3) b p = some i ∧ A 17 k = A 1 (20 * b + i) := by
            rcases hc with q | q | q
            · rw [c4] at q; exact absurd q.1 (by decide)
            · rw [c4] at q; exact absurd q.1 (by decide)
            · exact q.2
          obtain ⟨bb, pp, L, hat⟩ := rd_at_of I hkn
          obtain ⟨g1, g2, g3, g4, g5, g6⟩ := id hat
          have e1 : bb = b := rd_inj (by omega) (by omega) (g1.symm.trans q1)
          have e2 : pp = p := rd_inj (by omega) (by omega) (g3.symm.trans q2)
          subst e1
          subst e2
          refine br_t c4 (rd_y_other hat (by omega) (fun g => by rw [q3] at g; simp at g) (fun k' g => ?_))
          have e3 : i = k' := by rw [q3] at g; simpa using g
          subst e3
          have zi := rd_scan_some _ _ _ _ _ q3
          have iL := rd_at_in hat zi.2.2.1
          rw [q4] at f142
          exact br_f (nI_pos (by omega)) (rd_y_aAt hat (by omega) (by omega) f142)
        · refine br_f c4 (br_t (by decide) ⟨i8, i8, ?_⟩)
          rw [ck, hy.y9 k, rd_cv_n c9]
          by_cases c1 : A 4 k = 1
          · have e1 : A 17 k = A 5 k + 2 := by
              rcases hc with q | q | q
              · exact q.2
              · rw [c1] at q; exact absurd q.1 (by decide)
              · rw [c1] at q; exact absurd q.1 (by decide)
            rw [e1] at f142
            exact br_t c1 f142
          · have e1 : A 17 k = A 5 k + 1 := by
              rcases hc with q | q | q
              · exact absurd q.1 c1
              · exact q.2
              · exact absurd q.1 c4
            rw [e1] at f142
            exact br_f c1 f142
    · obtain ⟨B, z, R, J, m9, mK, mw, mp, X, Y⟩ := rd_ptl hx d (k + 1) (by omega) A w Q I n9
      refine ⟨B, z, R, J, m9, mK, mw, fun ⟨u, a, b, c⟩ => mp ⟨u, ?_, b, c⟩, ?_, ?_⟩
      · by_cases e : u = k
        · rw [e] at c; exact absurd c due
        · omega
      · intro post ra qa ql hX H
        refine br_f tk ⟨i8, br_f (by rw [ck]; exact due) (nm_r (nI_1 k) (X post ra qa ql hX H))⟩
      · intro post ra qa wq am rz ob fr st bl hy H
        refine br_f tk ⟨i8, br_f (by rw [ck]; exact due) (nm_r (nI_1 k) (Y post ra qa wq am rz ob fr st bl hy H))⟩
/-- passTime: no time at all, or the least one -/
theorem rd_pass {n D : Nat} {A : rd_St} {w : List Nat} {Q : Nat → List Nat} (I : rd_Inv n 8 D A w Q) (n9 : ∀ s, s < n → A 4 s ≠ 9) : ∃ (r : Int32) (B : rd_St) (z : List Nat) (R : Nat → List Nat), (r = 0 ∨ r = 1) ∧ rd_Inv n 8 D B z R ∧ (∀ s, s < n → B 4 s ≠ 9) ∧ rd_K4 A B ∧ (r = 1 → rd_ph n B < rd_ph n A) ∧ rd_wl n A B ∧
    (∀ (post : Int32 → SX → Prop) (u : SX), rd_RX A w Q u → (∀ u', rd_RX B z R u' → post r u') → wpX_passTime post u) ∧
    (∀ (post : Int32 → SY → Prop) (v : SY), rd_RY 8 n D A w Q v → (∀ v', rd_RY 8 n D B z R v' → post r v') → wpY_passTime post v) := by
  have hn := I.vN.2
  have hD := I.vD.2.1
  have hw : ∀ u, u < n → A 16 u = -1 ∨ ∃ x, x ≤ 99 * D ∧ A 16 u = nI x := by
    intro u hu
    rcases I.vW u hu with q | ⟨q, _⟩
    · exact Or.inl q
    · exact Or.inr q
  rcases rd_least_spec (K := 99 * D) (by omega) hw n (Nat.le_refl _) with ⟨a, b⟩ | ⟨u, x, a, b, c, e⟩
  · refine ⟨0, A, w, Q, Or.inl rfl, I, n9, ⟨rfl, rfl, rfl, rfl⟩, fun y => absurd y (by decide), rd_wl_rf _ _, ?_, ?_⟩
    · rintro post u ⟨ra, qa, ql, rfl, hx⟩ H
      unfold wpX_passTime
      exact ⟨_, rd_xl_least hn I.vN.1 (fun _ => H _ (rd_RX_mk hx)) (fun y => absurd a y) n 0 (by omega)⟩
    · rintro post v ⟨ra, qa, wq, am, rz, ob, fr, st, bl, rfl, hy⟩ H
      unfold wpY_passTime
      exact ⟨_, rd_yl_least (K := 99 * D) hn I.vN.1 (by omega) hw (fun _ => H _ (rd_RY_mk hy)) (fun y => absurd a y) n 0 (by omega)⟩
  · have I1 : rd_Inv n 8 D (rd_sw A  27 0 (nI x)) w Q := rd_i_tm I b
    obtain ⟨B, z, R, J, m9, mK, mw, mp, X, Y⟩ := rd_ptl (x := x) (by omega) n 0 (by omega) _ w Q I1 n9
    refine ⟨1, B, z, R, Or.inr rfl, J, m9, rd_K4_tr ⟨rfl, rfl, rfl, rfl⟩ mK, fun _ => mp ⟨u, by omega, a, c⟩, mw, ?_, ?_⟩
    · rintro post u ⟨ra, qa, ql, rfl, hx⟩ H
      unfold wpX_passTime
      refine ⟨_, rd_xl_least hn I.vN.1 (fun y => absurd (e.symm.trans y) (rd_nm (by omega))) (fun _ => ⟨n + 1, ?_⟩) n 0 (by omega)⟩
      rw [e]
      exact X post ra qa ql hx H
    · rintro post v ⟨ra, qa, wq, am, rz, ob, fr, st, bl, rfl, hy⟩ H
      unfold wpY_passTime
      refine ⟨_, rd_yl_least (K := 99 * D) hn I.vN.1 (by omega) hw (fun y => absurd (e.symm.trans y) (rd_nm (by omega))) (fun _ => ⟨n + 1, ?_⟩) n 0 (by omega)⟩
      rw [e]
      exact Y post ra qa wq am rz ob fr st bl hy H
