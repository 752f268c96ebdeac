/-! the main loop: in the midst of a turn, and at its head -/
theorem rd_mu_dn {most n m D : Nat} {A B : rd_St} {e : Nat} {x : List Nat} {R : Nat → List Nat} (J : rd_Inv m e (D + 1) B x R) (hD : D < most) : rd_mu most m (D + 1) B < rd_mu most n D A := by
  have h1 := rd_ph_bd J
  unfold rd_mu
  have h2 : (most - D) * 161 = (most - (D + 1)) * 161 + 161 := by
    have : most - D = (most - (D + 1)) + 1 := by omega
    rw [this, Nat.add_mul]
  omega
theorem rd_mid {most mu n D t k : Nat} {A0 A : rd_St} {w : List Nat} {Q : Nat → List Nat} (hmost : most ≤ 500) (IM : rd_IM most mu) (ID : rd_ID most mu) (hmu : rd_mu most n D A ≤ mu) (hD : D ≤ most) (I : rd_Inv n 8 D A w Q) (n9 : ∀ s, s < n → A 4 s ≠ 9) (hit : A 31 0 ≠ 0) (hdt : A 30 0 = nI k) (hk : k < 3) (ht : t < n) (h0 : A 4 t = 0) (hp : A 12 t = 0) (hw : w.head? = some t) (hb : rd_bt A0 A) : rd_MD most n D t k A0 A w Q := by
  have hn := I.vN.2
  have ct : (nI t).toNatClampNeg = t := nI_clamp (by omega)
  have i8 : vp_in (nI t) 8 := vp_in_nI (by omega) (by omega)
  by_cases full : D = most
  · -- no instruction is left
    refine ⟨2, n, D, A, w, Q, I, n9, ?_, ?_⟩
    · intro post ra qa ql i f hi hf hx H
      obtain ⟨f', rfl⟩ : ∃ f', f = f' + 1 := ⟨f - 1, by omega⟩
      exact rd_x_pass hb I ht h0 hw (by omega) hx (fun _ => ⟨fun y => absurd y (by rw [I.vD.1, full]; exact nI_nlt (Nat.le_refl _) (by omega)), fun _ => H _ (rd_RX_mk hx)⟩) (fun y => absurd hp y)
    · intro post ra qa wq am rz ob fr st bl f hf hy H
      have e0 : st (nI t).toNatClampNeg = 0 := by rw [ct, hy.y9 t, h0]; rfl
      have e4 : 4 - k = (3 - k) + 1 := by omega
      rw [e4]
      exact br_f (nI_ge (b := 3) hk (by omega)) ⟨i8, br_t e0 (br_t (by rw [I.vD.1, full]) (br_t rfl (H _ (rd_RY_mk hy))))⟩
  · have hDm : D < most := by omega
    obtain ⟨b, p, L, hat⟩ := rd_at_of I ht
    obtain ⟨g1, g2, g3, g4, g5, g6⟩ := id hat
    obtain ⟨v1, v2, v3, v4⟩ := I.vD
    have I1 := rd_i_dn I (by omega)
    have C : rd_C n D t p b (rd_sw (rd_sw A  28 0 (nI (D + 1)))  30 0 (nI (k + 1))) w Q := ⟨I1, ht, h0, hp, n9, g3, g4, g1, g2, by omega, v3, v4⟩
    -- the instruction's outcome, whichever it is
    obtain ⟨a, c, a', c', hO, hX, hY⟩ : ∃ (a c a' c' : Int32), (rd_O1 n D t p (rd_op (A 0) (A 3) b p) a c a' c' (rd_sw (rd_sw A  28 0 (nI (D + 1)))  30 0 (nI (k + 1))) w Q ∨ rd_O2 n D t p (rd_op (A 0) (A 3) b p) a c a' c' (rd_sw (rd_sw A  28 0 (nI (D + 1)))  30 0 (nI (k + 1))) w Q) ∧ (∀ (post : SX → Prop) (ra qa ql : Nat → Int32), wX_perform_119 post (nI t) (nI (p + 1)) (rd_op (A 0) (A 3) b p) a c (nI w.length) ((rd_sw (rd_sw A  28 0 (nI (D + 1)))  30 0 (nI (k + 1))) 25 0) ((rd_sw (rd_sw A  28 0 (nI (D + 1)))  30 0 (nI (k + 1))) 26 0) ((rd_sw (rd_sw A  28 0 (nI (D + 1)))  30 0 (nI (k + 1))) 27 0) ((rd_sw (rd_sw A  28 0 (nI (D + 1)))  30 0 (nI (k + 1))) 28 0) ((rd_sw (rd_sw A  28 0 (nI (D + 1)))  30 0 (nI (k + 1))) 29 0) ((rd_sw (rd_sw A  28 0 (nI (D + 1)))  30 0 (nI (k + 1))) 30 0) ((rd_sw (rd_sw A  28 0 (nI (D + 1)))  30 0 (nI (k + 1))) 31 0) ((rd_sw (rd_sw A  28 0 (nI (D + 1)))  30 0 (nI (k + 1))) 0) ((rd_sw (rd_sw A  28 0 (nI (D + 1)))  30 0 (nI (k + 1))) 1) ((rd_sw (rd_sw A  28 0 (nI (D + 1)))  30 0 (nI (k + 1))) 2) ((rd_sw (rd_sw A  28 0 (nI (D + 1)))  30 0 (nI (k + 1))) 3) ((rd_sw (rd_sw A  28 0 (nI (D + 1)))  30 0 (nI (k + 1))) 4) ((rd_sw (rd_sw A  28 0 (nI (D + 1)))  30 0 (nI (k + 1))) 5) ((rd_sw (rd_sw A  28 0 (nI (D + 1)))  30 0 (nI (k + 1))) 6) ((rd_sw (rd_sw A  28 0 (nI (D + 1)))  30 0 (nI (k + 1))) 7) ((rd_sw (rd_sw A  28 0 (nI (D + 1)))  30 0 (nI (k + 1))) 8) ((rd_sw (rd_sw A  28 0 (nI (D + 1)))  30 0 (nI (k + 1))) 9) ((rd_sw (rd_sw A  28 0 (nI (D + 1)))  30 0 (nI (k + 1))) 10) ((rd_sw (rd_sw A  28 0 (nI (D + 1)))  30 0 (nI (k + 1))) 11) ((rd_sw (rd_sw A  28 0 (nI (D + 1)))  30 0 (nI (k + 1))) 12) ((rd_sw (rd_sw A  28 0 (nI (D + 1)))  30 0 (nI (k + 1))) 13) ((rd_sw (rd_sw A  28 0 (nI (D + 1)))  30 0 (nI (k + 1))) 14) ((rd_sw (rd_sw A  28 0 (nI (D + 1)))  30 0 (nI (k + 1))) 15) ((rd_sw (rd_sw A  28 0 (nI (D + 1)))  30 0 (nI (k + 1))) 16) ((rd_sw (rd_sw A  28 0 (nI (D + 1)))  30 0 (nI (k + 1))) 17) ((rd_sw (rd_sw A  28 0 (nI (D + 1)))  30 0 (nI (k + 1))) 18) ((rd_sw (rd_sw A  28 0 (nI (D + 1)))  30 0 (nI (k + 1))) 19) ((rd_sw (rd_sw A  28 0 (nI (D + 1)))  30 0 (nI (k + 1))) 20) qa ql ra ((rd_sw (rd_sw A  28 0 (nI (D + 1)))  30 0 (nI (k + 1))) 21) ((rd_sw (rd_sw A  28 0 (nI (D + 1)))  30 0 (nI (k + 1))) 22) ((rd_sw (rd_sw A  28 0 (nI (D + 1)))  30 0 (nI (k + 1))) 32) ((rd_sw (rd_sw A  28 0 (nI (D + 1)))  30 0 (nI (k + 1))) 23) → wpX_perform post (rd_tX A (nI w.length) ra qa ql) (nI t)) ∧ (∀ x y : Int32, (p < L → x = A 1 (20 * b + p) ∧ y = A 2 (20 * b + p)) → (¬ p < L → x = A 1 (20 * b) ∧ y = A 2 (20 * b)) → x = a' ∧ y = c') := by
      by_cases z : p < L
      · rw [(rd_at_op hat p).1 z]
        refine ⟨_, _, _, _, rd_instr C (by omega), fun post ra qa ql P => rd_x_perform I ht hat hdt (fun _ => P) (fun y => absurd z y), fun x y h1 _ => h1 z⟩
      · rw [(rd_at_op hat p).2 z]
        exact ⟨0, 0, A 1 (20 * b), A 2 (20 * b), rd_op25 C _ _ _ _, fun post ra qa ql P => rd_x_perform I ht hat hdt (fun y => absurd y z) (fun _ => P), fun x y _ h2 => h2 z⟩
    have dnlt : A 28 0 < nI most := by rw [I.vD.1]; exact nI_lt hDm (by omega)
    have e4 : 4 - k = (3 - k) + 1 := by omega
    have e4' : 3 - k = 4 - (k + 1) := by omega
    rcases hO with ⟨m, B, x, R, J, G, hpe, PX, PY⟩ | ⟨cc, B, x, R, cc0, cc14, J0, J, S, PX, XR, PY⟩
    · -- done at once
      have hmuB := rd_mu_dn (n := n) (A := A) J hDm
      have dtB : B 30 0 = nI (k + 1) := by rw [G.2.2.1]; rfl
      have itB : B 31 0 ≠ 0 := by rw [G.2.2.2.1]; exact hit
      obtain ⟨r, m', E, B', x', R', J', m9', XA, YA⟩ := rd_after (k := k + 1) IM ID (Nat.lt_of_lt_of_le hmuB hmu) (by omega) J G.2.2.2.2.2.1 itB dtB (by omega) (Nat.lt_of_lt_of_le ht G.1) (fun y => ⟨hpe y, G.2.2.2.2.2.2 y hw⟩)
      refine ⟨r, m', E, B', x', R', J', m9', ?_, ?_⟩
      · intro post ra qa ql i f hi hf hx H
        obtain ⟨f', rfl⟩ : ∃ f', f = f' + 1 := ⟨f - 1, by omega⟩
        refine rd_x_pass hb I ht h0 hw (by omega) hx (fun _ => ⟨fun _ => hX _ ra qa ql (PX _ ra qa ql hx ?_), fun y => absurd dnlt y⟩) (fun y => absurd hp y)
        rintro u' ⟨ra1, qa1, ql1, rfl, hx1⟩
        exact XA post _ i f' (by omega) (by omega) (rd_RX_mk hx1) H
      · intro post ra qa wq am rz ob fr st bl f hf hy H
        rw [e4]
        refine rd_y_turn I ht hat hk hy.y9 h0 hDm hmost (fun x1 y1 h1 h2 => ?_)
        obtain ⟨q1, q2⟩ := hY x1 y1 h1 h2
        rw [q1, q2]
        refine PY _ ra qa wq am rz ob fr st bl hy ?_
        rintro v' ⟨ra1, qa1, wq1, am1, rz1, ob1, fr1, st1, bl1, rfl, hy1⟩
        refine nm_r (nI_1 k) ?_
        rw [e4']
        exact YA post ra1 qa1 wq1 am1 rz1 ob1 fr1 st1 bl1 f (by omega) hy1 H
    · -- something is raised
      have hmuB := rd_mu_dn (n := n) (A := A) J hDm
      have dtB : B 30 0 = nI (k + 1) := by rw [S.1  30 (by decide) (by decide) (by decide) (by decide) (by decide) (by decide) (by decide) (by decide) (by decide) (by decide)]; rfl
      have itB : B 31 0 ≠ 0 := by rw [S.1  31 (by decide) (by decide) (by decide) (by decide) (by decide) (by decide) (by decide) (by decide) (by decide) (by decide)]; exact hit
      have hmu0 := rd_mu_dn (n := n) (A := A) J0 hDm
      have hmuS : rd_mu most n (D + 1) B < rd_mu most n (D + 1) (rd_sw (rd_sw (rd_sw A  28 0 (nI (D + 1)))  30 0 (nI (k + 1)))  12 t (nI cc)) := by
        have := S.2.1
        unfold rd_mu
        omega
      obtain ⟨r, m', E, B', x', R', J', m9', XA, YA⟩ := rd_after (k := k + 1) IM ID (Nat.lt_of_lt_of_le hmuB hmu) (by omega) J S.2.2.1 itB dtB (by omega) ht (fun y => ⟨(S.2.2.2 y).1, (S.2.2.2 y).2 hw⟩)
      refine ⟨r, m', E, B', x', R', J', m9', ?_, ?_⟩
      · intro post ra qa ql i f hi hf hx H
        obtain ⟨f', rfl⟩ : ∃ f', f = f' + 1 + 1 := ⟨f - 2, by omega⟩
        refine rd_x_pass hb I ht h0 hw (by omega) hx (fun _ => ⟨fun _ => hX _ ra qa ql (PX _ ra qa ql hx ?_), fun y => absurd dnlt y⟩) (fun y => absurd hp y)
        rintro u' ⟨ra1, qa1, ql1, rfl, hx1⟩
        -- the pass ends with the exception kept; the next one raises it
        have pe' : (rd_sw (rd_sw (rd_sw A  28 0 (nI (D + 1)))  30 0 (nI (k + 1)))  12 t (nI cc)) 12 t = nI cc := rd_us
        have pn : nI cc ≠ 0 := nI_ne0 cc0 (by omega)
        refine rd_x_endTurn J0 (rd_RX_mk hx1) ht (k := k + 1) rfl (by omega) (fun y => absurd h0 y) (fun _ _ => ?_) (fun _ _ y => absurd (pe'.symm.trans y) pn)
        rintro u' ⟨ra2, qa2, ql2, rfl, hx2⟩
        refine nm_r (nI_1 i) (rd_x_pass (Or.inr ⟨hit, rfl⟩) J0 ht h0 hw (by omega) hx2 (fun y => absurd (pe'.symm.trans y) pn) (fun _ => XR _ _ (rd_RX_mk hx2) ?_))
        rintro u' ⟨ra3, qa3, ql3, rfl, hx3⟩
        exact XA post _ (i + 1) f' (by omega) (by omega) (rd_RX_mk hx3) H
      · intro post ra qa wq am rz ob fr st bl f hf hy H
        rw [e4]
        refine rd_y_turn I ht hat hk hy.y9 h0 hDm hmost (fun x1 y1 h1 h2 => ?_)
        obtain ⟨q1, q2⟩ := hY x1 y1 h1 h2
        rw [q1, q2]
        refine PY _ ra qa wq am rz ob fr st bl hy ?_
        rintro v' ⟨ra1, qa1, wq1, am1, rz1, ob1, fr1, st1, bl1, rfl, hy1⟩
        refine nm_r (nI_1 k) ?_
        rw [e4']
        exact YA post ra1 qa1 wq1 am1 rz1 ob1 fr1 st1 bl1 f (by omega) hy1 H
