/-! the main loop, whole -/
theorem rd_head {most mu n D : Nat} {A : rd_St} {w : List Nat} {Q : Nat → List Nat} (hmost : most ≤ 500) (IM : rd_IM most mu) (ID : rd_ID most mu) (hmu : rd_mu most n D A ≤ mu) (hD : D ≤ most) (hn0 : 0 < n) (I : rd_Inv n 8 D A w Q) (n9 : ∀ s, s < n → A 4 s ≠ 9) (hit : A 31 0 = 0) : rd_MN most n D A w Q := by
  have hn := I.vN.2
  by_cases c8 : A 4 0 = 8
  · refine ⟨0, n, D, A, w, Q, I, n9, ?_, ?_⟩
    · intro post ra qa ql i f hi hf hx H
      obtain ⟨f', rfl⟩ : ∃ f', f = f' + 1 := ⟨f - 1, by omega⟩
      exact br_f (nI_ge (b := 1000000) (by omega) (by omega)) (br_t c8 (H _ (rd_RX_mk hx)))
    · intro post ra qa wq am rz ob fr st bl f hf hy H
      obtain ⟨f', rfl⟩ : ∃ f', f = f' + 1 := ⟨f - 1, by omega⟩
      exact br_t (by rw [hy.y9 0, c8]; rfl) (H _ (rd_RY_mk hy))
  · have ns8 : ∀ {st : Nat → Int32}, rd_y9 (A 4) st → st 0 ≠ 8 := fun h9 y => by
      rw [h9 0] at y
      exact c8 ((rd_cv_eq (by decide) (by decide)).mp y)
    cases hw : w with
    | nil =>
      rw [hw] at I
      obtain ⟨r, B, z, R, hr, J, m9, mK, mw, mp, mz, X, Y⟩ := rd_tog I n9
      have itB : B 31 0 = 0 := by rw [mK.2.2.1]; exact hit
      have phB := rd_ph_le mw
      rcases hr with r0 | r1
      · -- TIME
        subst r0
        obtain ⟨r', B2, z2, R2, hr', J2, m92, mK2, mp2, mw2, X2, Y2⟩ := rd_pass J m9
        have itB2 : B2 31 0 = 0 := by rw [mK2.2.2.1]; exact itB
        rcases hr' with s0 | s1
        · subst s0
          refine ⟨1, n, D, B2, z2, R2, J2, m92, ?_, ?_⟩
          · intro post ra qa ql i f hi hf hx H
            obtain ⟨f', rfl⟩ : ∃ f', f = f' + 1 := ⟨f - 1, by omega⟩
            refine br_f (nI_ge (b := 1000000) (by omega) (by omega)) (br_f c8 (br_t rfl (X _ _ (rd_RX_mk hx) ?_)))
            rintro u' ⟨ra1, qa1, ql1, rfl, hx1⟩
            refine br_t rfl (X2 _ _ (rd_RX_mk hx1) ?_)
            rintro u' ⟨ra2, qa2, ql2, rfl, hx2⟩
            exact br_t rfl (H _ (rd_RX_mk hx2))
          · intro post ra qa wq am rz ob fr st bl f hf hy H
            obtain ⟨f', rfl⟩ : ∃ f', f = f' + 1 := ⟨f - 1, by omega⟩
            refine br_f (ns8 hy.y9) (br_t (nI_le (a := 0) (b := 0) (Nat.le_refl _) (by omega)) (Y _ _ (rd_RY_mk hy) ?_))
            rintro v' ⟨ra1, qa1, wq1, am1, rz1, ob1, fr1, st1, bl1, rfl, hy1⟩
            refine br_t rfl (Y2 _ _ (rd_RY_mk hy1) ?_)
            rintro v' ⟨ra2, qa2, wq2, am2, rz2, ob2, fr2, st2, bl2, rfl, hy2⟩
            exact br_t rfl (H _ (rd_RY_mk hy2))
        · subst s1
          have lt : rd_mu most n D B2 < rd_mu most n D A := by
            have := mp2 rfl
            unfold rd_mu
            omega
          obtain ⟨q, m', E, B', x', R', J', m9', XA, YA⟩ := IM n D B2 z2 R2 (by omega) hD hn0 J2 m92 itB2
          refine ⟨q, m', E, B', x', R', J', m9', ?_, ?_⟩
          · intro post ra qa ql i f hi hf hx H
            obtain ⟨f', rfl⟩ : ∃ f', f = f' + 1 := ⟨f - 1, by omega⟩
            refine br_f (nI_ge (b := 1000000) (by omega) (by omega)) (br_f c8 (br_t rfl (X _ _ (rd_RX_mk hx) ?_)))
            rintro u' ⟨ra1, qa1, ql1, rfl, hx1⟩
            refine br_t rfl (X2 _ _ (rd_RX_mk hx1) ?_)
            rintro u' ⟨ra2, qa2, ql2, rfl, hx2⟩
            exact br_f (by decide) (nm_r (nI_1 i) (XA post ra2 qa2 ql2 (i + 1) f' (by omega) (by omega) hx2 H))
          · intro post ra qa wq am rz ob fr st bl f hf hy H
            obtain ⟨f', rfl⟩ : ∃ f', f = f' + 1 := ⟨f - 1, by omega⟩
            refine br_f (ns8 hy.y9) (br_t (nI_le (a := 0) (b := 0) (Nat.le_refl _) (by omega)) (Y _ _ (rd_RY_mk hy) ?_))
            rintro v' ⟨ra1, qa1, wq1, am1, rz1, ob1, fr1, st1, bl1, rfl, hy1⟩
            refine br_t rfl (Y2 _ _ (rd_RY_mk hy1) ?_)
            rintro v' ⟨ra2, qa2, wq2, am2, rz2, ob2, fr2, st2, bl2, rfl, hy2⟩
            exact br_f (by decide) (YA post ra2 qa2 wq2 am2 rz2 ob2 fr2 st2 bl2 f' (by omega) hy2 H)
      · subst r1
        have lt : rd_mu most n D B < rd_mu most n D A := by
          have := mp rfl
          unfold rd_mu
          omega
        obtain ⟨q, m', E, B', x', R', J', m9', XA, YA⟩ := IM n D B z R (by omega) hD hn0 J m9 itB
        refine ⟨q, m', E, B', x', R', J', m9', ?_, ?_⟩
        · intro post ra qa ql i f hi hf hx H
          obtain ⟨f', rfl⟩ : ∃ f', f = f' + 1 := ⟨f - 1, by omega⟩
          refine br_f (nI_ge (b := 1000000) (by omega) (by omega)) (br_f c8 (br_t rfl (X _ _ (rd_RX_mk hx) ?_)))
          rintro u' ⟨ra1, qa1, ql1, rfl, hx1⟩
          exact br_f (by decide) (nm_r (nI_1 i) (XA post ra1 qa1 ql1 (i + 1) f' (by omega) (by omega) hx1 H))
        · intro post ra qa wq am rz ob fr st bl f hf hy H
          obtain ⟨f', rfl⟩ : ∃ f', f = f' + 1 := ⟨f - 1, by omega⟩
          refine br_f (ns8 hy.y9) (br_t (nI_le (a := 0) (b := 0) (Nat.le_refl _) (by omega)) (Y _ _ (rd_RY_mk hy) ?_))
          rintro v' ⟨ra1, qa1, wq1, am1, rz1, ob1, fr1, st1, bl1, rfl, hy1⟩
          exact br_f (by decide) (YA post ra1 qa1 wq1 am1 rz1 ob1 fr1 st1 bl1 f' (by omega) hy1 H)
    | cons t l =>
      rw [← hw]
      have hm : t ∈ w := by rw [hw]; simp
      obtain ⟨ht, h0⟩ := (I.vR.2 t).mp hm
      have hh : w.head? = some t := by rw [hw]; rfl
      have ct : (nI t).toNatClampNeg = t := nI_clamp (by omega)
      have i8 : vp_in (nI t) 8 := vp_in_nI (by omega) (by omega)
      have lw : 0 < w.length := by rw [hw]; simp
      have wl := rd_wlen I
      have hb : rd_bt A (rd_sw (rd_sw (rd_sw A  29 0 (A 29 0 + 1))  30 0 0)  31 0 1) := Or.inl ⟨hit, rfl⟩
      have I1 : rd_Inv n 8 D (rd_sw (rd_sw (rd_sw A  29 0 (A 29 0 + 1))  30 0 0)  31 0 1) w Q := I
      have r0 : ∀ {ra : Nat → Int32}, rd_LV ra 0 w → ra 0 = nI t := fun h => by rw [hw] at h; exact h.1
      have it1 : (rd_sw (rd_sw (rd_sw A  29 0 (A 29 0 + 1))  30 0 0)  31 0 1) 31 0 ≠ 0 := by
        show (1 : Int32) ≠ 0
        decide
      have n7 : A 4 t ≠ 7 := by rw [h0]; decide
      have n8 : A 4 t ≠ 8 := by rw [h0]; decide
      have n9' : A 4 t ≠ 9 := by rw [h0]; decide
      obtain ⟨c, hc, ec⟩ := I.rpe t ht
      by_cases p0 : A 12 t = 0
      · obtain ⟨q, m', E, B', x', R', J', m9', XA, YA⟩ := rd_mid (k := 0) (A0 := A) (A := rd_sw (rd_sw (rd_sw A  29 0 (A 29 0 + 1))  30 0 0)  31 0 1) hmost IM ID hmu hD I1 n9 it1 rfl (by omega) ht h0 p0 hh hb
        refine ⟨q, m', E, B', x', R', J', m9', fun post ra qa ql i f hi hf hx H => XA post ra qa ql i f hi hf hx H, ?_⟩
        intro post ra qa wq am rz ob fr st bl f hf hy H
        obtain ⟨f', rfl⟩ : ∃ f', f = f' + 1 := ⟨f - 1, by omega⟩
        have rz0 : rz t = 0 := (rd_y4_n hy.y4 ht (by omega) n7 n8 n9').trans p0
        refine br_f (ns8 hy.y9) (br_f (nI_nle lw (by omega)) ?_)
        rw [r0 hy.r]
        unfold wpY_turn
        refine nm_e ⟨i8, br_t (by rw [ct, rz0]; exact nI_le (a := 0) (b := 0) (Nat.le_refl _) (by omega)) ⟨4, ?_⟩⟩
        exact YA post ra qa wq am rz ob fr st bl f' (by have : rd_mu most n D A < f' + 1 := hf; exact Nat.lt_succ_iff.mp this) hy H
      · have cpos : 0 < c := by
          apply Classical.byContradiction
          intro y
          have : c = 0 := by omega
          rw [this] at ec
          exact p0 ec
        obtain ⟨B, x, R, J, S, XR, YR⟩ := rd_raise cpos hc I1 ht h0 ec n9
        have dtB : B 30 0 = nI 0 := by rw [S.1  30 (by decide) (by decide) (by decide) (by decide) (by decide) (by decide) (by decide) (by decide) (by decide) (by decide)]; rfl
        have itB : B 31 0 ≠ 0 := by rw [S.1  31 (by decide) (by decide) (by decide) (by decide) (by decide) (by decide) (by decide) (by decide) (by decide) (by decide)]; exact it1
        have lt : rd_mu most n D B < rd_mu most n D A := by
          have h1 : rd_ph n B < rd_ph n A := S.2.1
          unfold rd_mu
          omega
        obtain ⟨q, m', E, B', x', R', J', m9', XA, YA⟩ := rd_after (k := 0) IM ID (Nat.lt_of_lt_of_le lt hmu) hD J S.2.2.1 itB dtB (by omega) ht (fun y => ⟨(S.2.2.2 y).1, (S.2.2.2 y).2 hh⟩)
        refine ⟨q, m', E, B', x', R', J', m9', ?_, ?_⟩
        · intro post ra qa ql i f hi hf hx H
          obtain ⟨f', rfl⟩ : ∃ f', f = f' + 1 := ⟨f - 1, by omega⟩
          refine rd_x_pass hb I1 ht h0 hh (by omega) hx (fun y => absurd y p0) (fun _ => XR _ _ (rd_RX_mk hx) ?_)
          rintro u' ⟨ra1, qa1, ql1, rfl, hx1⟩
          exact XA post _ i f' (by omega) (by omega) (rd_RX_mk hx1) H
        · intro post ra qa wq am rz ob fr st bl f hf hy H
          obtain ⟨f', rfl⟩ : ∃ f', f = f' + 1 := ⟨f - 1, by omega⟩
          have rzc : rz t = nI c := (rd_y4_n hy.y4 ht (by omega) n7 n8 n9').trans ec
          refine br_f (ns8 hy.y9) (br_f (nI_nle lw (by omega)) ?_)
          rw [r0 hy.r]
          unfold wpY_turn
          refine nm_e ⟨i8, br_f (by rw [ct, rzc]; exact nI_nle cpos (by omega)) ⟨i8, ?_⟩⟩
          rw [ct, rzc]
          refine YR _ ra qa wq am rz ob fr st bl ⟨8, Or.inr rfl, hy⟩ ?_
          rintro v' ⟨ra1, qa1, wq1, am1, rz1, ob1, fr1, st1, bl1, rfl, hy1⟩
          exact ⟨4, YA post ra1 qa1 wq1 am1 rz1 ob1 fr1 st1 bl1 f' (by omega) hy1 H⟩
theorem rd_both {most : Nat} (hmost : most ≤ 500) : ∀ mu, rd_IM most mu ∧ rd_ID most mu := by
  intro mu
  induction mu with
  | zero => exact ⟨fun n D A w Q h => by omega, fun n D t k A w Q h => by omega⟩
  | succ mu ih =>
    refine ⟨fun n D A w Q h hD hn0 I n9 hit => rd_head hmost ih.1 ih.2 (by omega) hD hn0 I n9 hit, fun n D t k A w Q h hD I n9 hit hdt hk ht h0 hp hw => rd_mid hmost ih.1 ih.2 (by omega) hD I n9 hit hdt hk ht h0 hp hw (Or.inr ⟨hit, rfl⟩)⟩
theorem rd_main {most n D : Nat} {A : rd_St} {w : List Nat} {Q : Nat → List Nat} (hmost : most ≤ 500) (hD : D ≤ most) (hn0 : 0 < n) (I : rd_Inv n 8 D A w Q) (n9 : ∀ s, s < n → A 4 s ≠ 9) (hit : A 31 0 = 0) : rd_MN most n D A w Q := (rd_both hmost (rd_mu most n D A + 1)).1 n D A w Q (by omega) hD hn0 I n9 hit
