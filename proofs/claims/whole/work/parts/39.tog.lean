/-! ending together: the pieces -/
def rd_ce (n : Nat) (A : rd_St) (ch : Nat → Int32) : Prop := ∀ u, u < n → ch u ≠ 0 → A 4 u = 8 ∨ (A 4 u = 4 ∧ A 14 u ≠ 0)
theorem rd_xl_ce {post : Int32 → Prop} {A : rd_St} {rl : Int32} {ra qa ql : Nat → Int32} {n : Nat} (hn : n ≤ 8) (hk : A 26 0 = nI n) (H1 : rd_ce n A (A 23) → post 1) (H0 : ¬ rd_ce n A (A 23) → post 0) : ∀ (d k : Nat), k + d = n → (∀ u, u < k → A 23 u ≠ 0 → A 4 u = 8 ∨ (A 4 u = 4 ∧ A 14 u ≠ 0)) → wX_chosenCanEnd_2 post rl (A 25 0) (A 26 0) (A 27 0) (A 28 0) (A 29 0) (A 30 0) (A 31 0) (A 0) (A 1) (A 2) (A 3) (A 4) (A 5) (A 6) (A 7) (A 8) (A 9) (A 10) (A 11) (A 12) (A 13) (A 14) (A 15) (A 16) (A 17) (A 18) (A 19) (A 20) qa ql ra (A 21) (A 22) (A 32) (A 23) (d + 1) (nI k)
  | 0, k, h1, h2 => by
    have e : k = n := by omega
    subst e
    exact br_t (by rw [hk]; exact nI_le (Nat.le_refl _) (by omega)) (H1 h2)
  | d + 1, k, h1, h2 => by
    have ck : (nI k).toNatClampNeg = k := nI_clamp (by omega)
    have i8 : vp_in (nI k) 8 := vp_in_nI (by omega) (by omega)
    have nx : (A 23 k ≠ 0 → A 4 k = 8 ∨ (A 4 k = 4 ∧ A 14 k ≠ 0)) → wX_chosenCanEnd_2 post rl (A 25 0) (A 26 0) (A 27 0) (A 28 0) (A 29 0) (A 30 0) (A 31 0) (A 0) (A 1) (A 2) (A 3) (A 4) (A 5) (A 6) (A 7) (A 8) (A 9) (A 10) (A 11) (A 12) (A 13) (A 14) (A 15) (A 16) (A 17) (A 18) (A 19) (A 20) qa ql ra (A 21) (A 22) (A 32) (A 23) (d + 1) (nI (k + 1)) := fun g => rd_xl_ce hn hk H1 H0 d (k + 1) (by omega) (fun u hu => by
      by_cases e : u = k
      · rw [e]; exact g
      · exact h2 u (by omega))
    have f34 : ∀ z : Int32, (z = 0 ∨ z = 1) → (z = 1 ↔ (A 4 k = 4 ∧ A 14 k ≠ 0)) → wX_chosenCanEnd_34 post (wX_chosenCanEnd_2 post rl (A 25 0) (A 26 0) (A 27 0) (A 28 0) (A 29 0) (A 30 0) (A 31 0) (A 0) (A 1) (A 2) (A 3) (A 4) (A 5) (A 6) (A 7) (A 8) (A 9) (A 10) (A 11) (A 12) (A 13) (A 14) (A 15) (A 16) (A 17) (A 18) (A 19) (A 20) qa ql ra (A 21) (A 22) (A 32) (A 23) (d + 1)) (nI k) z rl (A 25 0) (A 26 0) (A 27 0) (A 28 0) (A 29 0) (A 30 0) (A 31 0) (A 0) (A 1) (A 2) (A 3) (A 4) (A 5) (A 6) (A 7) (A 8) (A 9) (A 10) (A 11) (A 12) (A 13) (A 14) (A 15) (A 16) (A 17) (A 18) (A 19) (A 20) qa ql ra (A 21) (A 22) (A 32) (A 23) := by
      intro z hz hz2
      refine ⟨i8, ?_⟩
      rw [ck]
      refine br_c (fun g => nm_r (nI_1 k) (nx (fun y => absurd g y))) (fun g => ⟨i8, br_c (fun g2 => nm_r (nI_1 k) (nx (fun _ => Or.inl g2))) (fun g2 => br_c (fun g3 => H0 (fun q => ?_)) (fun g3 => nm_r (nI_1 k) (nx (fun _ => Or.inr (hz2.mp ?_)))))⟩)
      · rcases q k (by omega) g with y | y
        · exact g2 y
        · have := hz2.mpr y
          rw [g3] at this
          exact absurd this (by decide)
      · rcases hz with y | y
        · exact absurd y g3
        · exact y
    refine br_f (by rw [hk]; exact nI_ge (by omega) (by omega)) ⟨i8, ?_⟩
    rw [ck]
    by_cases c4 : A 4 k = 4
    · refine br_t c4 ⟨i8, ?_⟩
      by_cases t0 : A 14 k = 0
      · exact br_t t0 (f34 0 (Or.inl rfl) ⟨fun y => absurd y (by decide), fun y => absurd t0 y.2⟩)
      · exact br_f t0 (f34 1 (Or.inr rfl) ⟨fun _ => ⟨c4, t0⟩, fun _ => rfl⟩)
    · exact br_f c4 (f34 0 (Or.inl rfl) ⟨fun y => absurd y (by decide), fun y => absurd y.1 c4⟩)
theorem rd_x_ce {post : Int32 → Prop} {A : rd_St} {rl : Int32} {ra qa ql : Nat → Int32} {n : Nat} (hN : rd_vN n (A 26)) (H1 : rd_ce n A (A 23) → post 1) (H0 : ¬ rd_ce n A (A 23) → post 0) : wpX_chosenCanEnd post (rd_tX A rl ra qa ql) := by
  unfold wpX_chosenCanEnd
  exact ⟨_, rd_xl_ce hN.2 hN.1 H1 H0 n 0 (by omega) (fun u hu => by omega)⟩
/-- an ended task stays so -/
theorem rd_8 {n e D s : Nat} {A B : rd_St} {w : List Nat} {Q : Nat → List Nat} (I : rd_Inv n e D A w Q) (hs : s < n) (h : rd_wl n A B) (h8 : A 4 s = 8) : B 4 s = 8 := by
  have h0 := I.vC s hs (Or.inr h8)
  have c0 : (0 : Int32).toNatClampNeg = 0 := by decide
  have l : rd_c (B 4 s) (B 12 s) + 2 * (B 18 s).toNatClampNeg ≤ rd_c (A 4 s) (A 12 s) + 2 * (A 18 s).toNatClampNeg := h s hs
  rw [h8, h0, c0, rd_c8] at l
  apply Classical.byContradiction
  intro z
  have : 1 ≤ rd_c (B 4 s) (B 12 s) := by
    unfold rd_c
    rw [if_neg z]
    repeat' split
    all_goals omega
  omega
def rd_lk (n : Nat) (A : rd_St) : Prop := ∀ u, u < n → A 4 u ≠ 8 → A 34 u = 1 ∧ A 24 u = A 23 u
theorem rd_etl {n D : Nat} : ∀ (d k : Nat), k + d = n → ∀ (A : rd_St) (w : List Nat) (Q : Nat → List Nat), rd_Inv n 8 D A w Q → (∀ s, s < n → A 4 s ≠ 9) → rd_lk n A → ∃ B z R, rd_Inv n 8 D B z R ∧ (∀ s, s < n → B 4 s ≠ 9) ∧ rd_K4 A B ∧ rd_wl n A B ∧ ((∃ u, k ≤ u ∧ u < n ∧ A 23 u ≠ 0 ∧ A 4 u = 4) → rd_ph n B < rd_ph n A) ∧
    (∀ (post : Int32 → SX → Prop) (ra qa ql : Nat → Int32), rd_XL w Q ra qa ql → (∀ u', rd_RX B z R u' → post 1 u') → wX_endTogether_75 post (d + 1) (nI k) (nI w.length) (A 25 0) (A 26 0) (A 27 0) (A 28 0) (A 29 0) (A 30 0) (A 31 0) (A 0) (A 1) (A 2) (A 3) (A 4) (A 5) (A 6) (A 7) (A 8) (A 9) (A 10) (A 11) (A 12) (A 13) (A 14) (A 15) (A 16) (A 17) (A 18) (A 19) (A 20) qa ql ra (A 21) (A 22) (A 32) (A 23)) ∧
    (∀ (post : Int32 → SY → Prop) (ra qa wq am rz ob fr st : Nat → Int32) (bl : Int32), rd_YL 8 n D A w Q ra qa wq am rz ob fr st bl → (∀ v', rd_RY 8 n D B z R v' → post 1 v') → wY_endTogether_132 post (d + 1) (nI k) (A 26 0) bl (nI w.length) (A 27 0) (A 28 0) (A 29 0) (A 25 0) (A 3) (A 0) (A 1) (A 2) st (A 5) (A 6) (A 11) (A 8) (A 7) rz (A 16) (A 18) (A 19) fr (A 9) ob (A 13) qa wq ra (A 33) am (A 21) (A 22))
  | 0, k, hk, A, w, Q, I, n9, hl => by
    have hn := I.vN.2
    have e : k = n := by omega
    subst e
    refine ⟨A, w, Q, I, n9, ⟨rfl, rfl, rfl, rfl⟩, rd_wl_rf _ _, fun ⟨u, a, b, _⟩ => by omega, ?_, ?_⟩
    · intro post ra qa ql hx H
      exact br_t (by rw [I.vN.1]; exact nI_le (Nat.le_refl _) (by omega)) (H _ (rd_RX_mk hx))
    · intro post ra qa wq am rz ob fr st bl hy H
      exact br_t (by rw [I.vN.1]; exact nI_le (Nat.le_refl _) (by omega)) (H _ (rd_RY_mk hy))
  | d + 1, k, hk, A, w, Q, I, n9, hl => by
    have hn := I.vN.2
    have hkn : k < n := by omega
    have ck : (nI k).toNatClampNeg = k := nI_clamp (by omega)
    have i8 : vp_in (nI k) 8 := vp_in_nI (by omega) (by omega)
    have tk : ¬ A 26 0 ≤ nI k := by rw [I.vN.1]; exact nI_ge (by omega) (by omega)
    by_cases go : A 23 k ≠ 0 ∧ A 4 k = 4
    · obtain ⟨c0, c4⟩ := go
      have c2 : A 4 k ≠ 2 := by rw [c4]; decide
      have c7 : A 4 k ≠ 7 := by rw [c4]; decide
      have c8 : A 4 k ≠ 8 := by rw [c4]; decide
      obtain ⟨g1, a1⟩ := hl k hkn c8
      obtain ⟨B1, x1, R1, J1, F, X1, Y1⟩ := rd_bd (ex := 8) (t := k) 0 I hkn c7 c8 (rd_nf_of hn I.vF hkn c2) n9 (fun y => by omega)
      have ech : B1 23 = A 23 := F.1 _ (by decide) (by decide) (by decide) (by decide) (by decide) (by decide) (by decide) (by decide) (by decide)
      have eam : B1 24 = A 24 := F.1 _ (by decide) (by decide) (by decide) (by decide) (by decide) (by decide) (by decide) (by decide) (by decide)
      have egl : B1 34 = A 34 := F.1 _ (by decide) (by decide) (by decide) (by decide) (by decide) (by decide) (by decide) (by decide) (by decide)
      have hl1 : rd_lk n B1 := by
        intro u hu y
        rw [ech, eam, egl]
        exact hl u hu (fun q => y (rd_8 I hu F.2.1 q))
      obtain ⟨B, z, R, J, m9, mK, mw, _, X, Y⟩ := rd_etl d (k + 1) (by omega) B1 x1 R1 J1 F.2.2.2.1 hl1
      refine ⟨B, z, R, J, m9, rd_K4_tr (rd_K4_w F.1) mK, rd_wl_tr F.2.1 mw, fun _ => Nat.lt_of_le_of_lt (rd_ph_le mw) (rd_ph_lt F.2.1 hkn F.2.2.2.2.2.2), ?_, ?_⟩
      · intro post ra qa ql hx H
        refine br_f tk ⟨i8, ?_⟩
        rw [ck]
        refine br_f c0 ⟨i8, br_t c4 (X1 _ _ (rd_RX_mk hx) ?_)⟩
        rintro u' ⟨ra1, qa1, ql1, rfl, hx1⟩
        exact nm_r (nI_1 k) (X post ra1 qa1 ql1 hx1 H)
      · intro post ra qa wq am rz ob fr st bl hy H
        refine br_f tk ⟨i8, ?_⟩
        rw [ck, hy.y10 k (by omega) g1, a1]
        refine br_f c0 ⟨i8, ?_⟩
        rw [hy.y9 k, rd_cv_n (n9 k hkn)]
        refine br_t c4 (Y1 _ _ (rd_RY_mk hy) ?_)
        rintro v' ⟨ra1, qa1, wq1, am1, rz1, ob1, fr1, st1, bl1, rfl, hy1⟩
        exact nm_r (nI_1 k) (Y post ra1 qa1 wq1 am1 rz1 ob1 fr1 st1 bl1 hy1 H)
    · obtain ⟨B, z, R, J, m9, mK, mw, mp, X, Y⟩ := rd_etl d (k + 1) (by omega) A w Q I n9 hl
      refine ⟨B, z, R, J, m9, mK, mw, fun ⟨u, a, b, c, c'⟩ => mp ⟨u, ?_, b, c, c'⟩, ?_, ?_⟩
      · by_cases e : u = k
        · rw [e] at c c'; exact absurd ⟨c, c'⟩ go
        · omega
      · intro post ra qa ql hx H
        have nx := X post ra qa ql hx H
        refine br_f tk ⟨i8, ?_⟩
        rw [ck]
        exact br_c (fun _ => nm_r (nI_1 k) nx) (fun y => ⟨i8, br_f (fun q => go ⟨y, q⟩) (nm_r (nI_1 k) nx)⟩)
      · intro post ra qa wq am rz ob fr st bl hy H
        have nx := Y post ra qa wq am rz ob fr st bl hy H
        refine br_f tk ⟨i8, ?_⟩
        rw [ck]
        refine br_c (fun _ => nm_r (nI_1 k) nx) (fun y => ⟨i8, ?_⟩)
        rw [hy.y9 k, rd_cv_n (n9 k hkn)]
        refine br_f (fun q => go ⟨?_, q⟩) (nm_r (nI_1 k) nx)
        obtain ⟨g1, a1⟩ := hl k hkn (by rw [q]; decide)
        rw [hy.y10 k (by omega) g1, a1] at y
        exact y
