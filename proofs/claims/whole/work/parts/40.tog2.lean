/-! ending together, on both sides -/
theorem rd_u_m1 {n D t u : Nat} {dp fk ma mb cd ob fr : Nat → Int32} {bl : Int32} (hn : n ≤ 8) (hDD : D ≤ 500) (ht : t < n) (hB : rd_vB n dp fk ma mb cd) (hr : rd_rng n 8 dp) (h6 : rd_y6 n D dp fk fr bl) (h8 : rd_y8 n ma mb cd ob fr) (h9 : cd t ≠ 9) (hu : u < n) (e3 : cd u ≠ 8) (e1 : ma u = nI t) : mb u = -1 ↔ ob u = -1 := by
  obtain ⟨_, b⟩ := h8 u hu e3
  obtain ⟨_, b2, b3⟩ := b t ht e1
  constructor
  · exact b2 h9
  · intro e2
    rcases hB u hu e3 with y | ⟨m, l, hm, f1, f2, f3, f4⟩
    · exact y
    · have : m = t := rd_inj (by omega) (by omega) (f1.symm.trans e1)
      subst this
      obtain ⟨b', hb', _, g⟩ := h6
      obtain ⟨x, hx, gx⟩ := g m hm l f3 f4
      obtain ⟨j, hj, gj⟩ := hr m hm
      rw [gj, nI_clamp (by omega)] at f3
      have := b3 h9 l (by omega) f2
      rw [e2, gx] at this
      exact absurd this.symm (rd_nm (by omega))
theorem rd_u_bl {n D t u l : Nat} {dp fk ma mb cd ob fr : Nat → Int32} {bl : Int32} (hn : n ≤ 8) (hDD : D ≤ 500) (ht : t < n) (hB : rd_vB n dp fk ma mb cd) (hr : rd_rng n 8 dp) (h6 : rd_y6 n D dp fk fr bl) (h7 : rd_y7 n dp fk fr) (h8 : rd_y8 n ma mb cd ob fr) (h9 : cd t ≠ 9) (hl : l < (dp t).toNatClampNeg) (hk : fk (8 * t + l) = 0) (hu : u < n) (e3 : cd u ≠ 8) (e1 : ma u = nI t) : mb u = nI l ↔ ob u = fr (8 * t + l) := by
  have l8 : ∀ l, l < (dp t).toNatClampNeg → l < 8 := by
    intro l hl
    obtain ⟨j, hj, gj⟩ := hr t ht
    rw [gj, nI_clamp (by omega)] at hl
    omega
  obtain ⟨_, b⟩ := h8 u hu e3
  obtain ⟨_, b2, b3⟩ := b t ht e1
  constructor
  · exact b3 h9 l (l8 l hl)
  · intro e2
    rcases hB u hu e3 with y | ⟨m, k, hm, f1, f2, f3, f4⟩
    · obtain ⟨b', hb', _, g⟩ := h6
      obtain ⟨x, hx, gx⟩ := g t ht l hl hk
      have := b2 h9 y
      rw [e2, gx] at this
      exact absurd this (rd_nm (by omega))
    · have : m = t := rd_inj (by omega) (by omega) (f1.symm.trans e1)
      subst this
      have := b3 h9 k (l8 k f3) f2
      rw [e2] at this
      rw [h7 m hm l hl k f3 hk f4 this]
      exact f2
theorem rd_y_isEnding {post : Int32 → Prop} {n D u : Nat} {A : rd_St} {w : List Nat} {Q : Nat → List Nat} {ra qa wq am rz ob fr st : Nat → Int32} {bl : Int32} (I : rd_Inv n 8 D A w Q) (hu : u < n) (h9 : rd_y9 (A 4) st) (H1 : A 4 u = 4 → A 14 u ≠ 0 → post 1) (H0 : ¬ (A 4 u = 4 ∧ A 14 u ≠ 0) → post 0) : wpY_isEnding post (rd_tY A (nI w.length) ra qa wq am rz ob fr st bl) (nI u) := by
  have hn := I.vN.2
  have cu : (nI u).toNatClampNeg = u := nI_clamp (by omega)
  have i8 : vp_in (nI u) 8 := vp_in_nI (by omega) (by omega)
  unfold wpY_isEnding
  refine ⟨i8, ?_⟩
  rw [cu, h9 u]
  by_cases c4 : A 4 u = 4
  · obtain ⟨b, p, hp, hb, eb, ep, et⟩ := (I.vA u hu).2 c4
    obtain ⟨bb, pp, L, hat⟩ := rd_at_of I hu
    obtain ⟨g1, g2, g3, g4, g5, g6⟩ := id hat
    have e1 : bb = b := rd_inj (by omega) (by omega) (g1.symm.trans eb)
    have e2 : pp = p := rd_inj (by omega) (by omega) (g3.symm.trans ep)
    subst e1
    subst e2
    refine br_t (by rw [c4]; rfl) (rd_y_other hat (by omega) (fun g => br_t (by decide) (H0 (fun y => y.2 ?_))) (fun i g => ?_))
    · rw [et, g]; rfl
    · have zi := rd_scan_some _ _ _ _ _ g
      refine br_f (nI_pos (by omega)) (rd_y_opAt hat (by omega) (by omega) (br_c (fun y => H1 c4 ?_) (fun y => H0 (fun q => q.2 ?_))))
      · rw [et, g]; simp [y]
      · rw [et, g]; simp [y]
  · exact br_f (fun y => c4 ((rd_cv_eq (by decide) (by decide)).mp y)) (H0 (fun y => c4 y.1))
theorem rd_yl_all {post : Int32 → SY → Prop} {J : Int32 → Int32 → Int32 → Int32 → Int32 → Int32 → Int32 → Int32 → (Nat → Int32) → (Nat → Int32) → (Nat → Int32) → (Nat → Int32) → (Nat → Int32) → (Nat → Int32) → (Nat → Int32) → (Nat → Int32) → (Nat → Int32) → (Nat → Int32) → (Nat → Int32) → (Nat → Int32) → (Nat → Int32) → (Nat → Int32) → (Nat → Int32) → (Nat → Int32) → (Nat → Int32) → (Nat → Int32) → (Nat → Int32) → (Nat → Int32) → (Nat → Int32) → (Nat → Int32) → (Nat → Int32) → (Nat → Int32) → (Nat → Int32) → Prop} {n D : Nat} {A : rd_St} {w : List Nat} {Q : Nat → List Nat} {ra qa wq am rz ob fr st : Nat → Int32} {bl x1 : Int32} (I : rd_Inv n 8 D A w Q) (h9 : rd_y9 (A 4) st) (H1 : rd_ce n A am → ∃ f, wY_endTogether_132 post f 0 (A 26 0) bl (nI w.length) (A 27 0) (A 28 0) (A 29 0) (A 25 0) (A 3) (A 0) (A 1) (A 2) st (A 5) (A 6) (A 11) (A 8) (A 7) rz (A 16) (A 18) (A 19) fr (A 9) ob (A 13) qa wq ra (A 33) am (A 21) (A 22)) (H0 : ¬ rd_ce n A am → J (x1 + 1) (A 26 0) bl (nI w.length) (A 27 0) (A 28 0) (A 29 0) (A 25 0) (A 3) (A 0) (A 1) (A 2) st (A 5) (A 6) (A 11) (A 8) (A 7) rz (A 16) (A 18) (A 19) fr (A 9) ob (A 13) qa wq ra (A 33) am (A 21) (A 22)) : ∀ (d k : Nat) (x3 : Int32), k + d = n → (x3 = 0 ∨ x3 = 1) → (x3 = 1 ↔ ∀ u, u < k → am u ≠ 0 → A 4 u = 8 ∨ (A 4 u = 4 ∧ A 14 u ≠ 0)) → wY_endTogether_68 post J x1 (A 26 0) bl (nI w.length) (A 27 0) (A 28 0) (A 29 0) (A 25 0) (A 3) (A 0) (A 1) (A 2) st (A 5) (A 6) (A 11) (A 8) (A 7) rz (A 16) (A 18) (A 19) fr (A 9) ob (A 13) qa wq ra (A 33) am (A 21) (A 22) (d + 1) x3 (nI k)
  | 0, k, x3, h1, h2, h3 => by
    have hn := I.vN.2
    have e : k = n := by omega
    subst e
    refine br_t (by rw [I.vN.1]; exact nI_le (Nat.le_refl _) (by omega)) (br_c (fun y => nm_r rfl (H0 (fun q => ?_))) (fun y => H1 (h3.mp ?_)))
    · have := h3.mpr q
      rw [y] at this
      exact absurd this (by decide)
    · rcases h2 with q | q
      · exact absurd q y
      · exact q
  | d + 1, k, x3, h1, h2, h3 => by
    have hn := I.vN.2
    have ck : (nI k).toNatClampNeg = k := nI_clamp (by omega)
    have i8 : vp_in (nI k) 8 := vp_in_nI (by omega) (by omega)
    have a1 : x3 &&& 1 = x3 := by rcases h2 with y | y <;> rw [y] <;> decide
    have a0 : x3 &&& 0 = 0 := by rcases h2 with y | y <;> rw [y] <;> decide
    have ok : (am k ≠ 0 → A 4 k = 8 ∨ (A 4 k = 4 ∧ A 14 k ≠ 0)) → wY_endTogether_68 post J x1 (A 26 0) bl (nI w.length) (A 27 0) (A 28 0) (A 29 0) (A 25 0) (A 3) (A 0) (A 1) (A 2) st (A 5) (A 6) (A 11) (A 8) (A 7) rz (A 16) (A 18) (A 19) fr (A 9) ob (A 13) qa wq ra (A 33) am (A 21) (A 22) (d + 1) x3 (nI (k + 1)) := fun g => rd_yl_all I h9 H1 H0 d (k + 1) x3 (by omega) h2 (h3.trans ⟨fun q u hu => by
      by_cases e : u = k
      · rw [e]; exact g
      · exact q u (by omega), fun q u hu => q u (by omega)⟩)
    refine br_f (by rw [I.vN.1]; exact nI_ge (by omega) (by omega)) ⟨i8, ?_⟩
    rw [ck]
    refine br_c (fun y => nm_r a1 (nm_r (nI_1 k) (ok (fun q => absurd y q)))) (fun y => ⟨i8, ?_⟩)
    rw [h9 k]
    by_cases c8 : A 4 k = 8
    · exact br_t (by rw [c8]; rfl) (nm_r a1 (nm_r (nI_1 k) (ok (fun _ => Or.inl c8))))
    · refine br_f (fun q => c8 ((rd_cv_eq (by decide) (by decide)).mp q)) (rd_y_isEnding I (by omega) h9 (fun q1 q2 => br_f (by decide) (nm_r a1 (nm_r (nI_1 k) (ok (fun _ => Or.inr ⟨q1, q2⟩))))) (fun q => br_t rfl (nm_r a0 (nm_r (nI_1 k) (rd_yl_all I h9 H1 H0 d (k + 1) 0 (by omega) (Or.inl rfl) ⟨fun z => absurd z (by decide), fun z => ?_⟩)))))
      rcases z k (by omega) y with g | g
      · exact absurd g c8
      · exact absurd g q
theorem rd_et {n D : Nat} : ∀ (d k : Nat), k + d = n → ∀ (A : rd_St) (w : List Nat) (Q : Nat → List Nat), rd_Inv n 8 D A w Q → (∀ s, s < n → A 4 s ≠ 9) → ∃ (r : Int32) (B : rd_St) (z : List Nat) (R : Nat → List Nat), (r = 0 ∨ r = 1) ∧ rd_Inv n 8 D B z R ∧ (∀ s, s < n → B 4 s ≠ 9) ∧ rd_K4 A B ∧ rd_wl n A B ∧ (r = 1 → rd_ph n B < rd_ph n A) ∧ (r = 0 → z = w) ∧
    (∀ (post : Int32 → SX → Prop) (ra qa ql : Nat → Int32), rd_XL w Q ra qa ql → (∀ u', rd_RX B z R u' → post r u') → wX_endTogether_2 post (d + 1) (nI k) (nI w.length) (A 25 0) (A 26 0) (A 27 0) (A 28 0) (A 29 0) (A 30 0) (A 31 0) (A 0) (A 1) (A 2) (A 3) (A 4) (A 5) (A 6) (A 7) (A 8) (A 9) (A 10) (A 11) (A 12) (A 13) (A 14) (A 15) (A 16) (A 17) (A 18) (A 19) (A 20) qa ql ra (A 21) (A 22) (A 32) (A 23)) ∧
    (∀ (post : Int32 → SY → Prop) (ra qa wq am rz ob fr st : Nat → Int32) (bl : Int32), rd_YL 8 n D A w Q ra qa wq am rz ob fr st bl → (∀ v', rd_RY 8 n D B z R v' → post r v') → wY_endTogether_2 post (d + 1) (nI k) (A 26 0) bl (nI w.length) (A 27 0) (A 28 0) (A 29 0) (A 25 0) (A 3) (A 0) (A 1) (A 2) st (A 5) (A 6) (A 11) (A 8) (A 7) rz (A 16) (A 18) (A 19) fr (A 9) ob (A 13) qa wq ra (A 33) am (A 21) (A 22))
  | 0, k, hk, A, w, Q, I, n9 => by
    have hn := I.vN.2
    have e : k = n := by omega
    subst e
    refine ⟨0, A, w, Q, Or.inl rfl, I, n9, ⟨rfl, rfl, rfl, rfl⟩, rd_wl_rf _ _, fun y => absurd y (by decide), fun _ => rfl, ?_, ?_⟩
    · intro post ra qa ql hx H
      exact br_t (by rw [I.vN.1]; exact nI_le (Nat.le_refl _) (by omega)) (H _ (rd_RX_mk hx))
    · intro post ra qa wq am rz ob fr st bl hy H
      exact br_t (by rw [I.vN.1]; exact nI_le (Nat.le_refl _) (by omega)) (H _ (rd_RY_mk hy))
  | d + 1, k, hk, A, w, Q, I, n9 => by
    have hn := I.vN.2
    have hDD := I.vD.2.1
    have hkn : k < n := by omega
    have ck : (nI k).toNatClampNeg = k := nI_clamp (by omega)
    have i8 : vp_in (nI k) 8 := vp_in_nI (by omega) (by omega)
    have tk : ¬ A 26 0 ≤ nI k := by rw [I.vN.1]; exact nI_ge (by omega) (by omega)
    by_cases c67 : A 4 k = 6 ∨ A 4 k = 7
    · -- what it waits for
      obtain ⟨bx, hb6, hb7⟩ : ∃ bx : Int32, (A 4 k = 6 → bx = A 18 k - 1) ∧ (A 4 k ≠ 6 → bx = -1) := by
        by_cases c6 : A 4 k = 6
        · exact ⟨A 18 k - 1, fun _ => rfl, fun y => absurd c6 y⟩
        · exact ⟨-1, fun y => absurd y c6, fun _ => rfl⟩
      have bx2 : bx ≠ -2 := by
        by_cases c6 : A 4 k = 6
        · obtain ⟨dd, h1, h2, h3⟩ := (I.vE k hkn).1 c6
          rw [hb6 c6, h2, nI_pred]
          intro y
          have := nI_toInt (n := dd) (by omega)
          rw [y] at this
          have e2 : (-2 : Int32).toInt = -2 := by decide
          omega
        · rw [hb7 c6]; decide
      have lv : rd_lv n (A 9) (A 10) (A 4) k bx := by
        rcases c67 with y | y
        · rw [hb6 y]; exact I.vL k hkn (by omega) y
        · rw [hb7 (by rw [y]; decide)]; exact I.vK k hkn (by omega) y
      obtain ⟨cs, hcs, hcs2⟩ := rd_ch_ex n (A 9) (A 10) (A 23) k (fun x => x = bx)
      have I1 : rd_Inv n 8 D (rd_sa (rd_sa (rd_sa A  23 cs)  24 cs)  34 (fun u => if u < n ∧ A 4 u ≠ 8 then 1 else 0)) w Q := I
      have hlk : rd_lk n (rd_sa (rd_sa (rd_sa A  23 cs)  24 cs)  34 (fun u => if u < n ∧ A 4 u ≠ 8 then 1 else 0)) := by
        intro u hu y
        refine ⟨?_, rfl⟩
        show (if u < n ∧ A 4 u ≠ 8 then (1 : Int32) else 0) = 1
        rw [if_pos ⟨hu, y⟩]
      -- the two sides up to their looks
      have X0 : ∀ (post : Int32 → SX → Prop) (ra qa ql : Nat → Int32), (rd_ce n A cs → ∃ f, wX_endTogether_75 post f 0 (nI w.length) ((rd_sa (rd_sa (rd_sa A  23 cs)  24 cs)  34 (fun u => if u < n ∧ A 4 u ≠ 8 then 1 else 0)) 25 0) ((rd_sa (rd_sa (rd_sa A  23 cs)  24 cs)  34 (fun u => if u < n ∧ A 4 u ≠ 8 then 1 else 0)) 26 0) ((rd_sa (rd_sa (rd_sa A  23 cs)  24 cs)  34 (fun u => if u < n ∧ A 4 u ≠ 8 then 1 else 0)) 27 0) ((rd_sa (rd_sa (rd_sa A  23 cs)  24 cs)  34 (fun u => if u < n ∧ A 4 u ≠ 8 then 1 else 0)) 28 0) ((rd_sa (rd_sa (rd_sa A  23 cs)  24 cs)  34 (fun u => if u < n ∧ A 4 u ≠ 8 then 1 else 0)) 29 0) ((rd_sa (rd_sa (rd_sa A  23 cs)  24 cs)  34 (fun u => if u < n ∧ A 4 u ≠ 8 then 1 else 0)) 30 0) ((rd_sa (rd_sa (rd_sa A  23 cs)  24 cs)  34 (fun u => if u < n ∧ A 4 u ≠ 8 then 1 else 0)) 31 0) ((rd_sa (rd_sa (rd_sa A  23 cs)  24 cs)  34 (fun u => if u < n ∧ A 4 u ≠ 8 then 1 else 0)) 0) ((rd_sa (rd_sa (rd_sa A  23 cs)  24 cs)  34 (fun u => if u < n ∧ A 4 u ≠ 8 then 1 else 0)) 1) ((rd_sa (rd_sa (rd_sa A  23 cs)  24 cs)  34 (fun u => if u < n ∧ A 4 u ≠ 8 then 1 else 0)) 2) ((rd_sa (rd_sa (rd_sa A  23 cs)  24 cs)  34 (fun u => if u < n ∧ A 4 u ≠ 8 then 1 else 0)) 3) ((rd_sa (rd_sa (rd_sa A  23 cs)  24 cs)  34 (fun u => if u < n ∧ A 4 u ≠ 8 then 1 else 0)) 4) ((rd_sa (rd_sa (rd_sa A  23 cs)  24 cs)  34 (fun u => if u < n ∧ A 4 u ≠ 8 then 1 else 0)) 5) ((rd_sa (rd_sa (rd_sa A  23 cs)  24 cs)  34 (fun u => if u < n ∧ A 4 u ≠ 8 then 1 else 0)) 6) ((rd_sa (rd_sa (rd_sa A  23 cs)  24 cs)  34 (fun u => if u < n ∧ A 4 u ≠ 8 then 1 else 0)) 7) ((rd_sa (rd_sa (rd_sa A  23 cs)  24 cs)  34 (fun u => if u < n ∧ A 4 u ≠ 8 then 1 else 0)) 8) ((rd_sa (rd_sa (rd_sa A  23 cs)  24 cs)  34 (fun u => if u < n ∧ A 4 u ≠ 8 then 1 else 0)) 9) ((rd_sa (rd_sa (rd_sa A  23 cs)  24 cs)  34 (fun u => if u < n ∧ A 4 u ≠ 8 then 1 else 0)) 10) ((rd_sa (rd_sa (rd_sa A  23 cs)  24 cs)  34 (fun u => if u < n ∧ A 4 u ≠ 8 then 1 else 0)) 11) ((rd_sa (rd_sa (rd_sa A  23 cs)  24 cs)  34 (fun u => if u < n ∧ A 4 u ≠ 8 then 1 else 0)) 12) ((rd_sa (rd_sa (rd_sa A  23 cs)  24 cs)  34 (fun u => if u < n ∧ A 4 u ≠ 8 then 1 else 0)) 13) ((rd_sa (rd_sa (rd_sa A  23 cs)  24 cs)  34 (fun u => if u < n ∧ A 4 u ≠ 8 then 1 else 0)) 14) ((rd_sa (rd_sa (rd_sa A  23 cs)  24 cs)  34 (fun u => if u < n ∧ A 4 u ≠ 8 then 1 else 0)) 15) ((rd_sa (rd_sa (rd_sa A  23 cs)  24 cs)  34 (fun u => if u < n ∧ A 4 u ≠ 8 then 1 else 0)) 16) ((rd_sa (rd_sa (rd_sa A  23 cs)  24 cs)  34 (fun u => if u < n ∧ A 4 u ≠ 8 then 1 else 0)) 17) ((rd_sa (rd_sa (rd_sa A  23 cs)  24 cs)  34 (fun u => if u < n ∧ A 4 u ≠ 8 then 1 else 0)) 18) ((rd_sa (rd_sa (rd_sa A  23 cs)  24 cs)  34 (fun u => if u < n ∧ A 4 u ≠ 8 then 1 else 0)) 19) ((rd_sa (rd_sa (rd_sa A  23 cs)  24 cs)  34 (fun u => if u < n ∧ A 4 u ≠ 8 then 1 else 0)) 20) qa ql ra ((rd_sa (rd_sa (rd_sa A  23 cs)  24 cs)  34 (fun u => if u < n ∧ A 4 u ≠ 8 then 1 else 0)) 21) ((rd_sa (rd_sa (rd_sa A  23 cs)  24 cs)  34 (fun u => if u < n ∧ A 4 u ≠ 8 then 1 else 0)) 22) ((rd_sa (rd_sa (rd_sa A  23 cs)  24 cs)  34 (fun u => if u < n ∧ A 4 u ≠ 8 then 1 else 0)) 32) ((rd_sa (rd_sa (rd_sa A  23 cs)  24 cs)  34 (fun u => if u < n ∧ A 4 u ≠ 8 then 1 else 0)) 23)) → (¬ rd_ce n A cs → wX_endTogether_2 post (d + 1) (nI (k + 1)) (nI w.length) ((rd_sa (rd_sa (rd_sa A  23 cs)  24 cs)  34 (fun u => if u < n ∧ A 4 u ≠ 8 then 1 else 0)) 25 0) ((rd_sa (rd_sa (rd_sa A  23 cs)  24 cs)  34 (fun u => if u < n ∧ A 4 u ≠ 8 then 1 else 0)) 26 0) ((rd_sa (rd_sa (rd_sa A  23 cs)  24 cs)  34 (fun u => if u < n ∧ A 4 u ≠ 8 then 1 else 0)) 27 0) ((rd_sa (rd_sa (rd_sa A  23 cs)  24 cs)  34 (fun u => if u < n ∧ A 4 u ≠ 8 then 1 else 0)) 28 0) ((rd_sa (rd_sa (rd_sa A  23 cs)  24 cs)  34 (fun u => if u < n ∧ A 4 u ≠ 8 then 1 else 0)) 29 0) ((rd_sa (rd_sa (rd_sa A  23 cs)  24 cs)  34 (fun u => if u < n ∧ A 4 u ≠ 8 then 1 else 0)) 30 0) ((rd_sa (rd_sa (rd_sa A  23 cs)  24 cs)  34 (fun u => if u < n ∧ A 4 u ≠ 8 then 1 else 0)) 31 0) ((rd_sa (rd_sa (rd_sa A  23 cs)  24 cs)  34 (fun u => if u < n ∧ A 4 u ≠ 8 then 1 else 0)) 0) ((rd_sa (rd_sa (rd_sa A  23 cs)  24 cs)  34 (fun u => if u < n ∧ A 4 u ≠ 8 then 1 else 0)) 1) ((rd_sa (rd_sa (rd_sa A  23 cs)  24 cs)  34 (fun u => if u < n ∧ A 4 u ≠ 8 then 1 else 0)) 2) ((rd_sa (rd_sa (rd_sa A  23 cs)  24 cs)  34 (fun u => if u < n ∧ A 4 u ≠ 8 then 1 else 0)) 3) ((rd_sa (rd_sa (rd_sa A  23 cs)  24 cs)  34 (fun u => if u < n ∧ A 4 u ≠ 8 then 1 else 0)) 4) ((rd_sa (rd_sa (rd_sa A  23 cs)  24 cs)  34 (fun u => if u < n ∧ A 4 u ≠ 8 then 1 else 0)) 5) ((rd_sa (rd_sa (rd_sa A  23 cs)  24 cs)  34 (fun u => if u < n ∧ A 4 u ≠ 8 then 1 else 0)) 6) ((rd_sa (rd_sa (rd_sa A  23 cs)  24 cs)  34 (fun u => if u < n ∧ A 4 u ≠ 8 then 1 else 0)) 7) ((rd_sa (rd_sa (rd_sa A  23 cs)  24 cs)  34 (fun u => if u < n ∧ A 4 u ≠ 8 then 1 else 0)) 8) ((rd_sa (rd_sa (rd_sa A  23 cs)  24 cs)  34 (fun u => if u < n ∧ A 4 u ≠ 8 then 1 else 0)) 9) ((rd_sa (rd_sa (rd_sa A  23 cs)  24 cs)  34 (fun u => if u < n ∧ A 4 u ≠ 8 then 1 else 0)) 10) ((rd_sa (rd_sa (rd_sa A  23 cs)  24 cs)  34 (fun u => if u < n ∧ A 4 u ≠ 8 then 1 else 0)) 11) ((rd_sa (rd_sa (rd_sa A  23 cs)  24 cs)  34 (fun u => if u < n ∧ A 4 u ≠ 8 then 1 else 0)) 12) ((rd_sa (rd_sa (rd_sa A  23 cs)  24 cs)  34 (fun u => if u < n ∧ A 4 u ≠ 8 then 1 else 0)) 13) ((rd_sa (rd_sa (rd_sa A  23 cs)  24 cs)  34 (fun u => if u < n ∧ A 4 u ≠ 8 then 1 else 0)) 14) ((rd_sa (rd_sa (rd_sa A  23 cs)  24 cs)  34 (fun u => if u < n ∧ A 4 u ≠ 8 then 1 else 0)) 15) ((rd_sa (rd_sa (rd_sa A  23 cs)  24 cs)  34 (fun u => if u < n ∧ A 4 u ≠ 8 then 1 else 0)) 16) ((rd_sa (rd_sa (rd_sa A  23 cs)  24 cs)  34 (fun u => if u < n ∧ A 4 u ≠ 8 then 1 else 0)) 17) ((rd_sa (rd_sa (rd_sa A  23 cs)  24 cs)  34 (fun u => if u < n ∧ A 4 u ≠ 8 then 1 else 0)) 18) ((rd_sa (rd_sa (rd_sa A  23 cs)  24 cs)  34 (fun u => if u < n ∧ A 4 u ≠ 8 then 1 else 0)) 19) ((rd_sa (rd_sa (rd_sa A  23 cs)  24 cs)  34 (fun u => if u < n ∧ A 4 u ≠ 8 then 1 else 0)) 20) qa ql ra ((rd_sa (rd_sa (rd_sa A  23 cs)  24 cs)  34 (fun u => if u < n ∧ A 4 u ≠ 8 then 1 else 0)) 21) ((rd_sa (rd_sa (rd_sa A  23 cs)  24 cs)  34 (fun u => if u < n ∧ A 4 u ≠ 8 then 1 else 0)) 22) ((rd_sa (rd_sa (rd_sa A  23 cs)  24 cs)  34 (fun u => if u < n ∧ A 4 u ≠ 8 then 1 else 0)) 32) ((rd_sa (rd_sa (rd_sa A  23 cs)  24 cs)  34 (fun u => if u < n ∧ A 4 u ≠ 8 then 1 else 0)) 23)) → wX_endTogether_2 post (d + 1 + 1) (nI k) (nI w.length) (A 25 0) (A 26 0) (A 27 0) (A 28 0) (A 29 0) (A 30 0) (A 31 0) (A 0) (A 1) (A 2) (A 3) (A 4) (A 5) (A 6) (A 7) (A 8) (A 9) (A 10) (A 11) (A 12) (A 13) (A 14) (A 15) (A 16) (A 17) (A 18) (A 19) (A 20) qa ql ra (A 21) (A 22) (A 32) (A 23) := by
        intro post ra qa ql P1 P0
        have f60 : wX_endTogether_60 post (wX_endTogether_2 post (d + 1)) (nI k) bx (nI k) (nI w.length) (A 25 0) (A 26 0) (A 27 0) (A 28 0) (A 29 0) (A 30 0) (A 31 0) (A 0) (A 1) (A 2) (A 3) (A 4) (A 5) (A 6) (A 7) (A 8) (A 9) (A 10) (A 11) (A 12) (A 13) (A 14) (A 15) (A 16) (A 17) (A 18) (A 19) (A 20) qa ql ra (A 21) (A 22) (A 32) (A 23) := by
          refine rd_x_choose (q := fun x => x = bx) I.vN I.vM (fun x => ⟨fun y => Or.inr y, fun y => y.elim (fun z => absurd z bx2) id⟩) (fun ch g1 g2 => ?_)
          have ech := rd_ch_un hn hcs hcs2 g1 g2
          subst ech
          exact rd_x_ce (A := rd_sa A  23 ch) I.vN (fun y => br_f (by decide) (P1 y)) (fun y => br_t rfl (nm_r (nI_1 k) (P0 y)))
        have f35 : wX_endTogether_35 post (wX_endTogether_2 post (d + 1)) (nI k) (nI w.length) (A 25 0) (A 26 0) (A 27 0) (A 28 0) (A 29 0) (A 30 0) (A 31 0) (A 0) (A 1) (A 2) (A 3) (A 4) (A 5) (A 6) (A 7) (A 8) (A 9) (A 10) (A 11) (A 12) (A 13) (A 14) (A 15) (A 16) (A 17) (A 18) (A 19) (A 20) qa ql ra (A 21) (A 22) (A 32) (A 23) := by
          refine ⟨i8, ?_⟩
          rw [ck]
          refine br_c (fun y => ⟨i8, ?_⟩) (fun y => ?_)
          · rw [hb6 y] at f60; exact f60
          · rw [hb7 y] at f60; exact f60
        refine br_f tk ⟨i8, br_c (fun _ => f35) (fun y => ⟨i8, br_t ?_ f35⟩)⟩
        rw [ck] at y ⊢
        exact c67.resolve_left y
      have Y0 : ∀ (post : Int32 → SY → Prop) (ra qa wq am rz ob fr st : Nat → Int32) (bl : Int32), rd_YL 8 n D A w Q ra qa wq am rz ob fr st bl → (∀ am', rd_YL 8 n D (rd_sa (rd_sa (rd_sa A  23 cs)  24 cs)  34 (fun u => if u < n ∧ A 4 u ≠ 8 then 1 else 0)) w Q ra qa wq am' rz ob fr st bl → (rd_ce n A cs → ∃ f, wY_endTogether_132 post f 0 (A 26 0) bl (nI w.length) (A 27 0) (A 28 0) (A 29 0) (A 25 0) (A 3) (A 0) (A 1) (A 2) st (A 5) (A 6) (A 11) (A 8) (A 7) rz (A 16) (A 18) (A 19) fr (A 9) ob (A 13) qa wq ra (A 33) am' (A 21) (A 22)) ∧ (¬ rd_ce n A cs → wY_endTogether_2 post (d + 1) (nI (k + 1)) (A 26 0) bl (nI w.length) (A 27 0) (A 28 0) (A 29 0) (A 25 0) (A 3) (A 0) (A 1) (A 2) st (A 5) (A 6) (A 11) (A 8) (A 7) rz (A 16) (A 18) (A 19) fr (A 9) ob (A 13) qa wq ra (A 33) am' (A 21) (A 22))) → wY_endTogether_2 post (d + 1 + 1) (nI k) (A 26 0) bl (nI w.length) (A 27 0) (A 28 0) (A 29 0) (A 25 0) (A 3) (A 0) (A 1) (A 2) st (A 5) (A 6) (A 11) (A 8) (A 7) rz (A 16) (A 18) (A 19) fr (A 9) ob (A 13) qa wq ra (A 33) am (A 21) (A 22) := by
        intro post ra qa wq am rz ob fr st bl hy P
        have c9 : A 4 k ≠ 9 := n9 k hkn
        have f55 : ∀ y : Int32, (∀ u, u < n → A 4 u ≠ 8 → A 9 u = nI k → (A 10 u = bx ↔ ob u = y)) → wY_endTogether_55 post (wY_endTogether_2 post (d + 1)) (nI k) y (A 26 0) bl (nI w.length) (A 27 0) (A 28 0) (A 29 0) (A 25 0) (A 3) (A 0) (A 1) (A 2) st (A 5) (A 6) (A 11) (A 8) (A 7) rz (A 16) (A 18) (A 19) fr (A 9) ob (A 13) qa wq ra (A 33) am (A 21) (A 22) := by
          intro y hyy
          refine rd_y_gather (q := fun x => x = y) I.vN I.vM (fun x => ⟨fun q => Or.inr q, fun q => q.elim (fun z => absurd rfl z) id⟩) (fun am' g1 g2 => ⟨n + 1, ?_⟩)
          have link : ∀ u, u < n → A 4 u ≠ 8 → cs u = am' u := rd_ch_lv hn I.vX hcs g1 hyy
          have hy' : rd_YL 8 n D (rd_sa (rd_sa (rd_sa A  23 cs)  24 cs)  34 (fun u => if u < n ∧ A 4 u ≠ 8 then 1 else 0)) w Q ra qa wq am' rz ob fr st bl := by
            refine ⟨hy.r, hy.y2, hy.y3, hy.y4, hy.y5, hy.y6, hy.y7, hy.y8, hy.y9, ?_⟩
            intro u _ hg
            have hg : (if u < n ∧ A 4 u ≠ 8 then (1 : Int32) else 0) = 1 := hg
            show am' u = cs u
            by_cases q : u < n ∧ A 4 u ≠ 8
            · exact (link u q.1 q.2).symm
            · rw [if_neg q] at hg; exact absurd hg (by decide)
          have eqv : rd_ce n A cs ↔ rd_ce n A am' := by
            constructor
            · intro h u hu hne
              by_cases c8 : A 4 u = 8
              · exact Or.inl c8
              · exact h u hu (by rw [link u hu c8]; exact hne)
            · intro h u hu hne
              by_cases c8 : A 4 u = 8
              · exact Or.inl c8
              · exact h u hu (by rw [← link u hu c8]; exact hne)
          refine rd_yl_all I hy.y9 (fun g => (P am' hy').1 (eqv.mpr g)) (fun g => ?_) n 0 1 (by omega) (Or.inr rfl) ⟨fun _ u hu => by omega, fun _ => rfl⟩
          rw [nI_1]
          exact (P am' hy').2 (fun q => g (eqv.mp q))
        have f35 : wY_endTogether_35 post (wY_endTogether_2 post (d + 1)) (nI k) (A 26 0) bl (nI w.length) (A 27 0) (A 28 0) (A 29 0) (A 25 0) (A 3) (A 0) (A 1) (A 2) st (A 5) (A 6) (A 11) (A 8) (A 7) rz (A 16) (A 18) (A 19) fr (A 9) ob (A 13) qa wq ra (A 33) am (A 21) (A 22) := by
          refine ⟨i8, ?_⟩
          rw [ck, hy.y9 k, rd_cv_n c9]
          refine br_c (fun y => ?_) (fun y => f55 (-1) (fun u hu c8 e1 => ?_))
          · obtain ⟨dd, h1, h2, h3⟩ := (I.vE k hkn).1 y
            have hdd : dd < (A 18 k).toNatClampNeg := by rw [h2, nI_clamp (by omega)]; omega
            refine rd_y_top (by omega) h2 h1 (f55 _ (fun u hu c8 e1 => ?_))
            rw [hb6 y, h2, nI_pred]
            exact rd_u_bl hn hDD hkn I.vB I.rdp hy.y6 hy.y7 hy.y8 c9 hdd h3 hu c8 e1
          · rw [hb7 y]
            exact rd_u_m1 hn hDD hkn I.vB I.rdp hy.y6 hy.y8 c9 hu c8 e1
        refine br_f tk ⟨i8, br_c (fun _ => f35) (fun y => ⟨i8, br_t ?_ f35⟩)⟩
        rw [ck, hy.y9 k, rd_cv_n c9] at y
        rw [ck, hy.y9 k, rd_cv_n c9]
        exact c67.resolve_left y
      by_cases ce : rd_ce n A cs
      · -- they end
        obtain ⟨B, z, R, J, m9, mK, mw, mp, X, Y⟩ := rd_etl n 0 (by omega) _ w Q I1 n9 hlk
        refine ⟨1, B, z, R, Or.inr rfl, J, m9, rd_K4_tr ⟨rfl, rfl, rfl, rfl⟩ mK, mw, fun _ => mp ?_, fun y => absurd y (by decide), ?_, ?_⟩
        · obtain ⟨u, hu, g1, g2, g3⟩ := lv
          have c1 : cs u = 1 := ((hcs u hu).2).mpr (Or.inl ⟨g1, g2⟩)
          have cn : cs u ≠ 0 := by rw [c1]; decide
          refine ⟨u, by omega, hu, cn, ?_⟩
          rcases ce u hu cn with y | y
          · exact absurd y g3
          · exact y.1
        · intro post ra qa ql hx H
          exact X0 post ra qa ql (fun _ => ⟨_, X post ra qa ql hx H⟩) (fun y => absurd ce y)
        · intro post ra qa wq am rz ob fr st bl hy H
          exact Y0 post ra qa wq am rz ob fr st bl hy (fun am' hy' => ⟨fun _ => ⟨_, Y post ra qa wq am' rz ob fr st bl hy' H⟩, fun y => absurd ce y⟩)
      · obtain ⟨r, B, z, R, hr, J, m9, mK, mw, mp, mz, X, Y⟩ := rd_et d (k + 1) (by omega) _ w Q I1 n9
        refine ⟨r, B, z, R, hr, J, m9, rd_K4_tr ⟨rfl, rfl, rfl, rfl⟩ mK, mw, mp, mz, ?_, ?_⟩
        · intro post ra qa ql hx H
          exact X0 post ra qa ql (fun y => absurd y ce) (fun _ => X post ra qa ql hx H)
        · intro post ra qa wq am rz ob fr st bl hy H
          exact Y0 post ra qa wq am rz ob fr st bl hy (fun am' hy' => ⟨fun y => absurd y ce, fun _ => Y post ra qa wq am' rz ob fr st bl hy' H⟩)
    · obtain ⟨r, B, z, R, hr, J, m9, mK, mw, mp, mz, X, Y⟩ := rd_et d (k + 1) (by omega) A w Q I n9
      refine ⟨r, B, z, R, hr, J, m9, mK, mw, mp, mz, ?_, ?_⟩
      · intro post ra qa ql hx H
        refine br_f tk ⟨i8, ?_⟩
        rw [ck]
        exact br_f (fun y => c67 (Or.inl y)) ⟨i8, br_f (fun y => c67 (Or.inr y)) (nm_r (nI_1 k) (X post ra qa ql hx H))⟩
      · intro post ra qa wq am rz ob fr st bl hy H
        refine br_f tk ⟨i8, ?_⟩
        rw [ck, hy.y9 k, rd_cv_n (n9 k hkn)]
        exact br_f (fun y => c67 (Or.inl y)) ⟨i8, br_f (fun y => c67 (Or.inr y)) (nm_r (nI_1 k) (Y post ra qa wq am rz ob fr st bl hy H))⟩
/-- endTogether -/
theorem rd_tog {n D : Nat} {A : rd_St} {w : List Nat} {Q : Nat → List Nat} (I : rd_Inv n 8 D A w Q) (n9 : ∀ s, s < n → A 4 s ≠ 9) : ∃ (r : Int32) (B : rd_St) (z : List Nat) (R : Nat → List Nat), (r = 0 ∨ r = 1) ∧ rd_Inv n 8 D B z R ∧ (∀ s, s < n → B 4 s ≠ 9) ∧ rd_K4 A B ∧ rd_wl n A B ∧ (r = 1 → rd_ph n B < rd_ph n A) ∧ (r = 0 → z = w) ∧
    (∀ (post : Int32 → SX → Prop) (u : SX), rd_RX A w Q u → (∀ u', rd_RX B z R u' → post r u') → wpX_endTogether post u) ∧
    (∀ (post : Int32 → SY → Prop) (v : SY), rd_RY 8 n D A w Q v → (∀ v', rd_RY 8 n D B z R v' → post r v') → wpY_endTogether post v) := by
  obtain ⟨r, B, z, R, hr, J, m9, mK, mw, mp, mz, X, Y⟩ := rd_et n 0 (by omega) A w Q I n9
  refine ⟨r, B, z, R, hr, J, m9, mK, mw, mp, mz, ?_, ?_⟩
  · rintro post u ⟨ra, qa, ql, rfl, hx⟩ H
    unfold wpX_endTogether
    exact ⟨_, X post ra qa ql hx H⟩
  · rintro post v ⟨ra, qa, wq, am, rz, ob, fr, st, bl, rfl, hy⟩ H
    unfold wpY_endTogether
    exact ⟨_, Y post ra qa wq am rz ob fr st bl hy H⟩
