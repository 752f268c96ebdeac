/-! the tasks that depend: on both sides -/
def rd_ch1 (ma mb : Nat → Int32) (t : Nat) (q : Int32 → Prop) (ch : Nat → Int32) (u : Nat) : Prop := (ch u = 0 ∨ ch u = 1) ∧ (ch u = 1 ↔ (ma u = nI t ∧ q (mb u)) ∨ ∃ m, m < u ∧ ma u = nI m ∧ ch m = 1)
theorem rd_ch1_u {ma mb ch : Nat → Int32} {t k : Nat} {q : Int32 → Prop} {v : Int32} (h : ∀ u, u < k → rd_ch1 ma mb t q ch u) (hv : v = 0 ∨ v = 1) (hk : v = 1 ↔ (ma k = nI t ∧ q (mb k)) ∨ ∃ m, m < k ∧ ma k = nI m ∧ ch m = 1) : ∀ u, u < k + 1 → rd_ch1 ma mb t q (upd ch k v) u := by
  intro u hu
  unfold rd_ch1
  by_cases e : u = k
  · subst e
    rw [rd_us]
    refine ⟨hv, hk.trans ⟨?_, ?_⟩⟩
    · rintro (a | ⟨m, a, b, c⟩)
      · exact Or.inl a
      · exact Or.inr ⟨m, a, b, by rw [rd_un (by omega)]; exact c⟩
    · rintro (a | ⟨m, a, b, c⟩)
      · exact Or.inl a
      · rw [rd_un (by omega)] at c
        exact Or.inr ⟨m, a, b, c⟩
  · rw [rd_un e]
    obtain ⟨h1, h2⟩ := h u (by omega)
    refine ⟨h1, h2.trans ⟨?_, ?_⟩⟩
    · rintro (a | ⟨m, a, b, c⟩)
      · exact Or.inl a
      · exact Or.inr ⟨m, a, b, by rw [rd_un (by omega)]; exact c⟩
    · rintro (a | ⟨m, a, b, c⟩)
      · exact Or.inl a
      · rw [rd_un (by omega)] at c
        exact Or.inr ⟨m, a, b, c⟩
theorem rd_xl_ch {post : SX → Prop} {A : rd_St} {rl : Int32} {ra qa ql : Nat → Int32} {t n : Nat} {bk : Int32} {q : Int32 → Prop} {c0 : Nat → Int32} (hn : n ≤ 8) (hk : A 26 0 = nI n) (hM : rd_vM n (A 9)) (hq : ∀ x, q x ↔ (bk = -2 ∨ x = bk)) (H : ∀ ch, rd_isCh n (A 9) (A 10) t q ch → (∀ u, n ≤ u → ch u = c0 u) → post (rd_tX (rd_sa A  23 ch) rl ra qa ql)) : ∀ (d k : Nat) (ch : Nat → Int32), k + d = n → (∀ u, u < k → rd_ch1 (A 9) (A 10) t q ch u) → (∀ u, k ≤ u → ch u = c0 u) → wX_chooseDependents_2 post (nI t) bk rl ((rd_sa A  23 ch) 25 0) ((rd_sa A  23 ch) 26 0) ((rd_sa A  23 ch) 27 0) ((rd_sa A  23 ch) 28 0) ((rd_sa A  23 ch) 29 0) ((rd_sa A  23 ch) 30 0) ((rd_sa A  23 ch) 31 0) (d + 1) (nI k) ((rd_sa A  23 ch) 0) ((rd_sa A  23 ch) 1) ((rd_sa A  23 ch) 2) ((rd_sa A  23 ch) 3) ((rd_sa A  23 ch) 4) ((rd_sa A  23 ch) 5) ((rd_sa A  23 ch) 6) ((rd_sa A  23 ch) 7) ((rd_sa A  23 ch) 8) ((rd_sa A  23 ch) 9) ((rd_sa A  23 ch) 10) ((rd_sa A  23 ch) 11) ((rd_sa A  23 ch) 12) ((rd_sa A  23 ch) 13) ((rd_sa A  23 ch) 14) ((rd_sa A  23 ch) 15) ((rd_sa A  23 ch) 16) ((rd_sa A  23 ch) 17) ((rd_sa A  23 ch) 18) ((rd_sa A  23 ch) 19) ((rd_sa A  23 ch) 20) qa ql ra ((rd_sa A  23 ch) 21) ((rd_sa A  23 ch) 22) ((rd_sa A  23 ch) 32) ((rd_sa A  23 ch) 23)
  | 0, k, ch, h1, h2, h3 => by
    have e : k = n := by omega
    subst e
    exact br_t (by show A 26 0 ≤ nI k; rw [hk]; exact nI_le (Nat.le_refl _) (by omega)) (H ch h2 h3)
  | d + 1, k, ch, h1, h2, h3 => by
    have ck : (nI k).toNatClampNeg = k := nI_clamp (by omega)
    have i8 : vp_in (nI k) 8 := vp_in_nI (by omega) (by omega)
    have nxt : ∀ v : Int32, (v = 0 ∨ v = 1) → (v = 1 ↔ (A 9 k = nI t ∧ q (A 10 k)) ∨ ∃ m, m < k ∧ A 9 k = nI m ∧ ch m = 1) → wX_chooseDependents_2 post (nI t) bk rl ((rd_sa A  23 (upd ch k v)) 25 0) ((rd_sa A  23 (upd ch k v)) 26 0) ((rd_sa A  23 (upd ch k v)) 27 0) ((rd_sa A  23 (upd ch k v)) 28 0) ((rd_sa A  23 (upd ch k v)) 29 0) ((rd_sa A  23 (upd ch k v)) 30 0) ((rd_sa A  23 (upd ch k v)) 31 0) (d + 1) (nI (k + 1)) ((rd_sa A  23 (upd ch k v)) 0) ((rd_sa A  23 (upd ch k v)) 1) ((rd_sa A  23 (upd ch k v)) 2) ((rd_sa A  23 (upd ch k v)) 3) ((rd_sa A  23 (upd ch k v)) 4) ((rd_sa A  23 (upd ch k v)) 5) ((rd_sa A  23 (upd ch k v)) 6) ((rd_sa A  23 (upd ch k v)) 7) ((rd_sa A  23 (upd ch k v)) 8) ((rd_sa A  23 (upd ch k v)) 9) ((rd_sa A  23 (upd ch k v)) 10) ((rd_sa A  23 (upd ch k v)) 11) ((rd_sa A  23 (upd ch k v)) 12) ((rd_sa A  23 (upd ch k v)) 13) ((rd_sa A  23 (upd ch k v)) 14) ((rd_sa A  23 (upd ch k v)) 15) ((rd_sa A  23 (upd ch k v)) 16) ((rd_sa A  23 (upd ch k v)) 17) ((rd_sa A  23 (upd ch k v)) 18) ((rd_sa A  23 (upd ch k v)) 19) ((rd_sa A  23 (upd ch k v)) 20) qa ql ra ((rd_sa A  23 (upd ch k v)) 21) ((rd_sa A  23 (upd ch k v)) 22) ((rd_sa A  23 (upd ch k v)) 32) ((rd_sa A  23 (upd ch k v)) 23) := fun v hv hvk => rd_xl_ch hn hk hM hq H d (k + 1) (upd ch k v) (by omega) (rd_ch1_u h2 hv hvk) (fun u hu => (rd_un (by omega)).trans (h3 u (by omega)))
    -- one: it depends directly
    have d1 : (A 9 k = nI t ∧ q (A 10 k)) → wX_chooseDependents_45 post (wX_chooseDependents_2 post (nI t) bk rl ((rd_sa A  23 ch) 25 0) ((rd_sa A  23 ch) 26 0) ((rd_sa A  23 ch) 27 0) ((rd_sa A  23 ch) 28 0) ((rd_sa A  23 ch) 29 0) ((rd_sa A  23 ch) 30 0) ((rd_sa A  23 ch) 31 0) (d + 1)) (nI t) bk (nI k) (A 9 k) 1 rl ((rd_sa A  23 ch) 25 0) ((rd_sa A  23 ch) 26 0) ((rd_sa A  23 ch) 27 0) ((rd_sa A  23 ch) 28 0) ((rd_sa A  23 ch) 29 0) ((rd_sa A  23 ch) 30 0) ((rd_sa A  23 ch) 31 0) ((rd_sa A  23 ch) 0) ((rd_sa A  23 ch) 1) ((rd_sa A  23 ch) 2) ((rd_sa A  23 ch) 3) ((rd_sa A  23 ch) 4) ((rd_sa A  23 ch) 5) ((rd_sa A  23 ch) 6) ((rd_sa A  23 ch) 7) ((rd_sa A  23 ch) 8) ((rd_sa A  23 ch) 9) ((rd_sa A  23 ch) 10) ((rd_sa A  23 ch) 11) ((rd_sa A  23 ch) 12) ((rd_sa A  23 ch) 13) ((rd_sa A  23 ch) 14) ((rd_sa A  23 ch) 15) ((rd_sa A  23 ch) 16) ((rd_sa A  23 ch) 17) ((rd_sa A  23 ch) 18) ((rd_sa A  23 ch) 19) ((rd_sa A  23 ch) 20) qa ql ra ((rd_sa A  23 ch) 21) ((rd_sa A  23 ch) 22) ((rd_sa A  23 ch) 32) ((rd_sa A  23 ch) 23) := fun g =>
      br_f (by decide) ⟨i8, nm_r (e' := upd ch k 1) (by rw [ck, rd_nb1]; rfl) (nm_r (nI_1 k) (nxt 1 (Or.inr rfl) ⟨fun _ => Or.inl g, fun _ => rfl⟩))⟩
    have d0 : ¬ (A 9 k = nI t ∧ q (A 10 k)) → wX_chooseDependents_45 post (wX_chooseDependents_2 post (nI t) bk rl ((rd_sa A  23 ch) 25 0) ((rd_sa A  23 ch) 26 0) ((rd_sa A  23 ch) 27 0) ((rd_sa A  23 ch) 28 0) ((rd_sa A  23 ch) 29 0) ((rd_sa A  23 ch) 30 0) ((rd_sa A  23 ch) 31 0) (d + 1)) (nI t) bk (nI k) (A 9 k) 0 rl ((rd_sa A  23 ch) 25 0) ((rd_sa A  23 ch) 26 0) ((rd_sa A  23 ch) 27 0) ((rd_sa A  23 ch) 28 0) ((rd_sa A  23 ch) 29 0) ((rd_sa A  23 ch) 30 0) ((rd_sa A  23 ch) 31 0) ((rd_sa A  23 ch) 0) ((rd_sa A  23 ch) 1) ((rd_sa A  23 ch) 2) ((rd_sa A  23 ch) 3) ((rd_sa A  23 ch) 4) ((rd_sa A  23 ch) 5) ((rd_sa A  23 ch) 6) ((rd_sa A  23 ch) 7) ((rd_sa A  23 ch) 8) ((rd_sa A  23 ch) 9) ((rd_sa A  23 ch) 10) ((rd_sa A  23 ch) 11) ((rd_sa A  23 ch) 12) ((rd_sa A  23 ch) 13) ((rd_sa A  23 ch) 14) ((rd_sa A  23 ch) 15) ((rd_sa A  23 ch) 16) ((rd_sa A  23 ch) 17) ((rd_sa A  23 ch) 18) ((rd_sa A  23 ch) 19) ((rd_sa A  23 ch) 20) qa ql ra ((rd_sa A  23 ch) 21) ((rd_sa A  23 ch) 22) ((rd_sa A  23 ch) 32) ((rd_sa A  23 ch) 23) := by
      intro g
      refine br_t rfl ?_
      rcases hM k (by omega) with ⟨a1, a2⟩ | ⟨m, a1, a2⟩
      · rw [a2]
        refine br_t rfl ⟨i8, nm_r (e' := upd ch k 0) (by rw [ck, rd_nb0]; rfl) (nm_r (nI_1 k) (nxt 0 (Or.inl rfl) ⟨fun y => absurd y (by decide), ?_⟩))⟩
        rintro (y | ⟨m, y1, y2, y3⟩)
        · exact absurd y g
        · exact absurd (y2.symm.trans a2) (rd_nm (by omega))
      · have cm : (nI m).toNatClampNeg = m := nI_clamp (by omega)
        rw [a2]
        refine br_f (rd_nm (by omega)) ⟨vp_in_nI (by omega) (by omega), ?_⟩
        rw [cm]
        by_cases y : ch m = 0
        · refine br_t y ⟨i8, nm_r (e' := upd ch k 0) (by rw [ck, rd_nb0]; rfl) (nm_r (nI_1 k) (nxt 0 (Or.inl rfl) ⟨fun y => absurd y (by decide), ?_⟩))⟩
          rintro (x | ⟨m', x1, x2, x3⟩)
          · exact absurd x g
          · have : m' = m := rd_inj (by omega) (by omega) (x2.symm.trans a2)
            rw [this, y] at x3
            exact absurd x3 (by decide)
        · have y1 : ch m = 1 := by
            rcases (h2 m a1).1 with x | x
            · exact absurd x y
            · exact x
          exact br_f y ⟨i8, nm_r (e' := upd ch k 1) (by rw [ck, rd_nb1]; rfl) (nm_r (nI_1 k) (nxt 1 (Or.inr rfl) ⟨fun _ => Or.inr ⟨m, a1, a2, y1⟩, fun _ => rfl⟩))⟩
    refine br_f (by show ¬ A 26 0 ≤ nI k; rw [hk]; exact nI_ge (by omega) (by omega)) ⟨i8, nm_r (e' := A 9 k) (by rw [ck]; rfl) ?_⟩
    by_cases g1 : A 9 k = nI t
    · refine br_t g1 ?_
      by_cases g2 : bk = -2
      · exact br_t g2 (d1 ⟨g1, (hq _).mpr (Or.inl g2)⟩)
      · refine br_f g2 ⟨i8, ?_⟩
        rw [ck]
        by_cases g3 : A 10 k = bk
        · exact br_t g3 (d1 ⟨g1, (hq _).mpr (Or.inr g3)⟩)
        · refine br_f g3 (d0 (fun y => ?_))
          rcases (hq _).mp y.2 with x | x
          · exact g2 x
          · exact g3 x
    · exact br_f g1 (d0 (fun y => g1 y.1))
theorem rd_x_choose {post : SX → Prop} {A : rd_St} {rl : Int32} {ra qa ql : Nat → Int32} {t n : Nat} {bk : Int32} {q : Int32 → Prop} (hN : rd_vN n (A 26)) (hM : rd_vM n (A 9)) (hq : ∀ x, q x ↔ (bk = -2 ∨ x = bk)) (H : ∀ ch, rd_isCh n (A 9) (A 10) t q ch → (∀ u, n ≤ u → ch u = A 23 u) → post (rd_tX (rd_sa A  23 ch) rl ra qa ql)) : wpX_chooseDependents post (rd_tX A rl ra qa ql) (nI t) bk := by
  unfold wpX_chooseDependents
  have e : rd_sa A  23 (A 23) = A := by
    funext k
    rw [rd_sa_ap]
    by_cases y : k =  23
    · rw [if_pos y, y]
    · rw [if_neg y]
  exact ⟨_, rd_xl_ch hN.2 hN.1 hM hq H n 0 (A 23) (by omega) (fun u hu => by omega) (fun _ _ => rfl)⟩
theorem rd_yl_g2 {post : SY → Prop} {A : rd_St} {rl : Int32} {ra qa wq rz ob fr st : Nat → Int32} {bl : Int32} {t n : Nat} {q : Int32 → Prop} (hn : n ≤ 8) (hk : A 26 0 = nI n) (hM : rd_vM n (A 9)) (H : ∀ am, rd_isCh n (A 9) ob t q am → (∀ u, n ≤ u → u < 8 → am u = 0) → post (rd_tY A rl ra qa wq am rz ob fr st bl)) : ∀ (d k : Nat) (am : Nat → Int32), k + d = n → (∀ u, u < k → rd_ch1 (A 9) ob t q am u) → (∀ u, k ≤ u → u < n → (am u = 0 ∨ am u = 1) ∧ (am u = 1 ↔ (A 9 u = nI t ∧ q (ob u)))) → (∀ u, n ≤ u → u < 8 → am u = 0) → wY_gather_66 post (A 26 0) bl rl (A 27 0) (A 28 0) (A 29 0) (A 25 0) (d + 1) (nI k) (A 3) (A 0) (A 1) (A 2) st (A 5) (A 6) (A 11) (A 8) (A 7) rz (A 16) (A 18) (A 19) fr (A 9) ob (A 13) qa wq ra (A 33) am (A 21) (A 22)
  | 0, k, am, h1, h2, h3, h4 => by
    have e : k = n := by omega
    subst e
    exact br_t (by show A 26 0 ≤ nI k; rw [hk]; exact nI_le (Nat.le_refl _) (by omega)) (H am h2 h4)
  | d + 1, k, am, h1, h2, h3, h4 => by
    have ck : (nI k).toNatClampNeg = k := nI_clamp (by omega)
    have i8 : vp_in (nI k) 8 := vp_in_nI (by omega) (by omega)
    have hk3 := h3 k (Nat.le_refl _) (by omega)
    have keep : (∀ m, m < k → A 9 k = nI m → am m ≠ 1) → wY_gather_66 post (A 26 0) bl rl (A 27 0) (A 28 0) (A 29 0) (A 25 0) (d + 1) (nI (k + 1)) (A 3) (A 0) (A 1) (A 2) st (A 5) (A 6) (A 11) (A 8) (A 7) rz (A 16) (A 18) (A 19) fr (A 9) ob (A 13) qa wq ra (A 33) am (A 21) (A 22) := by
      intro no
      refine rd_yl_g2 hn hk hM H d (k + 1) am (by omega) (fun u hu => ?_) (fun u a b => h3 u (by omega) b) h4
      by_cases e : u = k
      · subst e
        refine ⟨hk3.1, hk3.2.trans ⟨Or.inl, ?_⟩⟩
        rintro (a | ⟨m, a, b, c⟩)
        · exact a
        · exact absurd c (no m a b)
      · exact h2 u (by omega)
    refine br_f (by show ¬ A 26 0 ≤ nI k; rw [hk]; exact nI_ge (by omega) (by omega)) ⟨i8, ?_⟩
    rw [ck]
    rcases hM k (by omega) with ⟨a1, a2⟩ | ⟨m, a1, a2⟩
    · have e : A 9 k = -1 := a2
      rw [e]
      exact br_t (by decide) (nm_r (nI_1 k) (keep (fun m _ y => absurd (y.symm.trans a2) (rd_nm (by omega)))))
    · have e : A 9 k = nI m := a2
      have cm : (nI m).toNatClampNeg = m := nI_clamp (by omega)
      rw [e, cm]
      refine br_f (nI_pos (by omega)) ⟨i8, vp_in_nI (by omega) (by omega), ?_⟩
      by_cases y : am m = 0
      · refine br_t y (nm_r (nI_1 k) (keep (fun m' _ y2 y3 => ?_)))
        have : m' = m := rd_inj (by omega) (by omega) (y2.symm.trans a2)
        rw [this, y] at y3
        exact absurd y3 (by decide)
      · have y1 : am m = 1 := by
          rcases (h2 m a1).1 with x | x
          · exact absurd x y
          · exact x
        refine br_f y ⟨i8, nm_r (e' := upd am k 1) (by rw [rd_nb1]) (nm_r (nI_1 k) (rd_yl_g2 hn hk hM H d (k + 1) (upd am k 1) (by omega) (rd_ch1_u h2 (Or.inr rfl) ⟨fun _ => Or.inr ⟨m, a1, a2, y1⟩, fun _ => rfl⟩) (fun u a b => ?_) (fun u a b => ?_)))⟩
        · rw [rd_un (by omega)]; exact h3 u (by omega) b
        · rw [rd_un (by omega)]; exact h4 u a b
theorem rd_yl_g1 {post : SY → Prop} {A : rd_St} {rl : Int32} {ra qa wq rz ob fr st : Nat → Int32} {bl bk all : Int32} {t n : Nat} {q : Int32 → Prop} (hn : n ≤ 8) (hk : A 26 0 = nI n) (hM : rd_vM n (A 9)) (hq : ∀ x, q x ↔ (all ≠ 0 ∨ x = bk)) (H : ∀ am, rd_isCh n (A 9) ob t q am → (∀ u, n ≤ u → u < 8 → am u = 0) → post (rd_tY A rl ra qa wq am rz ob fr st bl)) : ∀ (d k : Nat) (am : Nat → Int32), k + d = 8 → (∀ u, u < k → (u < n → (am u = 0 ∨ am u = 1) ∧ (am u = 1 ↔ (A 9 u = nI t ∧ q (ob u)))) ∧ (n ≤ u → am u = 0)) → wY_gather_3 post (nI t) bk all (A 26 0) bl rl (A 27 0) (A 28 0) (A 29 0) (A 25 0) (d + 1) (nI k) (A 3) (A 0) (A 1) (A 2) st (A 5) (A 6) (A 11) (A 8) (A 7) rz (A 16) (A 18) (A 19) fr (A 9) ob (A 13) qa wq ra (A 33) am (A 21) (A 22)
  | 0, k, am, h1, h2 => by
    have e : k = 8 := by omega
    subst e
    exact br_t (nI_le (a := 8) (b := 8) (by omega) (by omega)) ⟨_, rd_yl_g2 hn hk hM H n 0 am (by omega) (fun u hu => by omega) (fun u _ b => (h2 u (by omega)).1 b) (fun u a b => (h2 u b).2 a)⟩
  | d + 1, k, am, h1, h2 => by
    have ck : (nI k).toNatClampNeg = k := nI_clamp (by omega)
    have i8 : vp_in (nI k) 8 := vp_in_nI (by omega) (by omega)
    have nxt : ∀ v : Int32, (k < n → (v = 0 ∨ v = 1) ∧ (v = 1 ↔ (A 9 k = nI t ∧ q (ob k)))) → (n ≤ k → v = 0) → wY_gather_3 post (nI t) bk all (A 26 0) bl rl (A 27 0) (A 28 0) (A 29 0) (A 25 0) (d + 1) (nI (k + 1)) (A 3) (A 0) (A 1) (A 2) st (A 5) (A 6) (A 11) (A 8) (A 7) rz (A 16) (A 18) (A 19) fr (A 9) ob (A 13) qa wq ra (A 33) (upd am k v) (A 21) (A 22) := by
      intro v v1 v2
      refine rd_yl_g1 hn hk hM hq H d (k + 1) (upd am k v) (by omega) (fun u hu => ?_)
      by_cases e : u = k
      · rw [e, rd_us]; exact ⟨v1, v2⟩
      · rw [rd_un e]; exact h2 u (by omega)
    refine br_f (nI_ge (b := 8) (by omega) (by omega)) ?_
    by_cases z : n ≤ k
    · exact br_t (by show A 26 0 ≤ nI k; rw [hk]; exact nI_le z (by omega)) ⟨i8, nm_r (e' := upd am k 0) (by rw [ck, rd_nb0]) (nm_r (nI_1 k) (nxt 0 (fun y => by omega) (fun _ => rfl)))⟩
    · refine br_f (by show ¬ A 26 0 ≤ nI k; rw [hk]; exact nI_ge (by omega) (by omega)) ⟨i8, ?_⟩
      have n1 : (A 9 k = nI t ∧ q (ob k)) → wY_gather_3 post (nI t) bk all (A 26 0) bl rl (A 27 0) (A 28 0) (A 29 0) (A 25 0) (d + 1) (nI (k + 1)) (A 3) (A 0) (A 1) (A 2) st (A 5) (A 6) (A 11) (A 8) (A 7) rz (A 16) (A 18) (A 19) fr (A 9) ob (A 13) qa wq ra (A 33) (upd am k 1) (A 21) (A 22) := fun g => nxt 1 (fun _ => ⟨Or.inr rfl, fun _ => g, fun _ => rfl⟩) (fun y => absurd y z)
      have n0 : ¬ (A 9 k = nI t ∧ q (ob k)) → wY_gather_3 post (nI t) bk all (A 26 0) bl rl (A 27 0) (A 28 0) (A 29 0) (A 25 0) (d + 1) (nI (k + 1)) (A 3) (A 0) (A 1) (A 2) st (A 5) (A 6) (A 11) (A 8) (A 7) rz (A 16) (A 18) (A 19) fr (A 9) ob (A 13) qa wq ra (A 33) (upd am k 0) (A 21) (A 22) := fun g => nxt 0 (fun _ => ⟨Or.inl rfl, fun y => absurd y (by decide), fun y => absurd y g⟩) (fun _ => rfl)
      have b1 : ∀ P : (Nat → Int32) → Prop, P (upd am k 1) → ∀ y, y = upd am (nI k).toNatClampNeg (vp_nar .boolean 1) → P y := fun P h => nm_r (by rw [ck, rd_nb1]) h
      have b0 : ∀ P : (Nat → Int32) → Prop, P (upd am k 0) → ∀ y, y = upd am (nI k).toNatClampNeg (vp_nar .boolean 0) → P y := fun P h => nm_r (by rw [ck, rd_nb0]) h
      by_cases g1 : A 9 k = nI t
      · refine br_t (by rw [ck]; exact g1) ?_
        by_cases g2 : all = 0
        · refine br_t g2 ⟨i8, ?_⟩
          by_cases g3 : ob k = bk
          · exact br_t (by rw [ck]; exact g3) ⟨i8, b1 _ (nm_r (nI_1 k) (n1 ⟨g1, (hq _).mpr (Or.inr g3)⟩))⟩
          · refine br_f (by rw [ck]; exact g3) ⟨i8, b0 _ (nm_r (nI_1 k) (n0 (fun y => ?_)))⟩
            rcases (hq _).mp y.2 with x | x
            · exact x g2
            · exact g3 x
        · exact br_f g2 ⟨i8, b1 _ (nm_r (nI_1 k) (n1 ⟨g1, (hq _).mpr (Or.inl g2)⟩))⟩
      · exact br_f (by rw [ck]; exact g1) ⟨i8, b0 _ (nm_r (nI_1 k) (n0 (fun y => g1 y.1)))⟩
theorem rd_y_gather {post : SY → Prop} {A : rd_St} {rl : Int32} {ra qa wq am rz ob fr st : Nat → Int32} {bl bk all : Int32} {t n : Nat} {q : Int32 → Prop} (hN : rd_vN n (A 26)) (hM : rd_vM n (A 9)) (hq : ∀ x, q x ↔ (all ≠ 0 ∨ x = bk)) (H : ∀ am, rd_isCh n (A 9) ob t q am → (∀ u, n ≤ u → u < 8 → am u = 0) → post (rd_tY A rl ra qa wq am rz ob fr st bl)) : wpY_gather post (rd_tY A rl ra qa wq am rz ob fr st bl) (nI t) bk all := by
  unfold wpY_gather
  exact ⟨_, rd_yl_g1 hN.2 hN.1 hM hq H 8 0 am (by omega) (fun u hu => by omega)⟩
theorem rd_ch_ex (n : Nat) (ma mb c0 : Nat → Int32) (t : Nat) (q : Int32 → Prop) : ∃ ch, rd_isCh n ma mb t q ch ∧ ∀ u, n ≤ u → ch u = c0 u := by
  have key : ∀ k, ∃ ch : Nat → Int32, (∀ u, u < k → rd_ch1 ma mb t q ch u) ∧ ∀ u, k ≤ u → ch u = c0 u := by
    intro k
    induction k with
    | zero => exact ⟨c0, fun u hu => by omega, fun _ _ => rfl⟩
    | succ k ih =>
      obtain ⟨ch, h1, h2⟩ := ih
      by_cases z : (ma k = nI t ∧ q (mb k)) ∨ ∃ m, m < k ∧ ma k = nI m ∧ ch m = 1
      · exact ⟨upd ch k 1, rd_ch1_u h1 (Or.inr rfl) ⟨fun _ => z, fun _ => rfl⟩, fun u hu => (rd_un (by omega)).trans (h2 u (by omega))⟩
      · exact ⟨upd ch k 0, rd_ch1_u h1 (Or.inl rfl) ⟨fun y => absurd y (by decide), fun y => absurd y z⟩, fun u hu => (rd_un (by omega)).trans (h2 u (by omega))⟩
  exact key n
theorem rd_ch_un {n : Nat} {ma mb c0 ch ch' : Nat → Int32} {t : Nat} {q : Int32 → Prop} (hn : n ≤ 8) (h : rd_isCh n ma mb t q ch) (h2 : ∀ u, n ≤ u → ch u = c0 u) (g : rd_isCh n ma mb t q ch') (g2 : ∀ u, n ≤ u → ch' u = c0 u) : ch' = ch := by
  funext u
  by_cases z : u < n
  · refine (rd_ch_lv (cd := fun _ => 0) hn ?_ g h (fun _ _ _ _ => Iff.rfl) u z (by decide))
    intro u _ m _ _ y
    have y : (0 : Int32) = 8 := y
    exact absurd y (by decide)
  · rw [h2 u (by omega), g2 u (by omega)]
