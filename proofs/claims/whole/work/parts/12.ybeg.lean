/-! the reference: who waits, a fall begins -/
theorem rd_yl_liv {post : Int32 → Prop} {A : rd_St} {rl : Int32} {ra qa wq am rz ob fr st : Nat → Int32} {bl : Int32} {t n : Nat} {b : Int32} (hn : n ≤ 8) (hk : A 26 0 = nI n) (h9 : rd_y9 (A 4) st) (H1 : rd_lv n (A 9) ob (A 4) t b → post 1) (H0 : ¬ rd_lv n (A 9) ob (A 4) t b → post 0) : ∀ (d k : Nat), k + d = n → (∀ u, u < k → ¬ (A 9 u = nI t ∧ ob u = b ∧ A 4 u ≠ 8)) → wY_isWaitedFor_2 post (nI t) b (A 26 0) bl rl (A 27 0) (A 28 0) (A 29 0) (A 25 0) (A 3) (A 0) (A 1) (A 2) st (A 5) (A 6) (A 11) (A 8) (A 7) rz (A 16) (A 18) (A 19) fr (A 9) ob (A 13) qa wq ra (A 33) am (A 21) (A 22) (d + 1) (nI k)
  | 0, k, h1, h2 => by
    have e : k = n := by omega
    subst e
    refine br_t (by rw [hk]; exact nI_le (Nat.le_refl _) (by omega)) (H0 ?_)
    rintro ⟨u, hu, a⟩
    exact h2 u hu a
  | d + 1, k, h1, h2 => by
    have ck : (nI k).toNatClampNeg = k := nI_clamp (by omega)
    have i8 : vp_in (nI k) 8 := vp_in_nI (by omega) (by omega)
    have next : ¬ (A 9 k = nI t ∧ ob k = b ∧ A 4 k ≠ 8) → wY_isWaitedFor_2 post (nI t) b (A 26 0) bl rl (A 27 0) (A 28 0) (A 29 0) (A 25 0) (A 3) (A 0) (A 1) (A 2) st (A 5) (A 6) (A 11) (A 8) (A 7) rz (A 16) (A 18) (A 19) fr (A 9) ob (A 13) qa wq ra (A 33) am (A 21) (A 22) (d + 1) (nI (k + 1)) := fun z =>
      rd_yl_liv hn hk h9 H1 H0 d (k + 1) (by omega) (fun u hu => by
        by_cases e : u = k
        · rw [e]; exact z
        · exact h2 u (by omega))
    have es : st k = 8 ↔ A 4 k = 8 := by rw [h9 k]; exact rd_cv_eq (by decide) (by decide)
    refine br_f (by rw [hk]; exact nI_ge (by omega) (by omega)) ⟨i8, ?_⟩
    by_cases e1 : A 9 k = nI t
    · refine br_t (by rw [ck]; exact e1) ⟨i8, ?_⟩
      by_cases e2 : ob k = b
      · refine br_t (by rw [ck]; exact e2) ⟨i8, ?_⟩
        by_cases e3 : A 4 k = 8
        · exact br_t (by rw [ck]; exact es.mpr e3) (nm_r (nI_1 k) (next (fun z => z.2.2 e3)))
        · exact br_f (by rw [ck]; exact fun z => e3 (es.mp z)) (H1 ⟨k, by omega, e1, e2, e3⟩)
      · exact br_f (by rw [ck]; exact e2) (nm_r (nI_1 k) (next (fun z => e2 z.2.1)))
    · exact br_f (by rw [ck]; exact e1) (nm_r (nI_1 k) (next (fun z => e1 z.1)))
theorem rd_y_isWaitedFor {post : Int32 → Prop} {A : rd_St} {rl : Int32} {ra qa wq am rz ob fr st : Nat → Int32} {bl : Int32} {t n : Nat} {b : Int32} (hn : rd_vN n (A 26)) (h9 : rd_y9 (A 4) st) (H1 : rd_lv n (A 9) ob (A 4) t b → post 1) (H0 : ¬ rd_lv n (A 9) ob (A 4) t b → post 0) : wpY_isWaitedFor post (rd_tY A rl ra qa wq am rz ob fr st bl) (nI t) b := by
  unfold wpY_isWaitedFor
  exact ⟨_, rd_yl_liv hn.2 hn.1 h9 H1 H0 n 0 (by omega) (fun u hu => by omega)⟩
theorem rd_yl_beg {post : SY → Prop} {A : rd_St} {rl : Int32} {ra qa wq am rz ob0 fr st : Nat → Int32} {bl : Int32} {t n : Nat} (hn : n ≤ 8) (hk : A 26 0 = nI n) (H : ∀ ob', (∀ u, u < n → ob' u = if A 9 u = nI t then -1 else ob0 u) → post (rd_tY A rl ra qa wq am rz ob' fr st bl)) : ∀ (d k : Nat) (ob : Nat → Int32), k + d = n → (∀ u, u < n → ob u = if u < k ∧ A 9 u = nI t then -1 else ob0 u) → wY_begin_13 post (nI t) (A 26 0) bl rl (A 27 0) (A 28 0) (A 29 0) (A 25 0) (d + 1) (nI k) (A 3) (A 0) (A 1) (A 2) st (A 5) (A 6) (A 11) (A 8) (A 7) rz (A 16) (A 18) (A 19) fr (A 9) ob (A 13) qa wq ra (A 33) am (A 21) (A 22)
  | 0, k, ob, h1, h2 => by
    have e : k = n := by omega
    subst e
    refine br_t (by rw [hk]; exact nI_le (Nat.le_refl _) (by omega)) (H ob ?_)
    intro u hu
    rw [h2 u hu]
    simp [hu]
  | d + 1, k, ob, h1, h2 => by
    have ck : (nI k).toNatClampNeg = k := nI_clamp (by omega)
    have i8 : vp_in (nI k) 8 := vp_in_nI (by omega) (by omega)
    refine br_f (by rw [hk]; exact nI_ge (by omega) (by omega)) ⟨i8, ?_⟩
    by_cases e1 : A 9 k = nI t
    · refine br_t (by rw [ck]; exact e1) ⟨i8, nm_r (e' := upd ob k (-1)) (by rw [ck]) (nm_r (nI_1 k) (rd_yl_beg hn hk H d (k + 1) _ (by omega) ?_))⟩
      intro u hu
      by_cases e : u = k
      · subst e
        rw [rd_us, if_pos ⟨by omega, e1⟩]
      · rw [rd_un e, h2 u hu]
        by_cases z : A 9 u = nI t
        · by_cases y : u < k
          · rw [if_pos ⟨y, z⟩, if_pos ⟨by omega, z⟩]
          · rw [if_neg (fun q => y q.1), if_neg (fun q => by omega)]
        · rw [if_neg (fun q => z q.2), if_neg (fun q => z q.2)]
    · refine br_f (by rw [ck]; exact e1) (nm_r (nI_1 k) (rd_yl_beg hn hk H d (k + 1) _ (by omega) ?_))
      intro u hu
      rw [h2 u hu]
      by_cases z : A 9 u = nI t
      · have : u ≠ k := fun q => e1 (q ▸ z)
        by_cases y : u < k
        · rw [if_pos ⟨y, z⟩, if_pos ⟨by omega, z⟩]
        · rw [if_neg (fun q => y q.1), if_neg (fun q => by omega)]
      · rw [if_neg (fun q => z q.2), if_neg (fun q => z q.2)]
theorem rd_y_begin {ex n e D : Nat} {A : rd_St} {w : List Nat} {Q : Nat → List Nat} {v : SY} {t : Nat} {post : SY → Prop} (I : rd_Inv n e D A w Q) (hv : rd_RY ex n D A w Q v) (ht : t < n) (h8 : A 4 t ≠ 8) (H : ∀ v', rd_RY ex n D (rd_fall A t) (w.filter (fun x => x != t)) (rd_fq Q t) v' → post v') : wpY_begin post v (nI t) := by
  have hn := I.vN.2
  obtain ⟨ra, qa, wq, am, rz, ob, fr, st, bl, rfl, hl⟩ := hv
  unfold wpY_begin
  refine rd_y_leaveQueues hn (by omega) (fun q => Nat.le_trans (rd_qlen I) hn) (fun q x hx => Nat.lt_of_lt_of_le ((I.vQ q).2 x hx).1 hn) hl.y2 hl.y3 (fun qa' wq' g2 g3 => ?_)
  refine rd_y_rest hl.r (by omega) (Nat.le_trans (rd_wlen I) hn) (fun x hx => Nat.lt_of_lt_of_le ((I.vR.2 x).mp hx).1 hn) (fun ra' gr => ?_)
  refine ⟨_, rd_yl_beg (A := rd_sw A  16 t (-1)) (ob0 := ob) hn I.vN.1 (fun ob' ho => ?_) n 0 ob (by omega) (fun u hu => by rw [if_neg (fun q => by omega)])⟩
  exact H _ (rd_RY_mk (A := rd_fall A t) ⟨gr, g2, g3, rd_y4_cd hl.y4 (Or.inl (Or.inr (Or.inr rfl))), hl.y5, hl.y6, hl.y7, rd_y8_fall hn ht hl.y8 h8 ho, rd_y9_u hl.y9 rfl, hl.y10⟩)
