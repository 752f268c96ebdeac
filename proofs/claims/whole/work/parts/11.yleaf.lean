/-! the reference's small methods -/
theorem rd_y_wake {ex n D : Nat} {A : rd_St} {w : List Nat} {Q : Nat → List Nat} {v : SY} {t : Nat} {post : SY → Prop} (hv : rd_RY ex n D A w Q v) (hn : n ≤ 8) (ht : t < n) (hw : w.length < 8) (h7 : A 4 t ≠ 7) (h8 : A 4 t ≠ 8) (h9 : A 4 t ≠ 9) (H : ∀ v', rd_RY ex n D (rd_ready A t) (w ++ [t]) Q v' → post v') : wpY_wake post v (nI t) := by
  obtain ⟨ra, qa, wq, am, rz, ob, fr, st, bl, rfl, hl⟩ := hv
  have ct : (nI t).toNatClampNeg = t := nI_clamp (by omega)
  have cw : (nI w.length).toNatClampNeg = w.length := nI_clamp (by omega)
  have i8 : vp_in (nI t) 8 := vp_in_nI (by omega) (by omega)
  unfold wpY_wake
  refine ⟨i8, nm_r (e' := upd st t 0) (by rw [ct]) ⟨i8, nm_r (e' := upd (A 16) t (-1)) (by rw [ct]) ⟨vp_in_nI hw (by omega), nm_r (e' := upd ra w.length (nI t)) (by rw [cw]) (nm_r (rd_len1 w t).symm ?_)⟩⟩⟩
  have hr : rd_LV (upd ra w.length (nI t)) 0 (w ++ [t]) := by
    have := rd_LV_put (x := t) hl.r
    rw [Nat.zero_add] at this
    exact this
  exact H _ (rd_RY_mk (A := rd_ready A t) ⟨hr, hl.y2, hl.y3, rd_y4_cd hl.y4 (Or.inr ⟨h7, h8, h9⟩), hl.y5, hl.y6, hl.y7, rd_y8_cd hl.y8 (by decide) h9 h8, rd_y9_u hl.y9 rfl, hl.y10⟩)
theorem rd_yl_row {post : SY → Prop} {A : rd_St} {qa wq am rz ob fr st : Nat → Int32} {bl : Int32} {t : Nat} (ht : t < 8) : ∀ (rest K : List Nat) (ra : Nat → Int32) (k rl : Nat), (∀ x, x ∈ rest → x < 8) → rd_LV ra 0 K → rd_LV ra k rest → K.length ≤ k → k + rest.length = rl → rl ≤ 8 → (∀ ra', rd_LV ra' 0 (K ++ rest.filter (fun x => x != t)) → post (rd_tY A (nI (K ++ rest.filter (fun x => x != t)).length) ra' qa wq am rz ob fr st bl)) → wY_leaveRow_4 post (nI t) (A 26 0) bl (nI rl) (A 27 0) (A 28 0) (A 29 0) (A 25 0) (rest.length + 1) (nI K.length) (nI k) (A 3) (A 0) (A 1) (A 2) st (A 5) (A 6) (A 11) (A 8) (A 7) rz (A 16) (A 18) (A 19) fr (A 9) ob (A 13) qa wq ra (A 33) am (A 21) (A 22)
  | [], K, ra, k, rl, _, h1, _, h3, h4, h5, H => by
    simp only [List.length_nil, Nat.add_zero] at h4
    subst h4
    have := H ra (by simpa using h1)
    simp only [List.filter_nil, List.append_nil] at this
    exact br_t (nI_le (Nat.le_refl _) (by omega)) this
  | x :: rest, K, ra, k, rl, hx, h1, h2, h3, h4, h5, H => by
    simp only [List.length_cons] at h4
    have ck : (nI k).toNatClampNeg = k := nI_clamp (by omega)
    have cK : (nI K.length).toNatClampNeg = K.length := nI_clamp (by omega)
    have x8 := hx x (by simp)
    refine br_f (nI_ge (by omega) (by omega)) ⟨vp_in_nI (by omega) (by omega), nm_r (e' := nI x) (by rw [ck]; exact h2.1) ?_⟩
    by_cases z : x = t
    · refine br_t (by rw [z]) (nm_r (nI_1 k) ?_)
      refine rd_yl_row ht rest K ra (k + 1) rl (fun y hy => hx y (by simp [hy])) h1 h2.2 (by omega) (by omega) h5 ?_
      intro ra' h
      have g := H ra'
      rw [List.filter_cons, if_neg (by simp [z])] at g
      exact g h
    · refine br_f (fun q => z (rd_inj (by omega) (by omega) q)) ⟨vp_in_nI (by omega) (by omega), nm_r (e' := upd ra K.length (nI x)) (by rw [cK]) (nm_r (nI_1 _) (nm_r (nI_1 k) ?_))⟩
      have eL : (K ++ [x]).length = K.length + 1 := by simp
      have g := rd_yl_row (post := post) (A := A) (qa := qa) (wq := wq) (am := am) (rz := rz) (ob := ob) (fr := fr) (st := st) (bl := bl) ht rest (K ++ [x]) (upd ra K.length (nI x)) (k + 1) rl (fun y hy => hx y (by simp [hy])) (by have := rd_LV_put (x := x) h1; rw [Nat.zero_add] at this; exact this) (rd_LV_fr h2.2 (fun i hi _ => rd_un (by omega))) (by omega) (by omega) h5 (by
        intro ra' h
        have g := H ra'
        rw [List.filter_cons, if_pos (by simp [z])] at g
        rw [List.append_assoc] at h ⊢
        exact g h)
      rw [eL] at g
      exact g
theorem rd_y_leaveRow {A : rd_St} {w : List Nat} {ra qa wq am rz ob fr st : Nat → Int32} {bl : Int32} {t : Nat} {post : SY → Prop} (hl : rd_LV ra 0 w) (ht : t < 8) (hw : w.length ≤ 8) (hx : ∀ x, x ∈ w → x < 8) (H : ∀ ra', rd_LV ra' 0 (w.filter (fun x => x != t)) → post (rd_tY A (nI (w.filter (fun x => x != t)).length) ra' qa wq am rz ob fr st bl)) : wpY_leaveRow post (rd_tY A (nI w.length) ra qa wq am rz ob fr st bl) (nI t) := by
  unfold wpY_leaveRow
  exact ⟨_, rd_yl_row ht w [] ra 0 w.length hx trivial hl (Nat.zero_le _) (by simp) hw (fun ra' h => H ra' h)⟩
theorem rd_y_rest {A : rd_St} {w : List Nat} {ra qa wq am rz ob fr st : Nat → Int32} {bl x : Int32} {t : Nat} {post : SY → Prop} (hl : rd_LV ra 0 w) (ht : t < 8) (hw : w.length ≤ 8) (hx : ∀ x, x ∈ w → x < 8) (H : ∀ ra', rd_LV ra' 0 (w.filter (fun x => x != t)) → post (rd_tY (rd_sw A  16 t (-1)) (nI (w.filter (fun x => x != t)).length) ra' qa wq am rz ob fr (upd st t x) bl)) : wpY_rest post (rd_tY A (nI w.length) ra qa wq am rz ob fr st bl) (nI t) x := by
  have ct : (nI t).toNatClampNeg = t := nI_clamp (by omega)
  have i8 : vp_in (nI t) 8 := vp_in_nI (by omega) (by omega)
  unfold wpY_rest
  refine rd_y_leaveRow hl ht hw hx (fun ra' h => ?_)
  exact ⟨i8, nm_r (e' := upd st t x) (by rw [ct]) ⟨i8, nm_r (e' := upd (A 16) t (-1)) (by rw [ct]) (H ra' h)⟩⟩
theorem rd_yl_que {post : SY → Prop} {J : Int32 → (Nat → Int32) → (Nat → Int32) → (Nat → Int32) → (Nat → Int32) → (Nat → Int32) → (Nat → Int32) → (Nat → Int32) → (Nat → Int32) → (Nat → Int32) → (Nat → Int32) → (Nat → Int32) → (Nat → Int32) → (Nat → Int32) → (Nat → Int32) → (Nat → Int32) → (Nat → Int32) → (Nat → Int32) → (Nat → Int32) → (Nat → Int32) → (Nat → Int32) → (Nat → Int32) → (Nat → Int32) → (Nat → Int32) → (Nat → Int32) → (Nat → Int32) → Prop} {A : rd_St} {rl : Int32} {ra wq am rz ob fr st : Nat → Int32} {bl : Int32} {t q len : Nat} (ht : t < 8) (hq : q < 24) (hl : wq q = nI len) (h8 : len ≤ 8) : ∀ (d : Nat) (qa : Nat → Int32) (j k : Nat), j ≤ k → k + d = len → (∀ qa' j', j' ≤ len → (∀ i, i < 8 * q ∨ 8 * q + 8 ≤ i → qa' i = qa i) → (∀ K rest, K.length = j → rest.length = d → rd_LV qa (8 * q) K → rd_LV qa (8 * q + k) rest → (∀ x, x ∈ rest → x < 8) → rd_LV qa' (8 * q) (K ++ rest.filter (fun x => x != t)) ∧ j' = (K ++ rest.filter (fun x => x != t)).length) → J (nI (q + 1)) (A 3) (A 0) (A 1) (A 2) st (A 5) (A 6) (A 11) (A 8) (A 7) rz (A 16) (A 18) (A 19) fr (A 9) ob (A 13) qa' (upd wq q (nI j')) ra (A 33) am (A 21) (A 22)) → wY_leaveQueues_13 post J (nI t) (nI q) (A 26 0) bl rl (A 27 0) (A 28 0) (A 29 0) (A 25 0) (d + 1) (nI j) (nI k) (A 3) (A 0) (A 1) (A 2) st (A 5) (A 6) (A 11) (A 8) (A 7) rz (A 16) (A 18) (A 19) fr (A 9) ob (A 13) qa wq ra (A 33) am (A 21) (A 22)
  | 0, qa, j, k, h1, h2, H => by
    have e : k = len := by omega
    subst e
    have cq : (nI q).toNatClampNeg = q := nI_clamp (by omega)
    have iq : vp_in (nI q) 24 := vp_in_nI hq (by omega)
    refine ⟨iq, br_t (by rw [cq, hl]; exact nI_le (Nat.le_refl _) (by omega)) ⟨iq, nm_r (e' := upd wq q (nI j)) (by rw [cq]) (nm_r (nI_1 q) (H qa j h1 (fun _ _ => rfl) ?_))⟩⟩
    intro K rest a b c _ _
    have : rest = [] := List.length_eq_zero_iff.mp b
    subst this
    simp only [List.filter_nil, List.append_nil]
    exact ⟨c, a.symm⟩
  | d + 1, qa, j, k, h1, h2, H => by
    have cq : (nI q).toNatClampNeg = q := nI_clamp (by omega)
    have iq : vp_in (nI q) 24 := vp_in_nI hq (by omega)
    have ik : 8 * nI q + nI k = nI (8 * q + k) := rd_ix' q k 8 8 rfl
    have ij : 8 * nI q + nI j = nI (8 * q + j) := rd_ix' q j 8 8 rfl
    have ck : (nI (8 * q + k)).toNatClampNeg = 8 * q + k := nI_clamp (by omega)
    have cj : (nI (8 * q + j)).toNatClampNeg = 8 * q + j := nI_clamp (by omega)
    refine ⟨iq, br_f (by rw [cq, hl]; exact nI_ge (by omega) (by omega)) ⟨by rw [ik]; exact vp_in_nI (by omega) (by omega), nm_r (e' := qa (8 * q + k)) (by rw [ik, ck]) ⟨by rw [ij]; exact vp_in_nI (by omega) (by omega), nm_r (e' := upd qa (8 * q + j) (qa (8 * q + k))) (by rw [ij, cj]) ?_⟩⟩⟩
    by_cases z : qa (8 * q + k) = nI t
    · refine br_t z (nm_r (nI_1 k) (rd_yl_que ht hq hl h8 d _ j (k + 1) (by omega) (by omega) ?_))
      intro qa' j' a b c
      refine H qa' j' a (fun i hi => (b i hi).trans (rd_un (by omega))) ?_
      intro K rest e1 e2 e3 e4 e5
      cases rest with
      | nil => simp at e2
      | cons x rest =>
        have ex : x = t := rd_inj (by have := e5 x (by simp); omega) (by omega) (e4.1.symm.trans z)
        rw [List.filter_cons, if_neg (by simp [ex])]
        exact c K rest e1 (by simpa using e2) (rd_LV_fr e3 (fun i _ hi => rd_un (by omega))) (rd_LV_fr e4.2 (fun i hi _ => rd_un (by omega))) (fun y hy => e5 y (by simp [hy]))
    · refine br_f z (nm_r (nI_1 j) (nm_r (nI_1 k) (rd_yl_que ht hq hl h8 d _ (j + 1) (k + 1) (by omega) (by omega) ?_)))
      intro qa' j' a b c
      refine H qa' j' a (fun i hi => (b i hi).trans (rd_un (by omega))) ?_
      intro K rest e1 e2 e3 e4 e5
      cases rest with
      | nil => simp at e2
      | cons x rest =>
        have ex : x ≠ t := fun y => z (by rw [← y]; exact e4.1)
        rw [List.filter_cons, if_pos (by simp [ex])]
        have := c (K ++ [x]) rest (by simp [e1]) (by simpa using e2) (by
          have h := rd_LV_put (x := x) e3
          rw [e1] at h
          rw [show qa (8 * q + k) = nI x from e4.1]
          exact h) (rd_LV_fr e4.2 (fun i hi _ => rd_un (by omega))) (fun y hy => e5 y (by simp [hy]))
        rw [List.append_assoc] at this
        exact this
theorem rd_yl_queo {post : SY → Prop} {n : Nat} {Q : Nat → List Nat} {A : rd_St} {rl : Int32} {ra am rz ob fr st : Nat → Int32} {bl : Int32} {t : Nat} (hn : n ≤ 8) (ht : t < 8) (hQ : ∀ q, (Q q).length ≤ 8) (hx : ∀ q x, x ∈ Q q → x < 8) (H : ∀ qa' wq', rd_rng 24 8 wq' → rd_y3 n (rd_fq Q t) wq' qa' → post (rd_tY A rl ra qa' wq' am rz ob fr st bl)) : ∀ (d q : Nat) (qa wq : Nat → Int32), q + d = 24 → rd_rng 24 8 wq → rd_y3 n (fun p => if p < q then rd_fq Q t p else Q p) wq qa → wY_leaveQueues_2 post (nI t) (A 26 0) bl rl (A 27 0) (A 28 0) (A 29 0) (A 25 0) (d + 1) (nI q) (A 3) (A 0) (A 1) (A 2) st (A 5) (A 6) (A 11) (A 8) (A 7) rz (A 16) (A 18) (A 19) fr (A 9) ob (A 13) qa wq ra (A 33) am (A 21) (A 22)
  | 0, q, qa, wq, h1, h2, h3 => by
    have e : q = 24 := by omega
    subst e
    refine br_t (nI_le (a := 24) (b := 24) (by omega) (by omega)) (H qa wq h2 ?_)
    intro p hp
    have := h3 p hp
    dsimp only at this
    rw [if_pos (by omega)] at this
    exact this
  | d + 1, q, qa, wq, h1, h2, h3 => by
    obtain ⟨len, hlen, el⟩ := h2 q (by omega)
    refine br_f (nI_ge (b := 24) (by omega) (by omega)) ⟨_, rd_yl_que ht (by omega) el hlen len qa 0 0 (by omega) (by omega) ?_⟩
    intro qa' j' a b c
    refine rd_yl_queo hn ht hQ hx H d (q + 1) qa' _ (by omega) (rd_rng_u h2 (by omega)) ?_
    intro p hp
    have hp' := h3 p hp
    dsimp only at hp' ⊢
    by_cases e : p = q
    · subst e
      rw [if_neg (Nat.lt_irrefl p)] at hp'
      have hl : (Q p).length = len := rd_inj (by have := hQ p; omega) (by omega) (hp'.1.symm.trans el)
      have := c [] (Q p) rfl hl trivial hp'.2 (hx p)
      rw [if_pos (by omega), rd_us]
      simp only [List.nil_append] at this
      exact ⟨by rw [this.2]; rfl, this.1⟩
    · have eq : (if p < q + 1 then rd_fq Q t p else Q p) = (if p < q then rd_fq Q t p else Q p) := by
        by_cases z : p < q
        · rw [if_pos z, if_pos (by omega)]
        · rw [if_neg z, if_neg (by omega)]
      have hle : (if p < q then rd_fq Q t p else Q p).length ≤ 8 := by
        by_cases z : p < q
        · rw [if_pos z]
          exact Nat.le_trans (List.length_filter_le _ _) (hQ p)
        · rw [if_neg z]; exact hQ p
      rw [eq, rd_un e]
      refine ⟨hp'.1, rd_LV_fr hp'.2 (fun i x y => b i ?_)⟩
      omega
theorem rd_y_leaveQueues {post : SY → Prop} {n : Nat} {Q : Nat → List Nat} {A : rd_St} {rl : Int32} {ra qa wq am rz ob fr st : Nat → Int32} {bl : Int32} {t : Nat} (hn : n ≤ 8) (ht : t < 8) (hQ : ∀ q, (Q q).length ≤ 8) (hx : ∀ q x, x ∈ Q q → x < 8) (h2 : rd_rng 24 8 wq) (h3 : rd_y3 n Q wq qa) (H : ∀ qa' wq', rd_rng 24 8 wq' → rd_y3 n (rd_fq Q t) wq' qa' → post (rd_tY A rl ra qa' wq' am rz ob fr st bl)) : wpY_leaveQueues post (rd_tY A rl ra qa wq am rz ob fr st bl) (nI t) := by
  unfold wpY_leaveQueues
  refine ⟨_, rd_yl_queo hn ht hQ hx H 24 0 qa wq (by omega) h2 ?_⟩
  intro p hp
  dsimp only
  rw [if_neg (by omega)]
  exact h3 p hp
theorem rd_y_top {A : rd_St} {rl : Int32} {ra qa wq am rz ob fr st : Nat → Int32} {bl : Int32} {t d : Nat} {post : Int32 → Prop} (ht : t < 8) (hd : A 18 t = nI (d + 1)) (h8 : d < 8) (P : post (fr (8 * t + d))) : wpY_top post (rd_tY A rl ra qa wq am rz ob fr st bl) (nI t) := by
  have ct : (nI t).toNatClampNeg = t := nI_clamp (by omega)
  have it : 8 * nI t + A 18 (nI t).toNatClampNeg - 1 = nI (8 * t + d) := by
    rw [ct, hd, rd_ix' t (d + 1) 8 8 rfl]
    exact nI_pred (8 * t + d)
  unfold wpY_top
  refine ⟨vp_in_nI ht (by omega), ?_⟩
  rw [it, nI_clamp (by omega)]
  exact ⟨vp_in_nI (by omega) (by omega), P⟩
