/-! more small methods of both sides -/
theorem rd_x_fail {post : Int32 → SX → Prop} {A : rd_St} {rl : Int32} {ra qa ql : Nat → Int32} {t : Nat} {c : Int32} (ht : t < 8) (H : post (A 5 t) (rd_tX (rd_sw A  12 t c) rl ra qa ql)) : wpX_fail post (rd_tX A rl ra qa ql) (nI t) c := by
  have ct : (nI t).toNatClampNeg = t := nI_clamp (by omega)
  have i8 : vp_in (nI t) 8 := vp_in_nI (by omega) (by omega)
  unfold wpX_fail
  refine ⟨i8, nm_r (e' := upd (A 12) t c) (by rw [ct]) ⟨i8, ?_⟩⟩
  rw [ct]
  exact H
theorem rd_x_hasOnTop {post : Int32 → Prop} {A : rd_St} {rl : Int32} {ra qa ql : Nat → Int32} {t d : Nat} {k : Int32} (ht : t < 8) (hd : A 18 t = nI d) (h8 : d ≤ 8) (H1 : ∀ e, d = e + 1 → A 19 (8 * t + e) = k → post 1) (H0 : (∀ e, d = e + 1 → A 19 (8 * t + e) ≠ k) → post 0) : wpX_hasOnTop post (rd_tX A rl ra qa ql) (nI t) k := by
  have ct : (nI t).toNatClampNeg = t := nI_clamp (by omega)
  have i8 : vp_in (nI t) 8 := vp_in_nI (by omega) (by omega)
  unfold wpX_hasOnTop
  refine ⟨i8, ?_⟩
  cases d with
  | zero => exact br_t (by rw [ct, hd]; exact nI_le (a := 0) (b := 0) (Nat.le_refl _) (by omega)) (H0 (fun e h => by omega))
  | succ e =>
    have it : nI t * 8 + A 18 (nI t).toNatClampNeg - 1 = nI (8 * t + e) := by
      rw [ct, hd, rd_ix t (e + 1) 8 8 rfl]
      exact nI_pred (8 * t + e)
    have ce : (nI (8 * t + e)).toNatClampNeg = 8 * t + e := nI_clamp (by omega)
    refine br_f (by rw [ct, hd]; exact nI_nle (by omega) (by omega)) ⟨i8, ?_⟩
    rw [it, ce]
    refine ⟨vp_in_nI (by omega) (by omega), br_c (fun z => H1 e rfl z) (fun z => H0 (fun e' h => ?_))⟩
    have : e' = e := by omega
    rw [this]; exact z
theorem rd_y_isTop {post : Int32 → Prop} {A : rd_St} {rl : Int32} {ra qa wq am rz ob fr st : Nat → Int32} {bl : Int32} {t d : Nat} {k : Int32} (ht : t < 8) (hd : A 18 t = nI d) (h8 : d ≤ 8) (H1 : ∀ e, d = e + 1 → A 19 (8 * t + e) = k → post 1) (H0 : (∀ e, d = e + 1 → A 19 (8 * t + e) ≠ k) → post 0) : wpY_isTop post (rd_tY A rl ra qa wq am rz ob fr st bl) (nI t) k := by
  have ct : (nI t).toNatClampNeg = t := nI_clamp (by omega)
  have i8 : vp_in (nI t) 8 := vp_in_nI (by omega) (by omega)
  unfold wpY_isTop
  refine ⟨i8, ?_⟩
  cases d with
  | zero => exact br_t (by rw [ct, hd]; exact nI_le (a := 0) (b := 0) (Nat.le_refl _) (by omega)) (H0 (fun e h => by omega))
  | succ e =>
    have it : 8 * nI t + A 18 (nI t).toNatClampNeg - 1 = nI (8 * t + e) := by
      rw [ct, hd, rd_ix' t (e + 1) 8 8 rfl]
      exact nI_pred (8 * t + e)
    have ce : (nI (8 * t + e)).toNatClampNeg = 8 * t + e := nI_clamp (by omega)
    refine br_f (by rw [ct, hd]; exact nI_nle (by omega) (by omega)) ⟨i8, ?_⟩
    rw [it, ce]
    refine ⟨vp_in_nI (by omega) (by omega), br_c (fun z => H1 e rfl z) (fun z => H0 (fun e' h => ?_))⟩
    have : e' = e := by omega
    rw [this]; exact z
theorem rd_x_isThere {post : Int32 → Prop} {A : rd_St} {rl : Int32} {ra qa ql : Nat → Int32} {t n : Nat} (hN : rd_vN n (A 26)) (ht : t < 8) (H1 : t < n → A 4 t ≠ 7 → A 4 t ≠ 8 → post 1) (H0 : ¬ (t < n ∧ A 4 t ≠ 7 ∧ A 4 t ≠ 8) → post 0) : wpX_isThere post (rd_tX A rl ra qa ql) (nI t) := by
  have ct : (nI t).toNatClampNeg = t := nI_clamp (by omega)
  have i8 : vp_in (nI t) 8 := vp_in_nI (by omega) (by omega)
  have hn := hN.2
  unfold wpX_isThere
  by_cases h : t < n
  · refine br_f (by rw [hN.1]; exact nI_ge (by omega) (by omega)) ⟨i8, ?_⟩
    rw [ct]
    exact br_c (fun z => H0 (fun y => y.2.1 z)) (fun z => ⟨i8, br_c (fun y => H0 (fun x => x.2.2 y)) (fun y => H1 h z y)⟩)
  · exact br_t (by rw [hN.1]; exact nI_le (by omega) (by omega)) (H0 (fun y => h y.1))
def rd_note (A : rd_St) (c : Nat) (t v : Int32) : rd_St := if c < 60 then rd_sw (rd_sw (rd_sw A  21 c t)  22 c v)  25 0 (nI (c + 1)) else rd_sw A  25 0 (nI (c + 1))
theorem rd_x_note {post : SX → Prop} {A : rd_St} {rl : Int32} {ra qa ql : Nat → Int32} {c : Nat} {t v : Int32} (hc : A 25 0 = nI c) (h : c < 501) (H : post (rd_tX (rd_note A c t v) rl ra qa ql)) : wpX_note post (rd_tX A rl ra qa ql) t v := by
  have cc : (A 25 0).toNatClampNeg = c := by rw [hc]; exact nI_clamp (by omega)
  have c1 : A 25 0 + 1 = nI (c + 1) := by rw [hc, nI_1]
  unfold wpX_note
  unfold rd_note at H
  by_cases z : c < 60
  · rw [if_pos z] at H
    refine br_f (by rw [hc]; exact nI_ge (b := 60) (by omega) (by omega)) ⟨by rw [hc]; exact vp_in_nI z (by omega), nm_r (e' := upd (A 21) c t) (by rw [cc]) ⟨by rw [hc]; exact vp_in_nI z (by omega), nm_r (e' := upd (A 22) c v) (by rw [cc]) (nm_r c1 H)⟩⟩
  · rw [if_neg z] at H
    exact br_t (by rw [hc]; exact nI_le (a := 60) (by omega) (by omega)) (nm_r c1 H)
theorem rd_y_note {post : SY → Prop} {A : rd_St} {rl : Int32} {ra qa wq am rz ob fr st : Nat → Int32} {bl : Int32} {c : Nat} {t v : Int32} (hc : A 25 0 = nI c) (h : c < 501) (H : post (rd_tY (rd_note A c t v) rl ra qa wq am rz ob fr st bl)) : wpY_note post (rd_tY A rl ra qa wq am rz ob fr st bl) t v := by
  have cc : (A 25 0).toNatClampNeg = c := by rw [hc]; exact nI_clamp (by omega)
  have c1 : A 25 0 + 1 = nI (c + 1) := by rw [hc, nI_1]
  unfold wpY_note
  unfold rd_note at H
  by_cases z : c < 60
  · rw [if_pos z] at H
    refine br_f (by rw [hc]; exact nI_ge (b := 60) (by omega) (by omega)) ⟨by rw [hc]; exact vp_in_nI z (by omega), nm_r (e' := upd (A 21) c t) (by rw [cc]) ⟨by rw [hc]; exact vp_in_nI z (by omega), nm_r (e' := upd (A 22) c v) (by rw [cc]) (nm_r c1 H)⟩⟩
  · rw [if_neg z] at H
    exact br_t (by rw [hc]; exact nI_le (a := 60) (by omega) (by omega)) (nm_r c1 H)
theorem rd_x_wakeAfter {post : SX → Prop} {A : rd_St} {rl : Int32} {ra qa ql : Nat → Int32} {t : Nat} {s p : Int32} (ht : t < 8) (H : post (rd_tX (rd_sw (rd_sw A  16 t (A 27 0 + s))  17 t p) rl ra qa ql)) : wpX_wakeAfter post (rd_tX A rl ra qa ql) (nI t) s p := by
  have ct : (nI t).toNatClampNeg = t := nI_clamp (by omega)
  have i8 : vp_in (nI t) 8 := vp_in_nI (by omega) (by omega)
  unfold wpX_wakeAfter
  exact ⟨i8, nm_r (e' := upd (A 16) t (A 27 0 + s)) (by rw [ct]) ⟨i8, nm_r (e' := upd (A 17) t p) (by rw [ct]) H⟩⟩
theorem rd_y_push {post : SY → Prop} {A : rd_St} {rl : Int32} {ra qa wq am rz ob fr st : Nat → Int32} {bl : Int32} {t d : Nat} {k v : Int32} (ht : t < 8) (hd : A 18 t = nI d) (h8 : d < 8) (f : Int32) (H : post (rd_tY (rd_sw (rd_sw (rd_sw A  19 (8 * t + d) k)  20 (8 * t + d) f)  18 t (nI (d + 1))) rl ra qa wq am rz ob (upd fr (8 * t + d) v) st bl)) : wpY_push post (rd_tY A rl ra qa wq am rz ob fr st bl) (nI t) k v := by
  have ct : (nI t).toNatClampNeg = t := nI_clamp (by omega)
  have i8 : vp_in (nI t) 8 := vp_in_nI (by omega) (by omega)
  have it : 8 * nI t + A 18 (nI t).toNatClampNeg = nI (8 * t + d) := by
    rw [ct, hd, rd_ix' t d 8 8 rfl]
  have i64 : vp_in (nI (8 * t + d)) 64 := vp_in_nI (by omega) (by omega)
  have cd : (nI (8 * t + d)).toNatClampNeg = 8 * t + d := nI_clamp (by omega)
  unfold wpY_push
  refine ⟨i8, ?_⟩
  rw [it]
  refine ⟨i64, nm_r (e' := upd (A 19) (8 * t + d) k) (by rw [cd]) ⟨i8, ?_⟩⟩
  refine ⟨i64, nm_r (e' := upd fr (8 * t + d) v) (by rw [cd]) ⟨i8, i8, nm_r (e' := upd (A 18) t (nI (d + 1))) (by rw [ct, hd, nI_1]) H⟩⟩
theorem rd_YL_D {ex n D : Nat} {A : rd_St} {w : List Nat} {Q : Nat → List Nat} {ra qa wq am rz ob fr st : Nat → Int32} {bl : Int32} (h : rd_YL ex n D A w Q ra qa wq am rz ob fr st bl) : rd_YL ex n (D + 1) A w Q ra qa wq am rz ob fr st bl := by
  obtain ⟨b, b1, b2, b3⟩ := h.y6
  exact ⟨h.r, h.y2, h.y3, h.y4, h.y5, ⟨b, by omega, b2, b3⟩, h.y7, h.y8, h.y9, h.y10⟩
/-- a frame is put up: y5, y6, y7, y8 -/
theorem rd_push_old {n e E : Nat} {A : rd_St} {w : List Nat} {Q : Nat → List Nat} {t d : Nat} (I : rd_Inv n e E A w Q) (hd : A 18 t = nI d) (h8 : d < 8) : ∀ u, u < n → ∀ l, l < (upd (A 18) t (nI (d + 1)) u).toNatClampNeg → (u = t ∧ l = d) ∨ (l < (A 18 u).toNatClampNeg ∧ 8 * u + l ≠ 8 * t + d) := by
  intro u hu l hl
  by_cases y : u = t
  · subst y
    rw [rd_us, nI_clamp (by omega)] at hl
    by_cases z : l = d
    · exact Or.inl ⟨rfl, z⟩
    · refine Or.inr ⟨?_, by omega⟩
      rw [rd_cl hd (by omega)]; omega
  · rw [rd_un y] at hl
    obtain ⟨x, hx, e1, e2⟩ := rd_dpos I hu
    exact Or.inr ⟨hl, by omega⟩
/-- a frame is put up: what the reference's own arrays say of it -/
theorem rd_YL_push {ex n D e E : Nat} {A : rd_St} {w : List Nat} {Q : Nat → List Nat} {ra qa wq am rz ob fr st : Nat → Int32} {bl bl' : Int32} {t d : Nat} {k v f : Int32} (I : rd_Inv n e E A w Q) (ht : t < n) (hd : A 18 t = nI d) (h8 : d < 8) (hDD : D ≤ 500) (h : rd_YL ex n D A w Q ra qa wq am rz ob fr st bl) (hk : (k ≠ 0 ∧ v = f ∧ bl' = bl) ∨ (k = 0 ∧ v = bl ∧ bl' = bl + 1)) : rd_YL ex n (D + 1) (rd_sw (rd_sw (rd_sw A  19 (8 * t + d) k)  20 (8 * t + d) f)  18 t (nI (d + 1))) w Q ra qa wq am rz ob (upd fr (8 * t + d) v) st bl' := by
  have hn := I.vN.2
  have old := rd_push_old (n := n) (t := t) I hd h8
  obtain ⟨b, b1, b2, b3⟩ := h.y6
  refine ⟨h.r, h.y2, h.y3, h.y4, ?_, ?_, ?_, ?_, h.y9, h.y10⟩
  · intro u hu l hl
    show upd (A 19) (8 * t + d) k (8 * u + l) ≠ 0 → upd fr (8 * t + d) v (8 * u + l) = upd (A 20) (8 * t + d) f (8 * u + l)
    rcases old u hu l hl with ⟨y, z⟩ | ⟨y, z⟩
    · subst y; subst z
      rw [rd_us, rd_us, rd_us]
      intro k0
      rcases hk with q | q
      · exact q.2.1
      · exact absurd q.1 k0
    · rw [rd_un z, rd_un z, rd_un z]; exact h.y5 u hu l y
  · rcases hk with q | q
    · refine ⟨b, by omega, by rw [q.2.2]; exact b2, ?_⟩
      intro u hu l hl
      show upd (A 19) (8 * t + d) k (8 * u + l) = 0 → ∃ x, x < b ∧ upd fr (8 * t + d) v (8 * u + l) = nI x
      rcases old u hu l hl with ⟨y, z⟩ | ⟨y, z⟩
      · subst y; subst z
        rw [rd_us]
        intro k0
        exact absurd k0 q.1
      · rw [rd_un z, rd_un z]; exact b3 u hu l y
    · refine ⟨b + 1, by omega, by rw [q.2.2, b2, nI_1], ?_⟩
      intro u hu l hl
      show upd (A 19) (8 * t + d) k (8 * u + l) = 0 → ∃ x, x < b + 1 ∧ upd fr (8 * t + d) v (8 * u + l) = nI x
      rcases old u hu l hl with ⟨y, z⟩ | ⟨y, z⟩
      · subst y; subst z
        rw [rd_us, rd_us]
        intro _
        exact ⟨b, by omega, q.2.1.trans b2⟩
      · rw [rd_un z, rd_un z]
        intro k0
        obtain ⟨x, x1, x2⟩ := b3 u hu l y k0
        exact ⟨x, by omega, x2⟩
  · intro u hu l hl m hm
    show upd (A 19) (8 * t + d) k (8 * u + l) = 0 → upd (A 19) (8 * t + d) k (8 * u + m) = 0 → upd fr (8 * t + d) v (8 * u + l) = upd fr (8 * t + d) v (8 * u + m) → l = m
    have new : ∀ l', l' < (A 18 t).toNatClampNeg → A 19 (8 * t + l') = 0 → k = 0 → v ≠ fr (8 * t + l') := by
      intro l' hl' f0 k0 ev
      rcases hk with q | q
      · exact q.1 k0
      · obtain ⟨x, x1, x2⟩ := b3 t ht l' hl' f0
        rw [q.2.1, b2, x2] at ev
        have := rd_inj (by omega) (by omega) ev
        omega
    rcases old u hu l hl with ⟨y, z⟩ | ⟨y, z⟩
    · rcases old u hu m hm with ⟨y', z'⟩ | ⟨y', z'⟩
      · intro _ _ _; omega
      · subst y; subst z
        rw [rd_us, rd_us, rd_un z', rd_un z']
        intro k0 f0 ev
        exact absurd ev (new m y' f0 k0)
    · rcases old u hu m hm with ⟨y', z'⟩ | ⟨y', z'⟩
      · subst y'; subst z'
        rw [rd_us, rd_us, rd_un z, rd_un z]
        intro f0 k0 ev
        exact absurd ev.symm (new l y f0 k0)
      · rw [rd_un z, rd_un z, rd_un z', rd_un z']
        exact h.y7 u hu l y m y'
  · intro u hu hc
    obtain ⟨a1, a2⟩ := h.y8 u hu hc
    refine ⟨a1, fun m hm em => ?_⟩
    obtain ⟨c1, c2, c3⟩ := a2 m hm em
    refine ⟨c1, c2, fun m9 l hl el => ?_⟩
    have := c3 m9 l hl el
    rw [rd_un]
    · exact this
    · intro z
      have e1 : m = t ∧ l = d := by omega
      rcases I.vB u hu hc with y | ⟨m', l', hm', f1, f2, f3, f4⟩
      · have el : A 10 u = nI l := el
        exact absurd (el.symm.trans y) (rd_nm (by omega))
      · have em : A 9 u = nI m := em
        have el : A 10 u = nI l := el
        have g1 : m' = m := rd_inj (by omega) (by omega) (f1.symm.trans em)
        obtain ⟨x, hx, gx, gy⟩ := rd_dpos I hm'
        have g2 : l' = l := rd_inj (by omega) (by omega) (f2.symm.trans el)
        rw [g1, e1.1, rd_cl hd (by omega), g2, e1.2] at f3
        omega
