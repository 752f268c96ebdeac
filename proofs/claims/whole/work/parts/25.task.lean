/-! a new task, on both sides -/
def rd_tb (fk : Nat → Int32) (t : Nat) : Nat → Int32
  | 0 => -1
  | k + 1 => if fk (8 * t + k) = 0 then nI k else rd_tb fk t k
def rd_tby (fk fr : Nat → Int32) (t : Nat) : Nat → Int32
  | 0 => -1
  | k + 1 => if fk (8 * t + k) = 0 then fr (8 * t + k) else rd_tby fk fr t k
theorem rd_tb_spec (fk fr : Nat → Int32) (t : Nat) : ∀ d, (rd_tb fk t d = -1 ∧ rd_tby fk fr t d = -1) ∨ ∃ l, l < d ∧ rd_tb fk t d = nI l ∧ fk (8 * t + l) = 0 ∧ rd_tby fk fr t d = fr (8 * t + l)
  | 0 => Or.inl ⟨rfl, rfl⟩
  | d + 1 => by
    simp only [rd_tb, rd_tby]
    by_cases h : fk (8 * t + d) = 0
    · rw [if_pos h, if_pos h]; exact Or.inr ⟨d, by omega, rfl, h, rfl⟩
    · rw [if_neg h, if_neg h]
      rcases rd_tb_spec fk fr t d with z | ⟨l, a, b⟩
      · exact Or.inl z
      · exact Or.inr ⟨l, by omega, b⟩
theorem rd_nb0 : vp_nar .boolean 0 = 0 := rfl
theorem rd_nb1 : vp_nar .boolean 1 = 1 := rfl
theorem rd_x_makeTask {A : rd_St} {w : List Nat} {ra qa ql : Nat → Int32} {n : Nat} {b mk bl : Int32} {post : SX → Prop} (hk : A 26 0 = nI n) (h8 : n < 8) (hw : w.length < 8) (hr : rd_LV ra 0 w) (H : ∀ ra', rd_LV ra' 0 (w ++ [n]) → post (rd_tX (rd_new A n b mk bl) (nI (w ++ [n]).length) ra' qa ql)) : wpX_makeTask post (rd_tX A (nI w.length) ra qa ql) b mk bl := by
  have cn : (A 26 0).toNatClampNeg = n := by rw [hk]; exact nI_clamp (by omega)
  have i8 : vp_in (A 26 0) 8 := by rw [hk]; exact vp_in_nI h8 (by omega)
  unfold wpX_makeTask
  refine nm_r (e' := nI (n + 1)) (by rw [hk, nI_1]) ⟨i8, nm_r (e' := upd (A 5) n 0) (by rw [cn]) ⟨i8, nm_r (e' := upd (A 6) n 0) (by rw [cn]) ⟨i8, nm_r (e' := upd (A 7) n (-1)) (by rw [cn]) ⟨i8, nm_r (e' := upd (A 8) n b) (by rw [cn]) ⟨i8, nm_r (e' := upd (A 9) n mk) (by rw [cn]) ⟨i8, nm_r (e' := upd (A 10) n bl) (by rw [cn]) ⟨i8, nm_r (e' := upd (A 11) n 0) (by rw [cn]) ⟨i8, nm_r (e' := upd (A 12) n 0) (by rw [cn]) ⟨i8, nm_r (e' := upd (A 13) n 0) (by rw [cn, rd_nb0]) ⟨i8, nm_r (e' := upd (A 18) n 0) (by rw [cn]) ?_⟩⟩⟩⟩⟩⟩⟩⟩⟩⟩
  rw [hk]
  exact rd_x_mkReady (A := rd_sw (rd_sw (rd_sw (rd_sw (rd_sw (rd_sw (rd_sw (rd_sw (rd_sw (rd_sw (rd_sw A  26 0 (nI (n + 1)))  5 n 0)  6 n 0)  7 n (-1))  8 n b)  9 n mk)  10 n bl)  11 n 0)  12 n 0)  13 n 0)  18 n 0) hr h8 hw (fun ra' h => H ra' h)
theorem rd_y_wakeR {A : rd_St} {w : List Nat} {ra qa wq am rz ob fr st : Nat → Int32} {bl : Int32} {t : Nat} {post : SY → Prop} (hr : rd_LV ra 0 w) (ht : t < 8) (hw : w.length < 8) (H : ∀ ra', rd_LV ra' 0 (w ++ [t]) → post (rd_tY (rd_sw A  16 t (-1)) (nI (w ++ [t]).length) ra' qa wq am rz ob fr (upd st t 0) bl)) : wpY_wake post (rd_tY A (nI w.length) ra qa wq am rz ob fr st bl) (nI t) := by
  have ct : (nI t).toNatClampNeg = t := nI_clamp (by omega)
  have cw : (nI w.length).toNatClampNeg = w.length := nI_clamp (by omega)
  have i8 : vp_in (nI t) 8 := vp_in_nI (by omega) (by omega)
  have h2 : rd_LV (upd ra w.length (nI t)) 0 (w ++ [t]) := by
    have := rd_LV_put (x := t) hr
    rw [Nat.zero_add] at this
    exact this
  unfold wpY_wake
  exact ⟨i8, nm_r (e' := upd st t 0) (by rw [ct]) ⟨i8, nm_r (e' := upd (A 16) t (-1)) (by rw [ct]) ⟨vp_in_nI hw (by omega), nm_r (e' := upd ra w.length (nI t)) (by rw [cw]) (nm_r (rd_len1 w t).symm (H _ h2))⟩⟩⟩
theorem rd_yl_mk {post : SY → Prop} {A : rd_St} {w : List Nat} {ra qa am rz ob fr st : Nat → Int32} {bl : Int32} {n : Nat} (h8 : n < 8) (hw : w.length < 8) (hr : rd_LV ra 0 w) {wq0 : Nat → Int32} (H : ∀ ra' wq', rd_LV ra' 0 (w ++ [n]) → (∀ q, wq' q = if 3 * n ≤ q ∧ q < 3 * n + 3 then 0 else wq0 q) → post (rd_tY (rd_sw A  16 n (-1)) (nI (w ++ [n]).length) ra' qa wq' am rz ob fr (upd (upd st n (-1)) n 0) bl)) : ∀ (e k : Nat) (wq : Nat → Int32), k + e = 3 → (∀ q, wq q = if 3 * n ≤ q ∧ q < 3 * n + k then 0 else wq0 q) → wY_make_145 post (nI n) (A 26 0) bl (nI w.length) (A 27 0) (A 28 0) (A 29 0) (A 25 0) (e + 1) (nI k) (A 3) (A 0) (A 1) (A 2) st (A 5) (A 6) (A 11) (A 8) (A 7) rz (A 16) (A 18) (A 19) fr (A 9) ob (A 13) qa wq ra (A 33) am (A 21) (A 22)
  | 0, k, wq, h1, h2 => by
    have e : k = 3 := by omega
    subst e
    have cn : (nI n).toNatClampNeg = n := nI_clamp (by omega)
    refine br_t (nI_le (a := 3) (b := 3) (by omega) (by omega)) ⟨vp_in_nI h8 (by omega), nm_r (e' := upd st n (-1)) (by rw [cn]) ?_⟩
    exact rd_y_wakeR hr h8 hw (fun ra' h => H ra' wq h h2)
  | e + 1, k, wq, h1, h2 => by
    have ik : 3 * nI n + nI k = nI (3 * n + k) := rd_ix' n k 3 3 rfl
    have ck : (nI (3 * n + k)).toNatClampNeg = 3 * n + k := nI_clamp (by omega)
    refine br_f (nI_ge (b := 3) (by omega) (by omega)) ⟨by rw [ik]; exact vp_in_nI (by omega) (by omega), nm_r (e' := upd wq (3 * n + k) 0) (by rw [ik, ck]) (nm_r (nI_1 k) (rd_yl_mk h8 hw hr H e (k + 1) _ (by omega) (fun q => ?_)))⟩
    rw [rd_up]
    by_cases y : q = 3 * n + k
    · rw [if_pos y, if_pos (by omega)]
    · rw [if_neg y, h2 q]
      by_cases z : 3 * n ≤ q ∧ q < 3 * n + k
      · rw [if_pos z, if_pos (by omega)]
      · rw [if_neg z, if_neg (by omega)]
theorem rd_yl_mk2 {post : SY → Prop} {A : rd_St} {w : List Nat} {ra qa wq am rz fr st : Nat → Int32} {bl : Int32} {n t d : Nat} (ht : t < 8) (h8 : n < 8) (hd : A 18 t = nI d) (hd8 : d ≤ 8) {ob0 : Nat → Int32} (H : ∃ f, wY_make_145 post (nI n) (A 26 0) bl (nI w.length) (A 27 0) (A 28 0) (A 29 0) (A 25 0) f 0 (A 3) (A 0) (A 1) (A 2) st (A 5) (A 6) (A 11) (A 8) (A 7) rz (A 16) (A 18) (A 19) fr (A 9) (upd ob0 n (rd_tby (A 19) fr t d)) (A 13) qa wq ra (A 33) am (A 21) (A 22)) : ∀ (e k : Nat), k + e = d → wY_make_88 post (nI t) (nI n) (A 26 0) bl (nI w.length) (A 27 0) (A 28 0) (A 29 0) (A 25 0) (e + 1) (nI k) (A 3) (A 0) (A 1) (A 2) st (A 5) (A 6) (A 11) (A 8) (A 7) rz (A 16) (A 18) (A 19) fr (A 9) (upd ob0 n (rd_tby (A 19) fr t k)) (A 13) qa wq ra (A 33) am (A 21) (A 22)
  | 0, k, h1 => by
    have e : k = d := by omega
    subst e
    have ct : (nI t).toNatClampNeg = t := nI_clamp (by omega)
    exact br_f (nI_pos (by omega)) ⟨vp_in_nI ht (by omega), br_t (by rw [ct, hd]; exact nI_le (Nat.le_refl _) (by omega)) H⟩
  | e + 1, k, h1 => by
    have ct : (nI t).toNatClampNeg = t := nI_clamp (by omega)
    have cn : (nI n).toNatClampNeg = n := nI_clamp (by omega)
    have ik : 8 * nI t + nI k = nI (8 * t + k) := rd_ix' t k 8 8 rfl
    have ck : (nI (8 * t + k)).toNatClampNeg = 8 * t + k := nI_clamp (by omega)
    have i64 : vp_in (nI (8 * t + k)) 64 := vp_in_nI (by omega) (by omega)
    have r := rd_yl_mk2 (post := post) (w := w) (ra := ra) (qa := qa) (wq := wq) (am := am) (rz := rz) (st := st) (bl := bl) ht h8 hd hd8 H e (k + 1) (by omega)
    refine br_f (nI_pos (by omega)) ⟨vp_in_nI ht (by omega), br_f (by rw [ct, hd]; exact nI_ge (by omega) (by omega)) ?_⟩
    rw [ik, ck]
    refine ⟨i64, br_c (fun z => ⟨i64, vp_in_nI h8 (by omega), nm_r (e' := upd ob0 n (rd_tby (A 19) fr t (k + 1))) (by rw [cn, rd_uu]; simp only [rd_tby]; rw [if_pos z]) (nm_r (nI_1 k) r)⟩) (fun z => nm_r (nI_1 k) ?_)⟩
    have e' : rd_tby (A 19) fr t (k + 1) = rd_tby (A 19) fr t k := by simp only [rd_tby]; rw [if_neg z]
    rw [e'] at r
    exact r
/-- the reference's make, of a task made by m or by none -/
theorem rd_y_make {post : SY → Prop} {A : rd_St} {w : List Nat} {ra qa wq am rz ob fr st : Nat → Int32} {bl : Int32} {n : Nat} {b mk blk : Int32} (hk : A 26 0 = nI n) (h8 : n < 8) (hw : w.length < 8) (hr : rd_LV ra 0 w) (o : Int32) (hm : (mk = -1 ∧ o = -1) ∨ ∃ m d, m < n ∧ mk = nI m ∧ A 18 m = nI d ∧ d ≤ 8 ∧ o = rd_tby (A 19) fr m d) (H : ∀ ra' wq', rd_LV ra' 0 (w ++ [n]) → (∀ q, wq' q = if 3 * n ≤ q ∧ q < 3 * n + 3 then 0 else wq q) → post (rd_tY (rd_new A n b mk blk) (nI (w ++ [n]).length) ra' qa wq' am (upd rz n 0) (upd ob n o) fr (upd (upd st n (-1)) n 0) bl)) : wpY_make post (rd_tY A (nI w.length) ra qa wq am rz ob fr st bl) b mk := by
  have cn : (A 26 0).toNatClampNeg = n := by rw [hk]; exact nI_clamp (by omega)
  have i8 : vp_in (A 26 0) 8 := by rw [hk]; exact vp_in_nI h8 (by omega)
  unfold wpY_make
  refine nm_r (e' := nI (n + 1)) (by rw [hk, nI_1]) ⟨i8, nm_r (e' := upd (A 5) n 0) (by rw [cn]) ⟨i8, nm_r (e' := upd (A 6) n 0) (by rw [cn]) ⟨i8, nm_r (e' := upd (A 11) n 0) (by rw [cn]) ⟨i8, nm_r (e' := upd (A 8) n b) (by rw [cn]) ⟨i8, nm_r (e' := upd (A 7) n (-1)) (by rw [cn]) ⟨i8, nm_r (e' := upd rz n 0) (by rw [cn]) ⟨i8, nm_r (e' := upd (A 18) n 0) (by rw [cn]) ⟨i8, nm_r (e' := upd (A 13) n 0) (by rw [cn, rd_nb0]) ⟨i8, nm_r (e' := upd (A 9) n mk) (by rw [cn]) ⟨i8, nm_r (e' := upd ob n (-1)) (by rw [cn]) ?_⟩⟩⟩⟩⟩⟩⟩⟩⟩⟩
  rw [hk]
  have fin : ∃ f, wY_make_145 post (nI n) ((rd_new A n b mk blk) 26 0) bl (nI w.length) ((rd_new A n b mk blk) 27 0) ((rd_new A n b mk blk) 28 0) ((rd_new A n b mk blk) 29 0) ((rd_new A n b mk blk) 25 0) f 0 ((rd_sa (rd_new A n b mk blk)  16 (A 16)) 3) ((rd_sa (rd_new A n b mk blk)  16 (A 16)) 0) ((rd_sa (rd_new A n b mk blk)  16 (A 16)) 1) ((rd_sa (rd_new A n b mk blk)  16 (A 16)) 2) st ((rd_sa (rd_new A n b mk blk)  16 (A 16)) 5) ((rd_sa (rd_new A n b mk blk)  16 (A 16)) 6) ((rd_sa (rd_new A n b mk blk)  16 (A 16)) 11) ((rd_sa (rd_new A n b mk blk)  16 (A 16)) 8) ((rd_sa (rd_new A n b mk blk)  16 (A 16)) 7) (upd rz n 0) ((rd_sa (rd_new A n b mk blk)  16 (A 16)) 16) ((rd_sa (rd_new A n b mk blk)  16 (A 16)) 18) ((rd_sa (rd_new A n b mk blk)  16 (A 16)) 19) fr ((rd_sa (rd_new A n b mk blk)  16 (A 16)) 9) (upd ob n o) ((rd_sa (rd_new A n b mk blk)  16 (A 16)) 13) qa wq ra ((rd_sa (rd_new A n b mk blk)  16 (A 16)) 33) am ((rd_sa (rd_new A n b mk blk)  16 (A 16)) 21) ((rd_sa (rd_new A n b mk blk)  16 (A 16)) 22) := by
    refine ⟨4, rd_yl_mk (A := rd_sa (rd_new A n b mk blk)  16 (A 16)) h8 hw hr (wq0 := wq) (fun ra' wq' h1 h2 => ?_) 3 0 wq (by omega) (fun q => by rw [if_neg (by omega)])⟩
    exact H ra' wq' h1 h2
  rcases hm with ⟨m1, o1⟩ | ⟨m, d, hmn, em, ed, hd, eo⟩
  · refine ⟨1, ?_⟩
    rw [o1] at fin
    rw [m1]
    rw [m1] at fin
    exact br_t (by decide) fin
  · refine ⟨d + 1, ?_⟩
    rw [em] at fin ⊢
    rw [eo] at fin
    have ed' : (rd_sa (rd_new A n b (nI m) blk)  16 (A 16)) 18 m = nI d := (rd_un (show m ≠ n by omega)).trans ed
    exact rd_yl_mk2 (A := rd_sa (rd_new A n b (nI m) blk)  16 (A 16)) (by omega) h8 ed' hd (ob0 := ob) fin d 0 (by omega)
