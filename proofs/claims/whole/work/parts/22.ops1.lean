/-! the plain instructions -/
section
variable {n D t p b' d : Nat} {a b : Int32} {A : rd_St} {w : List Nat} {Q : Nat → List Nat}
/-- an instruction that changes the bundle alike on both sides and goes on at q -/
theorem rd_o_ply {op : Int32} {q : Nat} (C : rd_C n D t p b' A w Q) (B : rd_St) (hq : q ≤ 21) (J : rd_Inv n 8 (D + 1) B w Q) (hB : B 28 = A 28 ∧ B 30 = A 30 ∧ B 31 = A 31 ∧ B 29 = A 29 ∧ B 4 = A 4 ∧ B 12 = A 12 ∧ B 18 = A 18 ∧ B 19 = A 19 ∧ B 20 = A 20 ∧ B 9 = A 9 ∧ B 10 = A 10 ∧ B 34 = A 34 ∧ B 24 = A 24) (X : ∀ (post : SX → Prop) (ra qa ql : Nat → Int32), rd_XL w Q ra qa ql → post (rd_tX (rd_sw B  5 t (nI q)) (nI w.length) ra qa ql) → wX_perform_119 post (nI t) (nI (p + 1)) op a b (nI w.length) (A 25 0) (A 26 0) (A 27 0) (A 28 0) (A 29 0) (A 30 0) (A 31 0) (A 0) (A 1) (A 2) (A 3) (A 4) (A 5) (A 6) (A 7) (A 8) (A 9) (A 10) (A 11) (A 12) (A 13) (A 14) (A 15) (A 16) (A 17) (A 18) (A 19) (A 20) qa ql ra (A 21) (A 22) (A 32) (A 23)) (Y : ∀ (post : SY → Prop) (ra qa wq am rz ob fr st : Nat → Int32) (bl : Int32), rd_YL 8 n D A w Q ra qa wq am rz ob fr st bl → post (rd_tY (rd_sw B  5 t (nI q)) (nI w.length) ra qa wq am rz ob fr st bl) → wpY_step post (rd_tY A (nI w.length) ra qa wq am rz ob fr st bl) (nI t) op a b) : rd_O1 n D t p op a b a b A w Q := by
  obtain ⟨I, ht, h0, hp, n9, epl, hpl, ebo, hbo, hD, hT, hN⟩ := C
  obtain ⟨e1, e2, e3, e4, e5, e6, e7, e8, e9, e10, e11, e12, e13⟩ := hB
  refine ⟨n, rd_sw B  5 t (nI q), w, Q, rd_i_pl J ht hq (Or.inl (by rw [e5]; exact h0)), rd_Gr e1 e2 e3 e4 (fun s hs => ?_), fun _ => ?_, ?_, ?_⟩
  · show B 4 s ≠ 9
    rw [e5]; exact n9 s hs
  · show B 12 t = 0
    rw [e6]; exact hp
  · intro post ra qa ql hx H
    exact X post ra qa ql hx (H _ (rd_RX_mk hx))
  · intro post ra qa wq am rz ob fr st bl hy H
    refine Y post ra qa wq am rz ob fr st bl hy (H _ (rd_RY_mk ?_))
    have hy := rd_YL_D hy
    refine ⟨hy.r, hy.y2, hy.y3, ?_, ?_, ?_, ?_, ?_, ?_, ?_⟩
    · show rd_y4 8 n (B 4) (B 12) rz
      rw [e5, e6]; exact hy.y4
    · show rd_y5 n (B 18) (B 19) (B 20) fr
      rw [e7, e8, e9]; exact hy.y5
    · show rd_y6 n (D + 1) (B 18) (B 19) fr bl
      rw [e7, e8]; exact hy.y6
    · show rd_y7 n (B 18) (B 19) fr
      rw [e7, e8]; exact hy.y7
    · show rd_y8 n (B 9) (B 10) (B 4) ob fr
      rw [e10, e11, e5]; exact hy.y8
    · show rd_y9 (B 4) st
      rw [e5]; exact hy.y9
    · show rd_y10 (B 34) (B 24) am
      rw [e12, e13]; exact hy.y10
theorem rd_o_pl {op : Int32} {q : Nat} (C : rd_C n D t p b' A w Q) (B : rd_St) (hq : q ≤ 21) (J : rd_Inv n 8 (D + 1) B w Q) (hB : B 28 = A 28 ∧ B 30 = A 30 ∧ B 31 = A 31 ∧ B 29 = A 29 ∧ B 4 = A 4 ∧ B 12 = A 12 ∧ B 18 = A 18 ∧ B 19 = A 19 ∧ B 20 = A 20 ∧ B 9 = A 9 ∧ B 10 = A 10 ∧ B 34 = A 34 ∧ B 24 = A 24) (X : ∀ (post : SX → Prop) (ra qa ql : Nat → Int32), post (rd_tX (rd_sw B  5 t (nI q)) (nI w.length) ra qa ql) → wX_perform_119 post (nI t) (nI (p + 1)) op a b (nI w.length) (A 25 0) (A 26 0) (A 27 0) (A 28 0) (A 29 0) (A 30 0) (A 31 0) (A 0) (A 1) (A 2) (A 3) (A 4) (A 5) (A 6) (A 7) (A 8) (A 9) (A 10) (A 11) (A 12) (A 13) (A 14) (A 15) (A 16) (A 17) (A 18) (A 19) (A 20) qa ql ra (A 21) (A 22) (A 32) (A 23)) (Y : ∀ (post : SY → Prop) (ra qa wq am rz ob fr st : Nat → Int32) (bl : Int32), post (rd_tY (rd_sw B  5 t (nI q)) (nI w.length) ra qa wq am rz ob fr st bl) → wpY_step post (rd_tY A (nI w.length) ra qa wq am rz ob fr st bl) (nI t) op a b) : rd_O1 n D t p op a b a b A w Q :=
  rd_o_ply C B hq J hB (fun post ra qa ql _ H => X post ra qa ql H) (fun post ra qa wq am rz ob fr st bl _ H => Y post ra qa wq am rz ob fr st bl H)
theorem rd_note_k {A : rd_St} {c k : Nat} {x v : Int32} (h1 : k ≠  21) (h2 : k ≠  22) (h3 : k ≠  25) : rd_note A c x v k = A k := by
  unfold rd_note
  by_cases z : c < 60
  · rw [if_pos z, rd_sw_ap, if_neg h3, rd_sw_ap, if_neg h2, rd_sw_ap, if_neg h1]
  · rw [if_neg z, rd_sw_ap, if_neg h3]
theorem rd_i_note {e c : Nat} {x v : Int32} (I : rd_Inv n e (D + 1) A w Q) (hc : c ≤ D) : rd_Inv n e (D + 1) (rd_note A c x v) w Q := by
  unfold rd_note
  by_cases z : c < 60
  · rw [if_pos z]
    exact rd_i_nc (A := rd_sw (rd_sw A  21 c x)  22 c v) I (by omega)
  · rw [if_neg z]
    exact rd_i_nc I (by omega)
theorem rd_noteB {c : Nat} {x v : Int32} : (rd_note A c x v) 28 = A 28 ∧ (rd_note A c x v) 30 = A 30 ∧ (rd_note A c x v) 31 = A 31 ∧ (rd_note A c x v) 29 = A 29 ∧ (rd_note A c x v) 4 = A 4 ∧ (rd_note A c x v) 12 = A 12 ∧ (rd_note A c x v) 18 = A 18 ∧ (rd_note A c x v) 19 = A 19 ∧ (rd_note A c x v) 20 = A 20 ∧ (rd_note A c x v) 9 = A 9 ∧ (rd_note A c x v) 10 = A 10 ∧ (rd_note A c x v) 34 = A 34 ∧ (rd_note A c x v) 24 = A 24 := by
  refine ⟨?_, ?_, ?_, ?_, ?_, ?_, ?_, ?_, ?_, ?_, ?_, ?_, ?_⟩ <;> exact rd_note_k (by decide) (by decide) (by decide)
theorem rd_op0 (C : rd_C n D t p b' A w Q) (hp20 : p < 20) : rd_O1 n D t p 0 a b a b A w Q := by
  obtain ⟨I, ht, h0, hp, n9, epl, hpl, ebo, hbo, hD, hT, c, hc, ec⟩ := id C
  have hn := I.vN.2
  have ct : (nI t).toNatClampNeg = t := nI_clamp (by omega)
  have i8 : vp_in (nI t) 8 := vp_in_nI (by omega) (by omega)
  obtain ⟨d, hd, ed, _⟩ := rd_dpos I ht
  have epl' : (rd_note A c (nI t) a) 5 = A 5 := rd_note_k (by decide) (by decide) (by decide)
  refine rd_o_pl (q := p + 1) C (rd_note A c (nI t) a) (by omega) (rd_i_note I hc) rd_noteB ?_ ?_
  · intro post ra qa ql H
    exact br_f (by decide) <| br_f (by decide) <| br_t rfl <| rd_x_note ec (by omega) ⟨i8, nm_r (e' := upd ((rd_note A c (nI t) a) 5) t (nI (p + 1))) (by rw [ct]) H⟩
  · intro post ra qa wq am rz ob fr st bl H
    refine rd_y_st (d := d) (by omega) epl ed hd (by decide) (by decide) (by decide) (by decide) (by decide) (Or.inr (by decide)) ?_
    refine br_t (by decide) <| ?_
    refine br_f (by decide) <| br_f (by decide) <| br_t rfl <| rd_y_note ec (by omega) ?_
    exact br_f (by decide) ⟨i8, nm_r (e' := upd ((rd_note A c (nI t) a) 5) t (nI (p + 1))) (by rw [ct, nI_1]) H⟩
theorem rd_op1 (C : rd_C n D t p b' A w Q) (hp20 : p < 20) : rd_O1 n D t p 1 a b a b A w Q := by
  obtain ⟨I, ht, h0, hp, n9, epl, hpl, ebo, hbo, hD, hT, c, hc, ec⟩ := id C
  have hn := I.vN.2
  have ct : (nI t).toNatClampNeg = t := nI_clamp (by omega)
  have i8 : vp_in (nI t) 8 := vp_in_nI (by omega) (by omega)
  obtain ⟨d, hd, ed, _⟩ := rd_dpos I ht
  refine rd_o_pl (q := p + 1) C (rd_note A c (nI t) (A 6 t)) (by omega) (rd_i_note I hc) rd_noteB ?_ ?_
  · intro post ra qa ql H
    refine br_f (by decide) <| br_f (by decide) <| br_f (by decide) <| br_t rfl <| ⟨i8, ?_⟩
    rw [ct]
    exact rd_x_note ec (by omega) ⟨i8, nm_r (e' := upd ((rd_note A c (nI t) (A 6 t)) 5) t (nI (p + 1))) rfl H⟩
  · intro post ra qa wq am rz ob fr st bl H
    refine rd_y_st (d := d) (by omega) epl ed hd (by decide) (by decide) (by decide) (by decide) (by decide) (Or.inr (by decide)) ?_
    refine br_t (by decide) <| ?_
    refine br_f (by decide) <| br_f (by decide) <| br_f (by decide) <| br_t rfl <| ⟨i8, ?_⟩
    rw [ct]
    refine rd_y_note ec (by omega) ?_
    exact br_f (by decide) ⟨i8, nm_r (e' := upd ((rd_note A c (nI t) (A 6 t)) 5) t (nI (p + 1))) (by rw [ct, nI_1]) H⟩
theorem rd_op2 (C : rd_C n D t p b' A w Q) (hp20 : p < 20) : rd_O1 n D t p 2 a b a b A w Q := by
  obtain ⟨I, ht, h0, hp, n9, epl, hpl, ebo, hbo, hD, hT, hN⟩ := id C
  have hn := I.vN.2
  have ct : (nI t).toNatClampNeg = t := nI_clamp (by omega)
  have i8 : vp_in (nI t) 8 := vp_in_nI (by omega) (by omega)
  obtain ⟨d, hd, ed, _⟩ := rd_dpos I ht
  refine rd_o_pl (q := p + 1) C (rd_sw A  6 t a) (by omega) (rd_i_xs I) ⟨rfl, rfl, rfl, rfl, rfl, rfl, rfl, rfl, rfl, rfl, rfl, rfl, rfl⟩ ?_ ?_
  · intro post ra qa ql H
    exact br_f (by decide) <| br_f (by decide) <| br_f (by decide) <| br_f (by decide) <| br_t rfl <| ⟨i8, nm_r (e' := upd (A 6) t a) (by rw [ct]) ⟨i8, nm_r (e' := upd (A 5) t (nI (p + 1))) (by rw [ct]) H⟩⟩
  · intro post ra qa wq am rz ob fr st bl H
    refine rd_y_st (d := d) (by omega) epl ed hd (by decide) (by decide) (by decide) (by decide) (by decide) (Or.inr (by decide)) ?_
    refine br_t (by decide) <| ?_
    refine br_f (by decide) <| br_f (by decide) <| br_f (by decide) <| br_f (by decide) <| br_t rfl <| ⟨i8, nm_r (e' := upd (A 6) t a) (by rw [ct]) ?_⟩
    exact br_f (by decide) ⟨i8, nm_r (e' := upd (A 5) t (nI (p + 1))) (by rw [ct, nI_1]) H⟩
theorem rd_op3 (C : rd_C n D t p b' A w Q) (hp20 : p < 20) : rd_O1 n D t p 3 a b a b A w Q := by
  obtain ⟨I, ht, h0, hp, n9, epl, hpl, ebo, hbo, hD, hT, hN⟩ := id C
  have hn := I.vN.2
  have ct : (nI t).toNatClampNeg = t := nI_clamp (by omega)
  have i8 : vp_in (nI t) 8 := vp_in_nI (by omega) (by omega)
  obtain ⟨d, hd, ed, _⟩ := rd_dpos I ht
  refine rd_o_pl (q := p + 1) C (rd_sw A  6 t (A 6 t + a)) (by omega) (rd_i_xs I) ⟨rfl, rfl, rfl, rfl, rfl, rfl, rfl, rfl, rfl, rfl, rfl, rfl, rfl⟩ ?_ ?_
  · intro post ra qa ql H
    exact br_f (by decide) <| br_f (by decide) <| br_f (by decide) <| br_f (by decide) <| br_f (by decide) <| br_t rfl <| ⟨i8, i8, nm_r (e' := upd (A 6) t (A 6 t + a)) (by rw [ct]) ⟨i8, nm_r (e' := upd (A 5) t (nI (p + 1))) (by rw [ct]) H⟩⟩
  · intro post ra qa wq am rz ob fr st bl H
    refine rd_y_st (d := d) (by omega) epl ed hd (by decide) (by decide) (by decide) (by decide) (by decide) (Or.inr (by decide)) ?_
    refine br_t (by decide) <| ?_
    refine br_f (by decide) <| br_f (by decide) <| br_f (by decide) <| br_f (by decide) <| br_f (by decide) <| br_t rfl <| ⟨i8, i8, nm_r (e' := upd (A 6) t (A 6 t + a)) (by rw [ct]) ?_⟩
    exact br_f (by decide) ⟨i8, nm_r (e' := upd (A 5) t (nI (p + 1))) (by rw [ct, nI_1]) H⟩
theorem rd_op4 {j : Nat} (C : rd_C n D t p b' A w Q) (hj : j ≤ 20) (ea : a = nI j) : rd_O1 n D t p 4 a b a b A w Q := by
  obtain ⟨I, ht, h0, hp, n9, epl, hpl, ebo, hbo, hD, hT, hN⟩ := id C
  have hn := I.vN.2
  have ct : (nI t).toNatClampNeg = t := nI_clamp (by omega)
  have i8 : vp_in (nI t) 8 := vp_in_nI (by omega) (by omega)
  obtain ⟨d, hd, ed, _⟩ := rd_dpos I ht
  refine rd_o_pl (q := j) C A (by omega) I ⟨rfl, rfl, rfl, rfl, rfl, rfl, rfl, rfl, rfl, rfl, rfl, rfl, rfl⟩ ?_ ?_
  · intro post ra qa ql H
    exact br_f (by decide) <| br_f (by decide) <| br_f (by decide) <| br_f (by decide) <| br_f (by decide) <| br_f (by decide) <| br_t rfl <| ⟨i8, nm_r (e' := upd (A 5) t (nI j)) (by rw [ct, ea]) H⟩
  · intro post ra qa wq am rz ob fr st bl H
    refine rd_y_st (d := d) (by omega) epl ed hd (by decide) (by decide) (by decide) (by decide) (by decide) (Or.inr (by decide)) ?_
    exact br_f (by decide) <| br_f (by decide) <| br_t rfl <| ⟨i8, nm_r (e' := upd (A 5) t (nI j)) (by rw [ct, ea]) H⟩
theorem rd_op5 {j : Nat} (C : rd_C n D t p b' A w Q) (hp20 : p < 20) (hj : j ≤ 20) (ea : a = nI j) : rd_O1 n D t p 5 a b a b A w Q := by
  obtain ⟨I, ht, h0, hp, n9, epl, hpl, ebo, hbo, hD, hT, hN⟩ := id C
  have hn := I.vN.2
  have ct : (nI t).toNatClampNeg = t := nI_clamp (by omega)
  have i8 : vp_in (nI t) 8 := vp_in_nI (by omega) (by omega)
  obtain ⟨d, hd, ed, _⟩ := rd_dpos I ht
  by_cases hx : A 6 t = 0
  · refine rd_o_pl (q := j) C A (by omega) I ⟨rfl, rfl, rfl, rfl, rfl, rfl, rfl, rfl, rfl, rfl, rfl, rfl, rfl⟩ ?_ ?_
    · intro post ra qa ql H
      exact br_f (by decide) <| br_f (by decide) <| br_f (by decide) <| br_f (by decide) <| br_f (by decide) <| br_f (by decide) <| br_f (by decide) <| br_t rfl <| ⟨i8, br_t (by rw [ct]; exact hx) ⟨i8, nm_r (e' := upd (A 5) t (nI j)) (by rw [ct, ea]) H⟩⟩
    · intro post ra qa wq am rz ob fr st bl H
      refine rd_y_st (d := d) (by omega) epl ed hd (by decide) (by decide) (by decide) (by decide) (by decide) (Or.inr (by decide)) ?_
      refine br_f (by decide) <| br_f (by decide) <| br_f (by decide) <| br_t rfl <| ?_
      refine br_f (by decide) <| br_f (by decide) <| br_f (by decide) <| br_f (by decide) <| br_f (by decide) <| br_f (by decide) <| br_f (by decide) <| br_t rfl <| ?_
      exact br_t rfl ⟨i8, br_t (by rw [ct]; exact hx) ⟨i8, nm_r (e' := upd (A 5) t (nI j)) (by rw [ct, ea]) H⟩⟩
  · refine rd_o_pl (q := p + 1) C A (by omega) I ⟨rfl, rfl, rfl, rfl, rfl, rfl, rfl, rfl, rfl, rfl, rfl, rfl, rfl⟩ ?_ ?_
    · intro post ra qa ql H
      exact br_f (by decide) <| br_f (by decide) <| br_f (by decide) <| br_f (by decide) <| br_f (by decide) <| br_f (by decide) <| br_f (by decide) <| br_t rfl <| ⟨i8, br_f (by rw [ct]; exact hx) ⟨i8, nm_r (e' := upd (A 5) t (nI (p + 1))) (by rw [ct]) H⟩⟩
    · intro post ra qa wq am rz ob fr st bl H
      refine rd_y_st (d := d) (by omega) epl ed hd (by decide) (by decide) (by decide) (by decide) (by decide) (Or.inr (by decide)) ?_
      refine br_f (by decide) <| br_f (by decide) <| br_f (by decide) <| br_t rfl <| ?_
      refine br_f (by decide) <| br_f (by decide) <| br_f (by decide) <| br_f (by decide) <| br_f (by decide) <| br_f (by decide) <| br_f (by decide) <| br_t rfl <| ?_
      exact br_t rfl ⟨i8, br_f (by rw [ct]; exact hx) ⟨i8, nm_r (e' := upd (A 5) t (nI (p + 1))) (by rw [ct, nI_1]) H⟩⟩
theorem rd_op10 {j : Nat} (C : rd_C n D t p b' A w Q) (hp20 : p < 20) (hj : j < 100) (ea : a = nI j) : rd_O1 n D t p 10 a b a b A w Q := by
  obtain ⟨I, ht, h0, hp, n9, epl, hpl, ebo, hbo, hD, hT, hN⟩ := id C
  have hn := I.vN.2
  have ct : (nI t).toNatClampNeg = t := nI_clamp (by omega)
  have i8 : vp_in (nI t) 8 := vp_in_nI (by omega) (by omega)
  obtain ⟨d, hd, ed, _⟩ := rd_dpos I ht
  subst ea
  refine rd_o_pl (q := p + 1) C (rd_sw A  11 t (nI j)) (by omega) (rd_i_li I (by omega)) ⟨rfl, rfl, rfl, rfl, rfl, rfl, rfl, rfl, rfl, rfl, rfl, rfl, rfl⟩ ?_ ?_
  · intro post ra qa ql H
    exact br_f (by decide) <| br_f (by decide) <| br_f (by decide) <| br_f (by decide) <| br_f (by decide) <| br_f (by decide) <| br_f (by decide) <| br_f (by decide) <| br_f (by decide) <| br_f (by decide) <| br_f (by decide) <| br_f (by decide) <| br_t rfl <| ⟨i8, nm_r (e' := upd (A 11) t (nI j)) (by rw [ct]) ⟨i8, nm_r (e' := upd (A 5) t (nI (p + 1))) (by rw [ct]) H⟩⟩
  · intro post ra qa wq am rz ob fr st bl H
    refine rd_y_st (d := d) (by omega) epl ed hd (by decide) (by decide) (by decide) (by decide) (by decide) (Or.inr (by decide)) ?_
    refine br_f (by decide) <| br_f (by decide) <| br_f (by decide) <| br_f (by decide) <| br_f (by decide) <| br_f (by decide) <| br_f (by decide) <| br_f (by decide) <| br_t rfl <| ?_
    refine br_f (by decide) <| br_f (by decide) <| br_f (by decide) <| br_f (by decide) <| br_f (by decide) <| br_f (by decide) <| br_f (by decide) <| br_f (by decide) <| br_f (by decide) <| br_f (by decide) <| br_f (by decide) <| br_f (by decide) <| br_t rfl <| ⟨i8, nm_r (e' := upd (A 11) t (nI j)) (by rw [ct]) ?_⟩
    exact br_f (by decide) ⟨i8, nm_r (e' := upd (A 5) t (nI (p + 1))) (by rw [ct, nI_1]) H⟩
theorem rd_op16 (C : rd_C n D t p b' A w Q) (hp20 : p < 20) : rd_O1 n D t p 16 a b a b A w Q := by
  obtain ⟨I, ht, h0, hp, n9, epl, hpl, ebo, hbo, hD, hT, hN⟩ := id C
  have hn := I.vN.2
  have ct : (nI t).toNatClampNeg = t := nI_clamp (by omega)
  have i8 : vp_in (nI t) 8 := vp_in_nI (by omega) (by omega)
  obtain ⟨d, hd, ed, _⟩ := rd_dpos I ht
  refine rd_o_pl (q := p + 1) C A (by omega) I ⟨rfl, rfl, rfl, rfl, rfl, rfl, rfl, rfl, rfl, rfl, rfl, rfl, rfl⟩ ?_ ?_
  · intro post ra qa ql H
    exact br_f (by decide) <| br_f (by decide) <| br_f (by decide) <| br_f (by decide) <| br_f (by decide) <| br_f (by decide) <| br_f (by decide) <| br_f (by decide) <| br_f (by decide) <| br_f (by decide) <| br_f (by decide) <| br_f (by decide) <| br_f (by decide) <| br_f (by decide) <| br_f (by decide) <| br_f (by decide) <| br_f (by decide) <| br_f (by decide) <| br_t rfl <| ⟨i8, nm_r (e' := upd (A 5) t (nI (p + 1))) (by rw [ct]) H⟩
  · intro post ra qa wq am rz ob fr st bl H
    refine rd_y_st (d := d) (by omega) epl ed hd (by decide) (by decide) (by decide) (by decide) (by decide) (Or.inr (by decide)) ?_
    refine br_f (by decide) <| br_f (by decide) <| br_f (by decide) <| br_f (by decide) <| br_f (by decide) <| br_f (by decide) <| br_f (by decide) <| br_f (by decide) <| br_f (by decide) <| br_f (by decide) <| br_f (by decide) <| br_f (by decide) <| br_f (by decide) <| br_f (by decide) <| br_t rfl <| ?_
    refine br_f (by decide) <| br_f (by decide) <| br_f (by decide) <| br_f (by decide) <| br_f (by decide) <| br_f (by decide) <| br_f (by decide) <| br_f (by decide) <| br_f (by decide) <| br_f (by decide) <| br_f (by decide) <| br_f (by decide) <| br_f (by decide) <| br_f (by decide) <| br_f (by decide) <| br_f (by decide) <| br_f (by decide) <| br_f (by decide) <| br_t rfl <| ?_
    exact br_f (by decide) ⟨i8, nm_r (e' := upd (A 5) t (nI (p + 1))) (by rw [ct, nI_1]) H⟩
theorem rd_op17 (C : rd_C n D t p b' A w Q) (hp20 : p < 20) : rd_O1 n D t p 17 a b a b A w Q := by
  obtain ⟨I, ht, h0, hp, n9, epl, hpl, ebo, hbo, hD, hT, hN⟩ := id C
  have hn := I.vN.2
  have ct : (nI t).toNatClampNeg = t := nI_clamp (by omega)
  have i8 : vp_in (nI t) 8 := vp_in_nI (by omega) (by omega)
  obtain ⟨d, hd, ed, _⟩ := rd_dpos I ht
  refine rd_o_pl (q := p + 1) C A (by omega) I ⟨rfl, rfl, rfl, rfl, rfl, rfl, rfl, rfl, rfl, rfl, rfl, rfl, rfl⟩ ?_ ?_
  · intro post ra qa ql H
    exact br_f (by decide) <| br_f (by decide) <| br_f (by decide) <| br_f (by decide) <| br_f (by decide) <| br_f (by decide) <| br_f (by decide) <| br_f (by decide) <| br_f (by decide) <| br_f (by decide) <| br_f (by decide) <| br_f (by decide) <| br_f (by decide) <| br_f (by decide) <| br_f (by decide) <| br_f (by decide) <| br_f (by decide) <| br_f (by decide) <| br_f (by decide) <| br_t rfl <| ⟨i8, nm_r (e' := upd (A 5) t (nI (p + 1))) (by rw [ct]) H⟩
  · intro post ra qa wq am rz ob fr st bl H
    refine rd_y_st (d := d) (by omega) epl ed hd (by decide) (by decide) (by decide) (by decide) (by decide) (Or.inr (by decide)) ?_
    refine br_f (by decide) <| br_f (by decide) <| br_f (by decide) <| br_f (by decide) <| br_f (by decide) <| br_f (by decide) <| br_f (by decide) <| br_f (by decide) <| br_f (by decide) <| br_f (by decide) <| br_f (by decide) <| br_f (by decide) <| br_f (by decide) <| br_f (by decide) <| br_f (by decide) <| br_t rfl <| ?_
    refine br_f (by decide) <| br_f (by decide) <| br_f (by decide) <| br_f (by decide) <| br_f (by decide) <| br_f (by decide) <| br_f (by decide) <| br_f (by decide) <| br_f (by decide) <| br_f (by decide) <| br_f (by decide) <| br_f (by decide) <| br_f (by decide) <| br_f (by decide) <| br_f (by decide) <| br_f (by decide) <| br_f (by decide) <| br_f (by decide) <| br_f (by decide) <| br_t rfl <| ?_
    exact br_f (by decide) ⟨i8, nm_r (e' := upd (A 5) t (nI (p + 1))) (by rw [ct, nI_1]) H⟩
theorem rd_op18 (C : rd_C n D t p b' A w Q) (hp20 : p < 20) : rd_O1 n D t p 18 a b a b A w Q := by
  obtain ⟨I, ht, h0, hp, n9, epl, hpl, ebo, hbo, hD, hT, hN⟩ := id C
  have hn := I.vN.2
  have ct : (nI t).toNatClampNeg = t := nI_clamp (by omega)
  have i8 : vp_in (nI t) 8 := vp_in_nI (by omega) (by omega)
  obtain ⟨d, hd, ed, _⟩ := rd_dpos I ht
  refine rd_o_pl (q := p + 1) C A (by omega) I ⟨rfl, rfl, rfl, rfl, rfl, rfl, rfl, rfl, rfl, rfl, rfl, rfl, rfl⟩ ?_ ?_
  · intro post ra qa ql H
    exact br_f (by decide) <| br_f (by decide) <| br_f (by decide) <| br_f (by decide) <| br_f (by decide) <| br_f (by decide) <| br_f (by decide) <| br_f (by decide) <| br_f (by decide) <| br_f (by decide) <| br_f (by decide) <| br_f (by decide) <| br_f (by decide) <| br_f (by decide) <| br_f (by decide) <| br_f (by decide) <| br_f (by decide) <| br_f (by decide) <| br_f (by decide) <| br_f (by decide) <| br_t rfl <| ⟨i8, nm_r (e' := upd (A 5) t (nI (p + 1))) (by rw [ct]) H⟩
  · intro post ra qa wq am rz ob fr st bl H
    refine rd_y_st (d := d) (by omega) epl ed hd (by decide) (by decide) (by decide) (by decide) (by decide) (Or.inr (by decide)) ?_
    refine br_f (by decide) <| br_f (by decide) <| br_f (by decide) <| br_f (by decide) <| br_f (by decide) <| br_f (by decide) <| br_f (by decide) <| br_f (by decide) <| br_f (by decide) <| br_f (by decide) <| br_f (by decide) <| br_f (by decide) <| br_f (by decide) <| br_f (by decide) <| br_f (by decide) <| br_f (by decide) <| br_t rfl <| ?_
    refine br_f (by decide) <| br_f (by decide) <| br_f (by decide) <| br_f (by decide) <| br_f (by decide) <| br_f (by decide) <| br_f (by decide) <| br_f (by decide) <| br_f (by decide) <| br_f (by decide) <| br_f (by decide) <| br_f (by decide) <| br_f (by decide) <| br_f (by decide) <| br_f (by decide) <| br_f (by decide) <| br_f (by decide) <| br_f (by decide) <| br_f (by decide) <| br_f (by decide) <| br_t rfl <| ?_
    exact br_f (by decide) ⟨i8, nm_r (e' := upd (A 5) t (nI (p + 1))) (by rw [ct, nI_1]) H⟩
theorem rd_op19 (C : rd_C n D t p b' A w Q) (hp20 : p < 20) : rd_O1 n D t p 19 a b a b A w Q := by
  obtain ⟨I, ht, h0, hp, n9, epl, hpl, ebo, hbo, hD, hT, hN⟩ := id C
  have hn := I.vN.2
  have ct : (nI t).toNatClampNeg = t := nI_clamp (by omega)
  have i8 : vp_in (nI t) 8 := vp_in_nI (by omega) (by omega)
  obtain ⟨d, hd, ed, _⟩ := rd_dpos I ht
  refine rd_o_pl (q := p + 1) C A (by omega) I ⟨rfl, rfl, rfl, rfl, rfl, rfl, rfl, rfl, rfl, rfl, rfl, rfl, rfl⟩ ?_ ?_
  · intro post ra qa ql H
    exact br_f (by decide) <| br_f (by decide) <| br_f (by decide) <| br_f (by decide) <| br_f (by decide) <| br_f (by decide) <| br_f (by decide) <| br_f (by decide) <| br_f (by decide) <| br_f (by decide) <| br_f (by decide) <| br_f (by decide) <| br_f (by decide) <| br_f (by decide) <| br_f (by decide) <| br_f (by decide) <| br_f (by decide) <| br_f (by decide) <| br_f (by decide) <| br_f (by decide) <| br_f (by decide) <| br_t rfl <| ⟨i8, nm_r (e' := upd (A 5) t (nI (p + 1))) (by rw [ct]) H⟩
  · intro post ra qa wq am rz ob fr st bl H
    refine rd_y_st (d := d) (by omega) epl ed hd (by decide) (by decide) (by decide) (by decide) (by decide) (Or.inr (by decide)) ?_
    refine br_f (by decide) <| br_f (by decide) <| br_f (by decide) <| br_f (by decide) <| br_f (by decide) <| br_f (by decide) <| br_f (by decide) <| br_f (by decide) <| br_f (by decide) <| br_f (by decide) <| br_f (by decide) <| br_f (by decide) <| br_f (by decide) <| br_f (by decide) <| br_f (by decide) <| br_f (by decide) <| br_f (by decide) <| br_t rfl <| ?_
    refine br_f (by decide) <| br_f (by decide) <| br_f (by decide) <| br_f (by decide) <| br_f (by decide) <| br_f (by decide) <| br_f (by decide) <| br_f (by decide) <| br_f (by decide) <| br_f (by decide) <| br_f (by decide) <| br_f (by decide) <| br_f (by decide) <| br_f (by decide) <| br_f (by decide) <| br_f (by decide) <| br_f (by decide) <| br_f (by decide) <| br_f (by decide) <| br_f (by decide) <| br_f (by decide) <| br_t rfl <| ?_
    exact br_f (by decide) ⟨i8, nm_r (e' := upd (A 5) t (nI (p + 1))) (by rw [ct, nI_1]) H⟩
theorem rd_op20 (C : rd_C n D t p b' A w Q) (hp20 : p < 20) : rd_O1 n D t p 20 a b a b A w Q := by
  obtain ⟨I, ht, h0, hp, n9, epl, hpl, ebo, hbo, hD, hT, hN⟩ := id C
  have hn := I.vN.2
  have ct : (nI t).toNatClampNeg = t := nI_clamp (by omega)
  have i8 : vp_in (nI t) 8 := vp_in_nI (by omega) (by omega)
  obtain ⟨d, hd, ed, _⟩ := rd_dpos I ht
  refine rd_o_pl (q := p + 1) C A (by omega) I ⟨rfl, rfl, rfl, rfl, rfl, rfl, rfl, rfl, rfl, rfl, rfl, rfl, rfl⟩ ?_ ?_
  · intro post ra qa ql H
    exact br_f (by decide) <| br_f (by decide) <| br_f (by decide) <| br_f (by decide) <| br_f (by decide) <| br_f (by decide) <| br_f (by decide) <| br_f (by decide) <| br_f (by decide) <| br_f (by decide) <| br_f (by decide) <| br_f (by decide) <| br_f (by decide) <| br_f (by decide) <| br_f (by decide) <| br_f (by decide) <| br_f (by decide) <| br_f (by decide) <| br_f (by decide) <| br_f (by decide) <| br_f (by decide) <| br_f (by decide) <| br_t rfl <| ⟨i8, nm_r (e' := upd (A 5) t (nI (p + 1))) (by rw [ct]) H⟩
  · intro post ra qa wq am rz ob fr st bl H
    refine rd_y_st (d := d) (by omega) epl ed hd (by decide) (by decide) (by decide) (by decide) (by decide) (Or.inr (by decide)) ?_
    refine br_f (by decide) <| br_f (by decide) <| br_f (by decide) <| br_f (by decide) <| br_f (by decide) <| br_f (by decide) <| br_f (by decide) <| br_f (by decide) <| br_f (by decide) <| br_f (by decide) <| br_f (by decide) <| br_f (by decide) <| br_f (by decide) <| br_f (by decide) <| br_f (by decide) <| br_f (by decide) <| br_f (by decide) <| br_f (by decide) <| br_t rfl <| ?_
    refine br_f (by decide) <| br_f (by decide) <| br_f (by decide) <| br_f (by decide) <| br_f (by decide) <| br_f (by decide) <| br_f (by decide) <| br_f (by decide) <| br_f (by decide) <| br_f (by decide) <| br_f (by decide) <| br_f (by decide) <| br_f (by decide) <| br_f (by decide) <| br_f (by decide) <| br_f (by decide) <| br_f (by decide) <| br_f (by decide) <| br_f (by decide) <| br_f (by decide) <| br_f (by decide) <| br_f (by decide) <| br_t rfl <| ?_
    exact br_f (by decide) ⟨i8, nm_r (e' := upd (A 5) t (nI (p + 1))) (by rw [ct, nI_1]) H⟩
end
