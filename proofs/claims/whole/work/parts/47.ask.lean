/-! the calls that ask -/
theorem rd_x_w1 {post : Int32 → Prop} {u : SX} {j n : Nat} {hi : Int32} (hj : j < n) (hn : n < 1000) (hh : hi = nI n - 1) (H : post 1) : wpX_within post u (nI j) 0 hi := by
  obtain ⟨m, rfl⟩ : ∃ m, n = m + 1 := ⟨n - 1, by omega⟩
  rw [hh, nI_pred]
  exact rd_x_within (fun _ _ => H) (fun z => absurd ⟨nI_pos' (by omega), nI_le (by omega) (by omega)⟩ z)
theorem rd_x_w0 {post : Int32 → Prop} {u : SX} {n : Nat} {a hi : Int32} (hn : n < 1000) (hh : hi = nI n - 1) (no : ¬ ∃ j, j < n ∧ a = nI j) (H : post 0) : wpX_within post u a 0 hi := by
  refine rd_x_within (fun a1 a2 => absurd ?_ no) (fun _ => H)
  obtain ⟨j, hj, e⟩ := nI_of (Int32.not_lt.mpr a1)
  refine ⟨j, ?_, e⟩
  rw [e, hh] at a2
  cases n with
  | zero =>
    rw [Int32.le_iff_toInt_le, nI_toInt hj] at a2
    have : (nI 0 - 1).toInt = -1 := by decide
    omega
  | succ m =>
    rw [nI_pred, nI_leI hj (by omega)] at a2
    omega
theorem rd_y_w1 {post : Int32 → Prop} {j n : Nat} {hi : Int32} (hj : j < n) (hn : n < 1000) (hh : hi = nI n) (H : post 1) : wpY_in post (nI j) hi := by
  rw [hh]
  exact br_f (nI_pos (by omega)) (br_f (nI_ge hj (by omega)) H)
theorem rd_y_w0 {post : Int32 → Prop} {n : Nat} {a hi : Int32} (hn : n < 1000) (hh : hi = nI n) (no : ¬ ∃ j, j < n ∧ a = nI j) (H : post 0) : wpY_in post a hi := by
  refine br_c (fun _ => H) (fun z => br_t ?_ H)
  obtain ⟨j, hj, e⟩ := nI_of z
  rw [hh, e]
  exact nI_le (Nat.le_of_not_lt (fun y => no ⟨j, y, e⟩)) hj
theorem i_vc_task {k : Nat} {u : SX} {v : SY} (I : i_Rel k u v) (hk : k + 5 ≤ 2560) (v1 : Int32) (v2 : Int32) : wpX_task (fun r => wpY_task (fun r' => r' = r ∧ i_Rel (k + 5) u v) v v1 v2) u v1 v2 := by
  have I' : i_Rel (k + 5) u v := I
  obtain ⟨n, A, w, Q, hG, hN, hw, hQ, n9, ⟨ra, qa, ql, rfl, hx⟩, ra', qa', wq, am, rz, ob, fr, st, bl, rfl, hr, h2, h3, h9⟩ := I
  have hn := hN.2
  unfold wpX_task
  by_cases e : ∃ t, t < n ∧ v1 = nI t
  · obtain ⟨t, ht, rfl⟩ := e
    have ct : (nI t).toNatClampNeg = t := nI_clamp (by omega)
    have i8 : vp_in (nI t) 8 := vp_in_nI (by omega) (by omega)
    have es : st t = A 4 t := by rw [h9 t]; exact rd_cv_n (n9 t ht)
    refine rd_x_w1 ht (by omega) (by rw [hN.1]) (br_f (by decide) ?_)
    refine br_c (fun y => by show wpY_task _ _ _ _; unfold wpY_task; exact rd_y_w1 ht (by omega) hN.1 (br_f (by decide) (br_t y ⟨rfl, I'⟩))) (fun y => br_c (fun x => by show wpY_task _ _ _ _; unfold wpY_task; exact rd_y_w1 ht (by omega) hN.1 (br_f (by decide) (br_f y (br_t x ⟨rfl, I'⟩)))) (fun x => ?_))
    refine br_c (fun e0 => ⟨i8, by show wpY_task _ _ _ _; unfold wpY_task; exact rd_y_w1 ht (by omega) hN.1 (br_f (by decide) (br_f y (br_f x (br_t e0 ⟨i8, by rw [ct]; exact es, I'⟩))))⟩) (fun e0 => ?_)
    refine br_c (fun e1 => ⟨i8, by show wpY_task _ _ _ _; unfold wpY_task; exact rd_y_w1 ht (by omega) hN.1 (br_f (by decide) (br_f y (br_f x (br_f e0 (br_t e1 ⟨i8, rfl, I'⟩)))))⟩) (fun e1 => ?_)
    refine br_c (fun e2 => ⟨i8, by show wpY_task _ _ _ _; unfold wpY_task; exact rd_y_w1 ht (by omega) hN.1 (br_f (by decide) (br_f y (br_f x (br_f e0 (br_f e1 (br_t e2 ⟨i8, rfl, I'⟩))))))⟩) (fun e2 => ?_)
    refine br_c (fun e3 => ⟨i8, by show wpY_task _ _ _ _; unfold wpY_task; exact rd_y_w1 ht (by omega) hN.1 (br_f (by decide) (br_f y (br_f x (br_f e0 (br_f e1 (br_f e2 (br_t e3 ⟨i8, rfl, I'⟩)))))))⟩) (fun e3 => ?_)
    refine br_c (fun e4 => ⟨i8, by show wpY_task _ _ _ _; unfold wpY_task; exact rd_y_w1 ht (by omega) hN.1 (br_f (by decide) (br_f y (br_f x (br_f e0 (br_f e1 (br_f e2 (br_f e3 (br_t e4 ⟨i8, rfl, I'⟩))))))))⟩) (fun e4 => ?_)
    refine br_c (fun e5 => ⟨i8, by show wpY_task _ _ _ _; unfold wpY_task; exact rd_y_w1 ht (by omega) hN.1 (br_f (by decide) (br_f y (br_f x (br_f e0 (br_f e1 (br_f e2 (br_f e3 (br_f e4 (br_t e5 ⟨i8, rfl, I'⟩)))))))))⟩) (fun e5 => ?_)
    refine br_c (fun e6 => ⟨i8, by show wpY_task _ _ _ _; unfold wpY_task; exact rd_y_w1 ht (by omega) hN.1 (br_f (by decide) (br_f y (br_f x (br_f e0 (br_f e1 (br_f e2 (br_f e3 (br_f e4 (br_f e5 (br_t e6 ⟨i8, rfl, I'⟩))))))))))⟩) (fun e6 => ?_)
    refine br_c (fun e7 => ⟨i8, by show wpY_task _ _ _ _; unfold wpY_task; exact rd_y_w1 ht (by omega) hN.1 (br_f (by decide) (br_f y (br_f x (br_f e0 (br_f e1 (br_f e2 (br_f e3 (br_f e4 (br_f e5 (br_f e6 (br_t e7 ⟨i8, rfl, I'⟩)))))))))))⟩) (fun e7 => ?_)
    trivial
  · exact rd_x_w0 (n := n) (by omega) (by rw [hN.1]) e (br_t rfl (by show wpY_task _ _ _ _; unfold wpY_task; exact rd_y_w0 (n := n) (by omega) hN.1 e (br_t rfl ⟨rfl, I'⟩)))
theorem i_vc_queued {k : Nat} {u : SX} {v : SY} (I : i_Rel k u v) (hk : k + 5 ≤ 2560) (v1 : Int32) (v2 : Int32) (v3 : Int32) : wpX_queued (fun r => wpY_queued (fun r' => r' = r ∧ i_Rel (k + 5) u v) v v1 v2 v3) u v1 v2 v3 := by
  have I' : i_Rel (k + 5) u v := I
  obtain ⟨n, A, w, Q, hG, hN, hw, hQ, n9, ⟨ra, qa, ql, rfl, hx⟩, ra', qa', wq, am, rz, ob, fr, st, bl, rfl, hr, h2, h3, h9⟩ := I
  have hn := hN.2
  unfold wpX_queued
  by_cases e : ∃ t, t < n ∧ v1 = nI t
  · obtain ⟨t, ht, rfl⟩ := e
    refine rd_x_w1 ht (by omega) (by rw [hN.1]) (br_f (by decide) ?_)
    by_cases e : ∃ t, t < 3 ∧ v2 = nI t
    · obtain ⟨m, hm, rfl⟩ := e
      have ix : nI t * 3 + nI m = nI (t * 3 + m) := rd_ix' 3 m t _ rfl
      have iy : 3 * nI t + nI m = nI (t * 3 + m) := rd_ix 3 m t _ rfl
      have cq : (nI (t * 3 + m)).toNatClampNeg = t * 3 + m := nI_clamp (by omega)
      have i24 : vp_in (nI (t * 3 + m)) 24 := vp_in_nI (by omega) (by omega)
      obtain ⟨lx, vx⟩ := hx.2 (t * 3 + m) (by omega)
      obtain ⟨ly, vy⟩ := h3 (t * 3 + m) (by omega)
      have l8 := hQ (t * 3 + m)
      refine rd_x_w1 (n := 3) hm (by omega) (by decide) (br_f (by decide) (nm_r ix ⟨i24, ?_⟩))
      rw [cq]
      by_cases e : ∃ i, i < (Q (t * 3 + m)).length ∧ v3 = nI i
      · obtain ⟨i, hi, rfl⟩ := e
        have jx : nI (t * 3 + m) * 8 + nI i = nI ((t * 3 + m) * 8 + i) := rd_ix' 8 i (t * 3 + m) _ rfl
        have jy : 8 * nI (t * 3 + m) + nI i = nI ((t * 3 + m) * 8 + i) := rd_ix 8 i (t * 3 + m) _ rfl
        have cj : (nI ((t * 3 + m) * 8 + i)).toNatClampNeg = (t * 3 + m) * 8 + i := nI_clamp (by omega)
        have i192 : vp_in (nI ((t * 3 + m) * 8 + i)) 192 := vp_in_nI (by omega) (by omega)
        have g := List.getElem?_eq_getElem hi
        have gx := rd_LV_get vx g
        have gy := rd_LV_get vy g
        rw [Nat.mul_comm 8] at gx gy
        refine rd_x_w1 hi (by omega) (by rw [lx]) (br_f (by decide) ?_)
        rw [jx, cj]
        refine ⟨i192, ?_⟩
        show wpY_queued _ _ _ _ _
        unfold wpY_queued
        refine rd_y_w1 ht (by omega) hN.1 (br_f (by decide) (rd_y_w1 (n := 3) hm (by omega) rfl (br_f (by decide) ?_)))
        rw [iy, cq]
        refine ⟨i24, rd_y_w1 hi (by omega) ly (br_f (by decide) ?_)⟩
        rw [jy, cj]
        exact ⟨i192, gy.trans gx.symm, I'⟩
      · refine rd_x_w0 (n := (Q (t * 3 + m)).length) (by omega) (by rw [lx]) e (br_t rfl ?_)
        show wpY_queued _ _ _ _ _
        unfold wpY_queued
        refine rd_y_w1 ht (by omega) hN.1 (br_f (by decide) (rd_y_w1 (n := 3) hm (by omega) rfl (br_f (by decide) ?_)))
        rw [iy, cq]
        exact ⟨i24, rd_y_w0 (by omega) ly e (br_t rfl ⟨rfl, I'⟩)⟩
    · exact rd_x_w0 (n := 3) (by omega) (by decide) e (br_t rfl (by show wpY_queued _ _ _ _ _; unfold wpY_queued; exact rd_y_w1 ht (by omega) hN.1 (br_f (by decide) (rd_y_w0 (n := 3) (by omega) rfl e (br_t rfl ⟨rfl, I'⟩)))))
  · exact rd_x_w0 (n := n) (by omega) (by rw [hN.1]) e (br_t rfl (by show wpY_queued _ _ _ _ _; unfold wpY_queued; exact rd_y_w0 (n := n) (by omega) hN.1 e (br_t rfl ⟨rfl, I'⟩)))
theorem i_vc_noted {k : Nat} {u : SX} {v : SY} (I : i_Rel k u v) (hk : k + 5 ≤ 2560) (v1 : Int32) (v2 : Int32) : wpX_noted (fun r => wpY_noted (fun r' => r' = r ∧ i_Rel (k + 5) u v) v v1 v2) u v1 v2 := by
  have I' : i_Rel (k + 5) u v := I
  obtain ⟨n, A, w, Q, hG, hN, hw, hQ, n9, ⟨ra, qa, ql, rfl, hx⟩, ra', qa', wq, am, rz, ob, fr, st, bl, rfl, hr, h2, h3, h9⟩ := I
  unfold wpX_noted
  by_cases e : ∃ j, j < 60 ∧ v1 = nI j
  · obtain ⟨j, hj, rfl⟩ := e
    have i60 : vp_in (nI j) 60 := vp_in_nI hj (by omega)
    refine rd_x_w1 (n := 60) hj (by omega) (by decide) (br_f (by decide) ?_)
    have yy : ∀ {post : Int32 → Prop}, nI j < A 25 0 → ((v2 = 0 → post (A 21 (nI j).toNatClampNeg)) ∧ (v2 ≠ 0 → (v2 = 1 → post (A 22 (nI j).toNatClampNeg)) ∧ (v2 ≠ 1 → post 0))) → wpY_noted post (rd_tY A (nI w.length) ra' qa' wq am rz ob fr st bl) (nI j) v2 := by
      intro post hl H
      have H' : ((1 : Int32) = 0 → post 0) ∧ (¬ (1 : Int32) = 0 → (v2 = 0 → vp_in (nI j) 60 ∧ post (A 21 (nI j).toNatClampNeg)) ∧ (¬ v2 = 0 → (v2 = 1 → vp_in (nI j) 60 ∧ post (A 22 (nI j).toNatClampNeg)) ∧ (¬ v2 = 1 → post 0))) := br_f (by decide) ⟨fun a => ⟨i60, H.1 a⟩, fun a => ⟨fun b => ⟨i60, (H.2 a).1 b⟩, fun b => (H.2 a).2 b⟩⟩
      exact br_c (fun _ => rd_y_w1 (n := 60) hj (by omega) rfl H') (fun _ => br_f (nI_pos (by omega)) (br_f (Int32.not_le.mpr hl) H'))
    refine br_c (fun hl => br_c (fun a => ⟨i60, yy hl ⟨fun _ => ⟨rfl, I'⟩, fun z => absurd a z⟩⟩) (fun a => br_c (fun b => ⟨i60, yy hl ⟨fun z => absurd z a, fun _ => ⟨fun _ => ⟨rfl, I'⟩, fun z => absurd b z⟩⟩⟩) (fun b => yy hl ⟨fun z => absurd z a, fun _ => ⟨fun z => absurd z b, fun _ => ⟨rfl, I'⟩⟩⟩))) (fun hl => ?_)
    refine br_f (fun z => hl ?_) (br_f (nI_pos (by omega)) (br_t (Int32.not_lt.mp hl) (br_t rfl ⟨rfl, I'⟩)))
    exact Int32.lt_of_lt_of_le (nI_lt (b := 60) hj (by omega)) z
  · refine rd_x_w0 (n := 60) (by omega) (by decide) e (br_t rfl (br_c (fun _ => rd_y_w0 (n := 60) (by omega) rfl e (br_t rfl ⟨rfl, I'⟩)) (fun z => br_c (fun _ => br_t rfl ⟨rfl, I'⟩) (fun y => br_t ?_ (br_t rfl ⟨rfl, I'⟩)))))
    obtain ⟨j, hj, ej⟩ := nI_of y
    have : (60 : Int32) ≤ v1 := by rw [ej]; exact nI_le (a := 60) (Nat.le_of_not_lt (fun x => e ⟨j, x, ej⟩)) hj
    exact Int32.le_of_lt (Int32.lt_of_lt_of_le (Int32.not_le.mp z) this)
theorem i_vc_ready {k : Nat} {u : SX} {v : SY} (I : i_Rel k u v) (hk : k + 5 ≤ 2560) (v1 : Int32) : wpX_ready (fun r => wpY_ready (fun r' => r' = r ∧ i_Rel (k + 5) u v) v v1) u v1 := by
  have I' : i_Rel (k + 5) u v := I
  obtain ⟨n, A, w, Q, hG, hN, hw, hQ, n9, ⟨ra, qa, ql, rfl, hx⟩, ra', qa', wq, am, rz, ob, fr, st, bl, rfl, hr, h2, h3, h9⟩ := I
  unfold wpX_ready
  by_cases e : ∃ j, j < w.length ∧ v1 = nI j
  · obtain ⟨j, hj, rfl⟩ := e
    have cj : (nI j).toNatClampNeg = j := nI_clamp (by omega)
    have i8 : vp_in (nI j) 8 := vp_in_nI (by omega) (by omega)
    have g := List.getElem?_eq_getElem hj
    have gx := rd_LV_get hx.1 g
    have gy := rd_LV_get hr g
    rw [Nat.zero_add] at gx gy
    refine rd_x_w1 hj (by omega) rfl (br_f (by decide) ⟨i8, ?_⟩)
    show wpY_ready _ _ _
    unfold wpY_ready
    refine rd_y_w1 hj (by omega) rfl (br_f (by decide) ⟨i8, ?_, I'⟩)
    rw [cj]
    exact gy.trans gx.symm
  · exact rd_x_w0 (by omega) rfl e (br_t rfl (by show wpY_ready _ _ _; unfold wpY_ready; exact rd_y_w0 (by omega) rfl e (br_t rfl ⟨rfl, I'⟩)))
