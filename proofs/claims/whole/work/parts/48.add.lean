/-! clear, add -/
theorem i_vc_clear {k : Nat} {u : SX} {v : SY} (I : i_Rel k u v) (hk : k + 5 ≤ 2560) (v1 : Int32) : wpX_clear (fun r u' => wpY_clear (fun r' v' => r' = r ∧ i_Rel (k + 5) u' v') v v1) u v1 := by
  have I' : i_Rel (k + 5) u v := I
  obtain ⟨n, A, w, Q, hG, hN, hw, hQ, n9, ⟨ra, qa, ql, rfl, hx⟩, ra', qa', wq, am, rz, ob, fr, st, bl, rfl, hr, h2, h3, h9⟩ := I
  unfold wpX_clear
  by_cases e : ∃ t, t < 4 ∧ v1 = nI t
  · obtain ⟨t, ht, rfl⟩ := e
    have ct : (nI t).toNatClampNeg = t := nI_clamp (by omega)
    have i4 : vp_in (nI t) 4 := vp_in_nI ht (by omega)
    refine rd_x_w1 (n := 4) ht (by omega) (by decide) (br_f (by decide) ⟨i4, nm_r (e' := A 3 t) (by rw [ct]) ⟨i4, nm_r (e' := upd (A 3) t 0) (by rw [ct]) ?_⟩⟩)
    show wpY_clear _ _ _
    unfold wpY_clear
    refine rd_y_w1 (n := 4) ht (by omega) rfl (br_f (by decide) ⟨i4, nm_r (e' := A 3 t) (by rw [ct]) ⟨i4, nm_r (e' := upd (A 3) t 0) (by rw [ct]) ?_⟩⟩)
    exact ⟨rfl, n, rd_sw A  3 t 0, w, Q, ⟨rd_rng_u (j := 0) hG.1 (by omega), hG.2⟩, hN, hw, hQ, n9, ⟨ra, qa, ql, rfl, hx⟩, ra', qa', wq, am, rz, ob, fr, st, bl, rfl, hr, h2, h3, h9⟩
  · exact rd_x_w0 (n := 4) (by omega) (by decide) e (br_t rfl (by show wpY_clear _ _ _; unfold wpY_clear; exact rd_y_w0 (n := 4) (by omega) rfl e (br_t rfl ⟨rfl, I'⟩)))
theorem rd_x_fits0 {post : Int32 → Prop} {A : rd_St} {rl : Int32} {ra qa ql : Nat → Int32} {o a b : Int32} (no : ¬ ∃ j, j < 26 ∧ o = nI j) (H : post 0) : wpX_fits post (rd_tX A rl ra qa ql) o a b := by
  unfold wpX_fits
  refine br_c (fun _ => rd_x_w0 (n := 26) (by omega) (by decide) no ⟨rfl, H⟩) (fun y => br_c (fun _ => rd_x_w0 (n := 26) (by omega) (by decide) no ⟨rfl, H⟩) (fun z => absurd ?_ no))
  have y1 := Int32.not_lt.mp y
  have z1 := Int32.not_lt.mp z
  rw [Int32.le_iff_toInt_le] at y1 z1
  have e1 : (4 : Int32).toInt = 4 := by decide
  have e2 : (24 : Int32).toInt = 24 := by decide
  have e0 : (0 : Int32).toInt = 0 := by decide
  obtain ⟨j, hj, ej⟩ := nI_of (x := o) (by rw [Int32.lt_iff_toInt_lt]; omega)
  rw [ej, nI_toInt hj] at y1 z1
  exact ⟨j, by omega, ej⟩
def rd_FTS (o a b : Int32) : Prop := ∃ r : Int32, (r = 1 ∧ rd_fit o a b ∨ r = 0) ∧ (∀ (post : Int32 → Prop) (A : rd_St) (rl : Int32) (ra qa ql : Nat → Int32), post r → wpX_fits post (rd_tX A rl ra qa ql) o a b) ∧ (∀ post : Int32 → Prop, post r → wpY_fits post o a b)
theorem rd_fts0 (a b : Int32) : rd_FTS 0 a b := by
  exact ⟨1, Or.inl ⟨rfl, ⟨⟨0, by omega, rfl⟩, fun h => absurd h (by decide), fun h => absurd h (by decide), fun h => absurd h (by decide), fun h => absurd h (by decide), fun h => absurd h (by decide), fun h => absurd h (by decide), fun h => absurd h (by decide), fun h => absurd h (by decide)⟩⟩, fun post A rl ra qa ql H => by unfold wpX_fits; exact br_t (by decide) (rd_x_w1 (j := 0) (n := 26) (by omega) (by omega) (by decide) ⟨rfl, H⟩), fun post H => by unfold wpY_fits; exact br_f (by decide) (br_f (by decide) (br_f (by decide) (br_f (by decide) (br_f (by decide) (br_f (by decide) (br_f (by decide) (br_f (by decide) (br_f (by decide) (br_f (by decide) (br_f (by decide) (br_f (by decide) (br_f (by decide) (br_f (by decide) (br_f (by decide) (H)))))))))))))))⟩
theorem rd_fts1 (a b : Int32) : rd_FTS 1 a b := by
  exact ⟨1, Or.inl ⟨rfl, ⟨⟨1, by omega, rfl⟩, fun h => absurd h (by decide), fun h => absurd h (by decide), fun h => absurd h (by decide), fun h => absurd h (by decide), fun h => absurd h (by decide), fun h => absurd h (by decide), fun h => absurd h (by decide), fun h => absurd h (by decide)⟩⟩, fun post A rl ra qa ql H => by unfold wpX_fits; exact br_t (by decide) (rd_x_w1 (j := 1) (n := 26) (by omega) (by omega) (by decide) ⟨rfl, H⟩), fun post H => by unfold wpY_fits; exact br_f (by decide) (br_f (by decide) (br_f (by decide) (br_f (by decide) (br_f (by decide) (br_f (by decide) (br_f (by decide) (br_f (by decide) (br_f (by decide) (br_f (by decide) (br_f (by decide) (br_f (by decide) (br_f (by decide) (br_f (by decide) (br_f (by decide) (H)))))))))))))))⟩
theorem rd_fts2 (a b : Int32) : rd_FTS 2 a b := by
  exact ⟨1, Or.inl ⟨rfl, ⟨⟨2, by omega, rfl⟩, fun h => absurd h (by decide), fun h => absurd h (by decide), fun h => absurd h (by decide), fun h => absurd h (by decide), fun h => absurd h (by decide), fun h => absurd h (by decide), fun h => absurd h (by decide), fun h => absurd h (by decide)⟩⟩, fun post A rl ra qa ql H => by unfold wpX_fits; exact br_t (by decide) (rd_x_w1 (j := 2) (n := 26) (by omega) (by omega) (by decide) ⟨rfl, H⟩), fun post H => by unfold wpY_fits; exact br_f (by decide) (br_f (by decide) (br_f (by decide) (br_f (by decide) (br_f (by decide) (br_f (by decide) (br_f (by decide) (br_f (by decide) (br_f (by decide) (br_f (by decide) (br_f (by decide) (br_f (by decide) (br_f (by decide) (br_f (by decide) (br_f (by decide) (H)))))))))))))))⟩
theorem rd_fts3 (a b : Int32) : rd_FTS 3 a b := by
  exact ⟨1, Or.inl ⟨rfl, ⟨⟨3, by omega, rfl⟩, fun h => absurd h (by decide), fun h => absurd h (by decide), fun h => absurd h (by decide), fun h => absurd h (by decide), fun h => absurd h (by decide), fun h => absurd h (by decide), fun h => absurd h (by decide), fun h => absurd h (by decide)⟩⟩, fun post A rl ra qa ql H => by unfold wpX_fits; exact br_t (by decide) (rd_x_w1 (j := 3) (n := 26) (by omega) (by omega) (by decide) ⟨rfl, H⟩), fun post H => by unfold wpY_fits; exact br_f (by decide) (br_f (by decide) (br_f (by decide) (br_f (by decide) (br_f (by decide) (br_f (by decide) (br_f (by decide) (br_f (by decide) (br_f (by decide) (br_f (by decide) (br_f (by decide) (br_f (by decide) (br_f (by decide) (br_f (by decide) (br_f (by decide) (H)))))))))))))))⟩
theorem rd_fts4 (a b : Int32) : rd_FTS 4 a b := by
  by_cases h : ∃ j, j < 21 ∧ a = nI j
  · obtain ⟨j, hj, rfl⟩ := h
    exact ⟨1, Or.inl ⟨rfl, ⟨⟨4, by omega, rfl⟩, fun _ => ⟨j, by omega, rfl⟩, fun h => absurd h (by decide), fun h => absurd h (by decide), fun h => absurd h (by decide), fun h => absurd h (by decide), fun h => absurd h (by decide), fun h => absurd h (by decide), fun h => absurd h (by decide)⟩⟩, fun post A rl ra qa ql H => by unfold wpX_fits; exact br_f (by decide) (br_f (by decide) (br_t rfl (rd_x_w1 (n := 21) hj (by omega) (by decide) ⟨rfl, H⟩))), fun post H => by unfold wpY_fits; exact br_t rfl (rd_y_w1 (n := 21) hj (by omega) rfl ⟨rfl, H⟩)⟩
  · exact ⟨0, Or.inr rfl, fun post A rl ra qa ql H => by unfold wpX_fits; exact br_f (by decide) (br_f (by decide) (br_t rfl (rd_x_w0 (n := 21) (by omega) (by decide) h ⟨rfl, H⟩))), fun post H => by unfold wpY_fits; exact br_t rfl (rd_y_w0 (n := 21) (by omega) rfl h ⟨rfl, H⟩)⟩
theorem rd_fts5 (a b : Int32) : rd_FTS 5 a b := by
  by_cases h : ∃ j, j < 21 ∧ a = nI j
  · obtain ⟨j, hj, rfl⟩ := h
    exact ⟨1, Or.inl ⟨rfl, ⟨⟨5, by omega, rfl⟩, fun _ => ⟨j, by omega, rfl⟩, fun h => absurd h (by decide), fun h => absurd h (by decide), fun h => absurd h (by decide), fun h => absurd h (by decide), fun h => absurd h (by decide), fun h => absurd h (by decide), fun h => absurd h (by decide)⟩⟩, fun post A rl ra qa ql H => by unfold wpX_fits; exact br_f (by decide) (br_f (by decide) (br_f (by decide) (br_t rfl (rd_x_w1 (n := 21) hj (by omega) (by decide) ⟨rfl, H⟩)))), fun post H => by unfold wpY_fits; exact br_f (by decide) (br_t rfl (rd_y_w1 (n := 21) hj (by omega) rfl ⟨rfl, H⟩))⟩
  · exact ⟨0, Or.inr rfl, fun post A rl ra qa ql H => by unfold wpX_fits; exact br_f (by decide) (br_f (by decide) (br_f (by decide) (br_t rfl (rd_x_w0 (n := 21) (by omega) (by decide) h ⟨rfl, H⟩)))), fun post H => by unfold wpY_fits; exact br_f (by decide) (br_t rfl (rd_y_w0 (n := 21) (by omega) rfl h ⟨rfl, H⟩))⟩
theorem rd_fts6 (a b : Int32) : rd_FTS 6 a b := by
  by_cases h : ∃ j, j < 4 ∧ a = nI j
  · obtain ⟨j, hj, rfl⟩ := h
    exact ⟨1, Or.inl ⟨rfl, ⟨⟨6, by omega, rfl⟩, fun h => absurd h (by decide), fun _ => ⟨j, by omega, rfl⟩, fun h => absurd h (by decide), fun h => absurd h (by decide), fun h => absurd h (by decide), fun h => absurd h (by decide), fun h => absurd h (by decide), fun h => absurd h (by decide)⟩⟩, fun post A rl ra qa ql H => by unfold wpX_fits; exact br_f (by decide) (br_f (by decide) (br_f (by decide) (br_f (by decide) (br_t rfl (rd_x_w1 (n := 4) hj (by omega) (by decide) ⟨rfl, H⟩))))), fun post H => by unfold wpY_fits; exact br_f (by decide) (br_f (by decide) (br_f (by decide) (br_f (by decide) (br_f (by decide) (br_t rfl (rd_y_w1 (n := 4) hj (by omega) rfl ⟨rfl, H⟩))))))⟩
  · exact ⟨0, Or.inr rfl, fun post A rl ra qa ql H => by unfold wpX_fits; exact br_f (by decide) (br_f (by decide) (br_f (by decide) (br_f (by decide) (br_t rfl (rd_x_w0 (n := 4) (by omega) (by decide) h ⟨rfl, H⟩))))), fun post H => by unfold wpY_fits; exact br_f (by decide) (br_f (by decide) (br_f (by decide) (br_f (by decide) (br_f (by decide) (br_t rfl (rd_y_w0 (n := 4) (by omega) rfl h ⟨rfl, H⟩))))))⟩
theorem rd_fts7 (a b : Int32) : rd_FTS 7 a b := by
  exact ⟨1, Or.inl ⟨rfl, ⟨⟨7, by omega, rfl⟩, fun h => absurd h (by decide), fun h => absurd h (by decide), fun h => absurd h (by decide), fun h => absurd h (by decide), fun h => absurd h (by decide), fun h => absurd h (by decide), fun h => absurd h (by decide), fun h => absurd h (by decide)⟩⟩, fun post A rl ra qa ql H => by unfold wpX_fits; exact br_f (by decide) (br_f (by decide) (br_f (by decide) (br_f (by decide) (br_f (by decide) (br_t rfl (rd_x_w1 (j := 7) (n := 26) (by omega) (by omega) (by decide) ⟨rfl, H⟩)))))), fun post H => by unfold wpY_fits; exact br_f (by decide) (br_f (by decide) (br_f (by decide) (br_f (by decide) (br_f (by decide) (br_f (by decide) (br_f (by decide) (br_f (by decide) (br_f (by decide) (br_f (by decide) (br_f (by decide) (br_f (by decide) (br_f (by decide) (br_f (by decide) (br_f (by decide) (H)))))))))))))))⟩
theorem rd_fts8 (a b : Int32) : rd_FTS 8 a b := by
  exact ⟨1, Or.inl ⟨rfl, ⟨⟨8, by omega, rfl⟩, fun h => absurd h (by decide), fun h => absurd h (by decide), fun h => absurd h (by decide), fun h => absurd h (by decide), fun h => absurd h (by decide), fun h => absurd h (by decide), fun h => absurd h (by decide), fun h => absurd h (by decide)⟩⟩, fun post A rl ra qa ql H => by unfold wpX_fits; exact br_f (by decide) (br_f (by decide) (br_f (by decide) (br_f (by decide) (br_f (by decide) (br_f (by decide) (br_t rfl (rd_x_w1 (j := 8) (n := 26) (by omega) (by omega) (by decide) ⟨rfl, H⟩))))))), fun post H => by unfold wpY_fits; exact br_f (by decide) (br_f (by decide) (br_f (by decide) (br_f (by decide) (br_f (by decide) (br_f (by decide) (br_f (by decide) (br_f (by decide) (br_f (by decide) (br_f (by decide) (br_f (by decide) (br_f (by decide) (br_f (by decide) (br_f (by decide) (br_f (by decide) (H)))))))))))))))⟩
theorem rd_fts9 (a b : Int32) : rd_FTS 9 a b := by
  by_cases h : ∃ j, j < 8 ∧ a = nI j
  · obtain ⟨j, hj, rfl⟩ := h
    by_cases h : ∃ j, j < 3 ∧ b = nI j
    · obtain ⟨i, hi, rfl⟩ := h
      exact ⟨1, Or.inl ⟨rfl, ⟨⟨9, by omega, rfl⟩, fun h => absurd h (by decide), fun h => absurd h (by decide), fun _ => ⟨⟨j, by omega, rfl⟩, ⟨i, by omega, rfl⟩⟩, fun h => absurd h (by decide), fun h => absurd h (by decide), fun h => absurd h (by decide), fun h => absurd h (by decide), fun h => absurd h (by decide)⟩⟩, fun post A rl ra qa ql H => by unfold wpX_fits; exact br_f (by decide) (br_f (by decide) (br_f (by decide) (br_f (by decide) (br_f (by decide) (br_f (by decide) (br_f (by decide) (br_t rfl (rd_x_w1 (n := 8) hj (by omega) (by decide) (br_f (by decide) (rd_x_w1 (n := 3) hi (by omega) (by decide) (br_f (by decide) H))))))))))), fun post H => by unfold wpY_fits; exact br_f (by decide) (br_f (by decide) (br_f (by decide) (br_f (by decide) (br_f (by decide) (br_f (by decide) (br_t rfl (rd_y_w1 (n := 8) hj (by omega) rfl (br_f (by decide) (rd_y_w1 (n := 3) hi (by omega) rfl (br_f (by decide) H))))))))))⟩
    · exact ⟨0, Or.inr rfl, fun post A rl ra qa ql H => by unfold wpX_fits; exact br_f (by decide) (br_f (by decide) (br_f (by decide) (br_f (by decide) (br_f (by decide) (br_f (by decide) (br_f (by decide) (br_t rfl (rd_x_w1 (n := 8) hj (by omega) (by decide) (br_f (by decide) (rd_x_w0 (n := 3) (by omega) (by decide) h (br_t rfl H))))))))))), fun post H => by unfold wpY_fits; exact br_f (by decide) (br_f (by decide) (br_f (by decide) (br_f (by decide) (br_f (by decide) (br_f (by decide) (br_t rfl (rd_y_w1 (n := 8) hj (by omega) rfl (br_f (by decide) (rd_y_w0 (n := 3) (by omega) rfl h (br_t rfl H))))))))))⟩
  · exact ⟨0, Or.inr rfl, fun post A rl ra qa ql H => by unfold wpX_fits; exact br_f (by decide) (br_f (by decide) (br_f (by decide) (br_f (by decide) (br_f (by decide) (br_f (by decide) (br_f (by decide) (br_t rfl (rd_x_w0 (n := 8) (by omega) (by decide) h (br_t rfl H))))))))), fun post H => by unfold wpY_fits; exact br_f (by decide) (br_f (by decide) (br_f (by decide) (br_f (by decide) (br_f (by decide) (br_f (by decide) (br_t rfl (rd_y_w0 (n := 8) (by omega) rfl h (br_t rfl H))))))))⟩
theorem rd_fts10 (a b : Int32) : rd_FTS 10 a b := by
  by_cases h : ∃ j, j < 100 ∧ a = nI j
  · obtain ⟨j, hj, rfl⟩ := h
    exact ⟨1, Or.inl ⟨rfl, ⟨⟨10, by omega, rfl⟩, fun h => absurd h (by decide), fun h => absurd h (by decide), fun h => absurd h (by decide), fun h => absurd h (by decide), fun _ => ⟨j, by omega, rfl⟩, fun h => absurd h (by decide), fun h => absurd h (by decide), fun h => absurd h (by decide)⟩⟩, fun post A rl ra qa ql H => by unfold wpX_fits; exact br_f (by decide) (br_f (by decide) (br_f (by decide) (br_f (by decide) (br_f (by decide) (br_f (by decide) (br_f (by decide) (br_f (by decide) (br_t rfl (rd_x_w1 (n := 100) hj (by omega) (by decide) ⟨rfl, H⟩))))))))), fun post H => by unfold wpY_fits; exact br_f (by decide) (br_f (by decide) (br_f (by decide) (br_f (by decide) (br_f (by decide) (br_f (by decide) (br_f (by decide) (br_f (by decide) (br_t rfl (rd_y_w1 (n := 100) hj (by omega) rfl ⟨rfl, H⟩)))))))))⟩
  · exact ⟨0, Or.inr rfl, fun post A rl ra qa ql H => by unfold wpX_fits; exact br_f (by decide) (br_f (by decide) (br_f (by decide) (br_f (by decide) (br_f (by decide) (br_f (by decide) (br_f (by decide) (br_f (by decide) (br_t rfl (rd_x_w0 (n := 100) (by omega) (by decide) h ⟨rfl, H⟩))))))))), fun post H => by unfold wpY_fits; exact br_f (by decide) (br_f (by decide) (br_f (by decide) (br_f (by decide) (br_f (by decide) (br_f (by decide) (br_f (by decide) (br_f (by decide) (br_t rfl (rd_y_w0 (n := 100) (by omega) rfl h ⟨rfl, H⟩)))))))))⟩
theorem rd_fts11 (a b : Int32) : rd_FTS 11 a b := by
  by_cases h : ∃ j, j < 8 ∧ a = nI j
  · obtain ⟨j, hj, rfl⟩ := h
    by_cases h : ∃ j, j < 3 ∧ b = nI j
    · obtain ⟨i, hi, rfl⟩ := h
      exact ⟨1, Or.inl ⟨rfl, ⟨⟨11, by omega, rfl⟩, fun h => absurd h (by decide), fun h => absurd h (by decide), fun _ => ⟨⟨j, by omega, rfl⟩, ⟨i, by omega, rfl⟩⟩, fun h => absurd h (by decide), fun h => absurd h (by decide), fun h => absurd h (by decide), fun h => absurd h (by decide), fun h => absurd h (by decide)⟩⟩, fun post A rl ra qa ql H => by unfold wpX_fits; exact br_f (by decide) (br_f (by decide) (br_f (by decide) (br_f (by decide) (br_f (by decide) (br_f (by decide) (br_f (by decide) (br_f (by decide) (br_f (by decide) (br_t rfl (rd_x_w1 (n := 8) hj (by omega) (by decide) (br_f (by decide) (rd_x_w1 (n := 3) hi (by omega) (by decide) (br_f (by decide) H))))))))))))), fun post H => by unfold wpY_fits; exact br_f (by decide) (br_f (by decide) (br_f (by decide) (br_f (by decide) (br_f (by decide) (br_f (by decide) (br_f (by decide) (br_t rfl (rd_y_w1 (n := 8) hj (by omega) rfl (br_f (by decide) (rd_y_w1 (n := 3) hi (by omega) rfl (br_f (by decide) H)))))))))))⟩
    · exact ⟨0, Or.inr rfl, fun post A rl ra qa ql H => by unfold wpX_fits; exact br_f (by decide) (br_f (by decide) (br_f (by decide) (br_f (by decide) (br_f (by decide) (br_f (by decide) (br_f (by decide) (br_f (by decide) (br_f (by decide) (br_t rfl (rd_x_w1 (n := 8) hj (by omega) (by decide) (br_f (by decide) (rd_x_w0 (n := 3) (by omega) (by decide) h (br_t rfl H))))))))))))), fun post H => by unfold wpY_fits; exact br_f (by decide) (br_f (by decide) (br_f (by decide) (br_f (by decide) (br_f (by decide) (br_f (by decide) (br_f (by decide) (br_t rfl (rd_y_w1 (n := 8) hj (by omega) rfl (br_f (by decide) (rd_y_w0 (n := 3) (by omega) rfl h (br_t rfl H)))))))))))⟩
  · exact ⟨0, Or.inr rfl, fun post A rl ra qa ql H => by unfold wpX_fits; exact br_f (by decide) (br_f (by decide) (br_f (by decide) (br_f (by decide) (br_f (by decide) (br_f (by decide) (br_f (by decide) (br_f (by decide) (br_f (by decide) (br_t rfl (rd_x_w0 (n := 8) (by omega) (by decide) h (br_t rfl H))))))))))), fun post H => by unfold wpY_fits; exact br_f (by decide) (br_f (by decide) (br_f (by decide) (br_f (by decide) (br_f (by decide) (br_f (by decide) (br_f (by decide) (br_t rfl (rd_y_w0 (n := 8) (by omega) rfl h (br_t rfl H)))))))))⟩
theorem rd_fts12 (a b : Int32) : rd_FTS 12 a b := by
  by_cases h : ∃ j, j < 100 ∧ a = nI j
  · obtain ⟨j, hj, rfl⟩ := h
    exact ⟨1, Or.inl ⟨rfl, ⟨⟨12, by omega, rfl⟩, fun h => absurd h (by decide), fun h => absurd h (by decide), fun h => absurd h (by decide), fun h => absurd h (by decide), fun _ => ⟨j, by omega, rfl⟩, fun h => absurd h (by decide), fun h => absurd h (by decide), fun h => absurd h (by decide)⟩⟩, fun post A rl ra qa ql H => by unfold wpX_fits; exact br_f (by decide) (br_f (by decide) (br_f (by decide) (br_f (by decide) (br_f (by decide) (br_f (by decide) (br_f (by decide) (br_f (by decide) (br_f (by decide) (br_f (by decide) (br_t rfl (rd_x_w1 (n := 100) hj (by omega) (by decide) ⟨rfl, H⟩))))))))))), fun post H => by unfold wpY_fits; exact br_f (by decide) (br_f (by decide) (br_f (by decide) (br_f (by decide) (br_f (by decide) (br_f (by decide) (br_f (by decide) (br_f (by decide) (br_f (by decide) (br_t rfl (rd_y_w1 (n := 100) hj (by omega) rfl ⟨rfl, H⟩))))))))))⟩
  · exact ⟨0, Or.inr rfl, fun post A rl ra qa ql H => by unfold wpX_fits; exact br_f (by decide) (br_f (by decide) (br_f (by decide) (br_f (by decide) (br_f (by decide) (br_f (by decide) (br_f (by decide) (br_f (by decide) (br_f (by decide) (br_f (by decide) (br_t rfl (rd_x_w0 (n := 100) (by omega) (by decide) h ⟨rfl, H⟩))))))))))), fun post H => by unfold wpY_fits; exact br_f (by decide) (br_f (by decide) (br_f (by decide) (br_f (by decide) (br_f (by decide) (br_f (by decide) (br_f (by decide) (br_f (by decide) (br_f (by decide) (br_t rfl (rd_y_w0 (n := 100) (by omega) rfl h ⟨rfl, H⟩))))))))))⟩
theorem rd_fts13 (a b : Int32) : rd_FTS 13 a b := by
  by_cases h : ∃ j, j < 3 ∧ a = nI j
  · obtain ⟨j, hj, rfl⟩ := h
    exact ⟨1, Or.inl ⟨rfl, ⟨⟨13, by omega, rfl⟩, fun h => absurd h (by decide), fun h => absurd h (by decide), fun h => absurd h (by decide), fun h => absurd h (by decide), fun h => absurd h (by decide), fun _ => ⟨j, by omega, rfl⟩, fun h => absurd h (by decide), fun h => absurd h (by decide)⟩⟩, fun post A rl ra qa ql H => by unfold wpX_fits; exact br_f (by decide) (br_f (by decide) (br_f (by decide) (br_f (by decide) (br_f (by decide) (br_f (by decide) (br_f (by decide) (br_f (by decide) (br_f (by decide) (br_f (by decide) (br_f (by decide) (br_t rfl (rd_x_w1 (n := 3) hj (by omega) (by decide) ⟨rfl, H⟩)))))))))))), fun post H => by unfold wpY_fits; exact br_f (by decide) (br_f (by decide) (br_f (by decide) (br_f (by decide) (br_f (by decide) (br_f (by decide) (br_f (by decide) (br_f (by decide) (br_f (by decide) (br_f (by decide) (br_f (by decide) (br_f (by decide) (br_f (by decide) (br_t rfl (rd_y_w1 (n := 3) hj (by omega) rfl ⟨rfl, H⟩))))))))))))))⟩
  · exact ⟨0, Or.inr rfl, fun post A rl ra qa ql H => by unfold wpX_fits; exact br_f (by decide) (br_f (by decide) (br_f (by decide) (br_f (by decide) (br_f (by decide) (br_f (by decide) (br_f (by decide) (br_f (by decide) (br_f (by decide) (br_f (by decide) (br_f (by decide) (br_t rfl (rd_x_w0 (n := 3) (by omega) (by decide) h ⟨rfl, H⟩)))))))))))), fun post H => by unfold wpY_fits; exact br_f (by decide) (br_f (by decide) (br_f (by decide) (br_f (by decide) (br_f (by decide) (br_f (by decide) (br_f (by decide) (br_f (by decide) (br_f (by decide) (br_f (by decide) (br_f (by decide) (br_f (by decide) (br_f (by decide) (br_t rfl (rd_y_w0 (n := 3) (by omega) rfl h ⟨rfl, H⟩))))))))))))))⟩
theorem rd_fts14 (a b : Int32) : rd_FTS 14 a b := by
  exact ⟨1, Or.inl ⟨rfl, ⟨⟨14, by omega, rfl⟩, fun h => absurd h (by decide), fun h => absurd h (by decide), fun h => absurd h (by decide), fun h => absurd h (by decide), fun h => absurd h (by decide), fun h => absurd h (by decide), fun h => absurd h (by decide), fun h => absurd h (by decide)⟩⟩, fun post A rl ra qa ql H => by unfold wpX_fits; exact br_f (by decide) (br_f (by decide) (br_f (by decide) (br_f (by decide) (br_f (by decide) (br_f (by decide) (br_f (by decide) (br_f (by decide) (br_f (by decide) (br_f (by decide) (br_f (by decide) (br_f (by decide) (br_t rfl (rd_x_w1 (j := 14) (n := 26) (by omega) (by omega) (by decide) ⟨rfl, H⟩))))))))))))), fun post H => by unfold wpY_fits; exact br_f (by decide) (br_f (by decide) (br_f (by decide) (br_f (by decide) (br_f (by decide) (br_f (by decide) (br_f (by decide) (br_f (by decide) (br_f (by decide) (br_f (by decide) (br_f (by decide) (br_f (by decide) (br_f (by decide) (br_f (by decide) (br_f (by decide) (H)))))))))))))))⟩
theorem rd_fts15 (a b : Int32) : rd_FTS 15 a b := by
  exact ⟨1, Or.inl ⟨rfl, ⟨⟨15, by omega, rfl⟩, fun h => absurd h (by decide), fun h => absurd h (by decide), fun h => absurd h (by decide), fun h => absurd h (by decide), fun h => absurd h (by decide), fun h => absurd h (by decide), fun h => absurd h (by decide), fun h => absurd h (by decide)⟩⟩, fun post A rl ra qa ql H => by unfold wpX_fits; exact br_f (by decide) (br_f (by decide) (br_f (by decide) (br_f (by decide) (br_f (by decide) (br_f (by decide) (br_f (by decide) (br_f (by decide) (br_f (by decide) (br_f (by decide) (br_f (by decide) (br_f (by decide) (br_f (by decide) (br_t rfl (rd_x_w1 (j := 15) (n := 26) (by omega) (by omega) (by decide) ⟨rfl, H⟩)))))))))))))), fun post H => by unfold wpY_fits; exact br_f (by decide) (br_f (by decide) (br_f (by decide) (br_f (by decide) (br_f (by decide) (br_f (by decide) (br_f (by decide) (br_f (by decide) (br_f (by decide) (br_f (by decide) (br_f (by decide) (br_f (by decide) (br_f (by decide) (br_f (by decide) (br_f (by decide) (H)))))))))))))))⟩
theorem rd_fts16 (a b : Int32) : rd_FTS 16 a b := by
  by_cases h : ∃ j, j < 3 ∧ a = nI j
  · obtain ⟨j, hj, rfl⟩ := h
    by_cases h : ∃ j, j < 21 ∧ b = nI j
    · obtain ⟨i, hi, rfl⟩ := h
      exact ⟨1, Or.inl ⟨rfl, ⟨⟨16, by omega, rfl⟩, fun h => absurd h (by decide), fun h => absurd h (by decide), fun h => absurd h (by decide), fun h => absurd h (by decide), fun h => absurd h (by decide), fun h => absurd h (by decide), fun _ => ⟨⟨j, by omega, rfl⟩, ⟨i, by omega, rfl⟩⟩, fun h => absurd h (by decide)⟩⟩, fun post A rl ra qa ql H => by unfold wpX_fits; exact br_f (by decide) (br_f (by decide) (br_f (by decide) (br_f (by decide) (br_f (by decide) (br_f (by decide) (br_f (by decide) (br_f (by decide) (br_f (by decide) (br_f (by decide) (br_f (by decide) (br_f (by decide) (br_f (by decide) (br_f (by decide) (br_t rfl (rd_x_w1 (n := 3) hj (by omega) (by decide) (br_f (by decide) (rd_x_w1 (n := 21) hi (by omega) (by decide) (br_f (by decide) H)))))))))))))))))), fun post H => by unfold wpY_fits; exact br_f (by decide) (br_f (by decide) (br_f (by decide) (br_f (by decide) (br_f (by decide) (br_f (by decide) (br_f (by decide) (br_f (by decide) (br_f (by decide) (br_f (by decide) (br_t rfl (rd_y_w1 (n := 3) hj (by omega) rfl (br_f (by decide) (rd_y_w1 (n := 21) hi (by omega) rfl (br_f (by decide) H))))))))))))))⟩
    · exact ⟨0, Or.inr rfl, fun post A rl ra qa ql H => by unfold wpX_fits; exact br_f (by decide) (br_f (by decide) (br_f (by decide) (br_f (by decide) (br_f (by decide) (br_f (by decide) (br_f (by decide) (br_f (by decide) (br_f (by decide) (br_f (by decide) (br_f (by decide) (br_f (by decide) (br_f (by decide) (br_f (by decide) (br_t rfl (rd_x_w1 (n := 3) hj (by omega) (by decide) (br_f (by decide) (rd_x_w0 (n := 21) (by omega) (by decide) h (br_t rfl H)))))))))))))))))), fun post H => by unfold wpY_fits; exact br_f (by decide) (br_f (by decide) (br_f (by decide) (br_f (by decide) (br_f (by decide) (br_f (by decide) (br_f (by decide) (br_f (by decide) (br_f (by decide) (br_f (by decide) (br_t rfl (rd_y_w1 (n := 3) hj (by omega) rfl (br_f (by decide) (rd_y_w0 (n := 21) (by omega) rfl h (br_t rfl H))))))))))))))⟩
  · exact ⟨0, Or.inr rfl, fun post A rl ra qa ql H => by unfold wpX_fits; exact br_f (by decide) (br_f (by decide) (br_f (by decide) (br_f (by decide) (br_f (by decide) (br_f (by decide) (br_f (by decide) (br_f (by decide) (br_f (by decide) (br_f (by decide) (br_f (by decide) (br_f (by decide) (br_f (by decide) (br_f (by decide) (br_t rfl (rd_x_w0 (n := 3) (by omega) (by decide) h (br_t rfl H)))))))))))))))), fun post H => by unfold wpY_fits; exact br_f (by decide) (br_f (by decide) (br_f (by decide) (br_f (by decide) (br_f (by decide) (br_f (by decide) (br_f (by decide) (br_f (by decide) (br_f (by decide) (br_f (by decide) (br_t rfl (rd_y_w0 (n := 3) (by omega) rfl h (br_t rfl H))))))))))))⟩
theorem rd_fts17 (a b : Int32) : rd_FTS 17 a b := by
  by_cases h : ∃ j, j < 3 ∧ a = nI j
  · obtain ⟨j, hj, rfl⟩ := h
    by_cases h : ∃ j, j < 21 ∧ b = nI j
    · obtain ⟨i, hi, rfl⟩ := h
      exact ⟨1, Or.inl ⟨rfl, ⟨⟨17, by omega, rfl⟩, fun h => absurd h (by decide), fun h => absurd h (by decide), fun h => absurd h (by decide), fun h => absurd h (by decide), fun h => absurd h (by decide), fun h => absurd h (by decide), fun _ => ⟨⟨j, by omega, rfl⟩, ⟨i, by omega, rfl⟩⟩, fun h => absurd h (by decide)⟩⟩, fun post A rl ra qa ql H => by unfold wpX_fits; exact br_f (by decide) (br_f (by decide) (br_f (by decide) (br_f (by decide) (br_f (by decide) (br_f (by decide) (br_f (by decide) (br_f (by decide) (br_f (by decide) (br_f (by decide) (br_f (by decide) (br_f (by decide) (br_f (by decide) (br_f (by decide) (br_f (by decide) (br_t rfl (rd_x_w1 (n := 3) hj (by omega) (by decide) (br_f (by decide) (rd_x_w1 (n := 21) hi (by omega) (by decide) (br_f (by decide) H))))))))))))))))))), fun post H => by unfold wpY_fits; exact br_f (by decide) (br_f (by decide) (br_f (by decide) (br_f (by decide) (br_f (by decide) (br_f (by decide) (br_f (by decide) (br_f (by decide) (br_f (by decide) (br_f (by decide) (br_f (by decide) (br_t rfl (rd_y_w1 (n := 3) hj (by omega) rfl (br_f (by decide) (rd_y_w1 (n := 21) hi (by omega) rfl (br_f (by decide) H)))))))))))))))⟩
    · exact ⟨0, Or.inr rfl, fun post A rl ra qa ql H => by unfold wpX_fits; exact br_f (by decide) (br_f (by decide) (br_f (by decide) (br_f (by decide) (br_f (by decide) (br_f (by decide) (br_f (by decide) (br_f (by decide) (br_f (by decide) (br_f (by decide) (br_f (by decide) (br_f (by decide) (br_f (by decide) (br_f (by decide) (br_f (by decide) (br_t rfl (rd_x_w1 (n := 3) hj (by omega) (by decide) (br_f (by decide) (rd_x_w0 (n := 21) (by omega) (by decide) h (br_t rfl H))))))))))))))))))), fun post H => by unfold wpY_fits; exact br_f (by decide) (br_f (by decide) (br_f (by decide) (br_f (by decide) (br_f (by decide) (br_f (by decide) (br_f (by decide) (br_f (by decide) (br_f (by decide) (br_f (by decide) (br_f (by decide) (br_t rfl (rd_y_w1 (n := 3) hj (by omega) rfl (br_f (by decide) (rd_y_w0 (n := 21) (by omega) rfl h (br_t rfl H)))))))))))))))⟩
  · exact ⟨0, Or.inr rfl, fun post A rl ra qa ql H => by unfold wpX_fits; exact br_f (by decide) (br_f (by decide) (br_f (by decide) (br_f (by decide) (br_f (by decide) (br_f (by decide) (br_f (by decide) (br_f (by decide) (br_f (by decide) (br_f (by decide) (br_f (by decide) (br_f (by decide) (br_f (by decide) (br_f (by decide) (br_f (by decide) (br_t rfl (rd_x_w0 (n := 3) (by omega) (by decide) h (br_t rfl H))))))))))))))))), fun post H => by unfold wpY_fits; exact br_f (by decide) (br_f (by decide) (br_f (by decide) (br_f (by decide) (br_f (by decide) (br_f (by decide) (br_f (by decide) (br_f (by decide) (br_f (by decide) (br_f (by decide) (br_f (by decide) (br_t rfl (rd_y_w0 (n := 3) (by omega) rfl h (br_t rfl H)))))))))))))⟩
theorem rd_fts18 (a b : Int32) : rd_FTS 18 a b := by
  by_cases h : ∃ j, j < 21 ∧ a = nI j
  · obtain ⟨j, hj, rfl⟩ := h
    exact ⟨1, Or.inl ⟨rfl, ⟨⟨18, by omega, rfl⟩, fun _ => ⟨j, by omega, rfl⟩, fun h => absurd h (by decide), fun h => absurd h (by decide), fun h => absurd h (by decide), fun h => absurd h (by decide), fun h => absurd h (by decide), fun h => absurd h (by decide), fun h => absurd h (by decide)⟩⟩, fun post A rl ra qa ql H => by unfold wpX_fits; exact br_f (by decide) (br_f (by decide) (br_f (by decide) (br_f (by decide) (br_f (by decide) (br_f (by decide) (br_f (by decide) (br_f (by decide) (br_f (by decide) (br_f (by decide) (br_f (by decide) (br_f (by decide) (br_f (by decide) (br_f (by decide) (br_f (by decide) (br_f (by decide) (br_t rfl (rd_x_w1 (n := 21) hj (by omega) (by decide) ⟨rfl, H⟩))))))))))))))))), fun post H => by unfold wpY_fits; exact br_f (by decide) (br_f (by decide) (br_t rfl (rd_y_w1 (n := 21) hj (by omega) rfl ⟨rfl, H⟩)))⟩
  · exact ⟨0, Or.inr rfl, fun post A rl ra qa ql H => by unfold wpX_fits; exact br_f (by decide) (br_f (by decide) (br_f (by decide) (br_f (by decide) (br_f (by decide) (br_f (by decide) (br_f (by decide) (br_f (by decide) (br_f (by decide) (br_f (by decide) (br_f (by decide) (br_f (by decide) (br_f (by decide) (br_f (by decide) (br_f (by decide) (br_f (by decide) (br_t rfl (rd_x_w0 (n := 21) (by omega) (by decide) h ⟨rfl, H⟩))))))))))))))))), fun post H => by unfold wpY_fits; exact br_f (by decide) (br_f (by decide) (br_t rfl (rd_y_w0 (n := 21) (by omega) rfl h ⟨rfl, H⟩)))⟩
theorem rd_fts19 (a b : Int32) : rd_FTS 19 a b := by
  by_cases h : ∃ j, j < 21 ∧ a = nI j
  · obtain ⟨j, hj, rfl⟩ := h
    exact ⟨1, Or.inl ⟨rfl, ⟨⟨19, by omega, rfl⟩, fun _ => ⟨j, by omega, rfl⟩, fun h => absurd h (by decide), fun h => absurd h (by decide), fun h => absurd h (by decide), fun h => absurd h (by decide), fun h => absurd h (by decide), fun h => absurd h (by decide), fun h => absurd h (by decide)⟩⟩, fun post A rl ra qa ql H => by unfold wpX_fits; exact br_f (by decide) (br_f (by decide) (br_f (by decide) (br_f (by decide) (br_f (by decide) (br_f (by decide) (br_f (by decide) (br_f (by decide) (br_f (by decide) (br_f (by decide) (br_f (by decide) (br_f (by decide) (br_f (by decide) (br_f (by decide) (br_f (by decide) (br_f (by decide) (br_f (by decide) (br_t rfl (rd_x_w1 (n := 21) hj (by omega) (by decide) ⟨rfl, H⟩)))))))))))))))))), fun post H => by unfold wpY_fits; exact br_f (by decide) (br_f (by decide) (br_f (by decide) (br_t rfl (rd_y_w1 (n := 21) hj (by omega) rfl ⟨rfl, H⟩))))⟩
  · exact ⟨0, Or.inr rfl, fun post A rl ra qa ql H => by unfold wpX_fits; exact br_f (by decide) (br_f (by decide) (br_f (by decide) (br_f (by decide) (br_f (by decide) (br_f (by decide) (br_f (by decide) (br_f (by decide) (br_f (by decide) (br_f (by decide) (br_f (by decide) (br_f (by decide) (br_f (by decide) (br_f (by decide) (br_f (by decide) (br_f (by decide) (br_f (by decide) (br_t rfl (rd_x_w0 (n := 21) (by omega) (by decide) h ⟨rfl, H⟩)))))))))))))))))), fun post H => by unfold wpY_fits; exact br_f (by decide) (br_f (by decide) (br_f (by decide) (br_t rfl (rd_y_w0 (n := 21) (by omega) rfl h ⟨rfl, H⟩))))⟩
theorem rd_fts20 (a b : Int32) : rd_FTS 20 a b := by
  exact ⟨1, Or.inl ⟨rfl, ⟨⟨20, by omega, rfl⟩, fun h => absurd h (by decide), fun h => absurd h (by decide), fun h => absurd h (by decide), fun h => absurd h (by decide), fun h => absurd h (by decide), fun h => absurd h (by decide), fun h => absurd h (by decide), fun h => absurd h (by decide)⟩⟩, fun post A rl ra qa ql H => by unfold wpX_fits; exact br_f (by decide) (br_f (by decide) (br_f (by decide) (br_f (by decide) (br_f (by decide) (br_f (by decide) (br_f (by decide) (br_f (by decide) (br_f (by decide) (br_f (by decide) (br_f (by decide) (br_f (by decide) (br_f (by decide) (br_f (by decide) (br_f (by decide) (br_f (by decide) (br_f (by decide) (br_f (by decide) (br_t rfl (rd_x_w1 (j := 20) (n := 26) (by omega) (by omega) (by decide) ⟨rfl, H⟩))))))))))))))))))), fun post H => by unfold wpY_fits; exact br_f (by decide) (br_f (by decide) (br_f (by decide) (br_f (by decide) (br_f (by decide) (br_f (by decide) (br_f (by decide) (br_f (by decide) (br_f (by decide) (br_f (by decide) (br_f (by decide) (br_f (by decide) (br_f (by decide) (br_f (by decide) (br_f (by decide) (H)))))))))))))))⟩
theorem rd_fts21 (a b : Int32) : rd_FTS 21 a b := by
  have e0 : (0 : Int32).toInt = 0 := by decide
  have e1 : (1 : Int32).toInt = 1 := by decide
  have e9 : (9 : Int32).toInt = 9 := by decide
  have e10 : (10 : Int32).toInt = 10 := by decide
  by_cases h : 1 ≤ a ∧ a ≤ 9
  · have h1 := h.1
    have h2 := h.2
    rw [Int32.le_iff_toInt_le] at h1 h2
    obtain ⟨j, hj, rfl⟩ := nI_of (x := a) (by rw [Int32.lt_iff_toInt_lt]; omega)
    rw [nI_toInt hj] at h1 h2
    exact ⟨1, Or.inl ⟨rfl, ⟨⟨21, by omega, rfl⟩, fun h => absurd h (by decide), fun h => absurd h (by decide), fun h => absurd h (by decide), fun h => absurd h (by decide), fun h => absurd h (by decide), fun h => absurd h (by decide), fun h => absurd h (by decide), fun _ => ⟨j, by omega, by omega, rfl⟩⟩⟩, fun post A rl ra qa ql H => by unfold wpX_fits; exact br_f (by decide) (br_f (by decide) (br_f (by decide) (br_f (by decide) (br_f (by decide) (br_f (by decide) (br_f (by decide) (br_f (by decide) (br_f (by decide) (br_f (by decide) (br_f (by decide) (br_f (by decide) (br_f (by decide) (br_f (by decide) (br_f (by decide) (br_f (by decide) (br_f (by decide) (br_f (by decide) (br_f (by decide) (br_t rfl (rd_x_within (fun _ _ => ⟨rfl, H⟩) (fun z => absurd h z))))))))))))))))))))), fun post H => by unfold wpY_fits; exact br_f (by decide) (br_f (by decide) (br_f (by decide) (br_f (by decide) (br_f (by decide) (br_f (by decide) (br_f (by decide) (br_f (by decide) (br_f (by decide) (br_f (by decide) (br_f (by decide) (br_f (by decide) (br_f (by decide) (br_f (by decide) (br_t rfl (br_f (nI_nle (by omega) hj) (br_f (nI_ge (b := 10) (by omega) (by omega)) H))))))))))))))))⟩
  · have ge : ¬ a ≤ 0 → 10 ≤ a := by
      intro z
      rw [Int32.le_iff_toInt_le] at z ⊢
      rw [Int32.le_iff_toInt_le, Int32.le_iff_toInt_le] at h
      omega
    exact ⟨0, Or.inr rfl, fun post A rl ra qa ql H => by unfold wpX_fits; exact br_f (by decide) (br_f (by decide) (br_f (by decide) (br_f (by decide) (br_f (by decide) (br_f (by decide) (br_f (by decide) (br_f (by decide) (br_f (by decide) (br_f (by decide) (br_f (by decide) (br_f (by decide) (br_f (by decide) (br_f (by decide) (br_f (by decide) (br_f (by decide) (br_f (by decide) (br_f (by decide) (br_f (by decide) (br_t rfl (rd_x_within (fun y z => absurd ⟨y, z⟩ h) (fun _ => ⟨rfl, H⟩))))))))))))))))))))), fun post H => by unfold wpY_fits; exact br_f (by decide) (br_f (by decide) (br_f (by decide) (br_f (by decide) (br_f (by decide) (br_f (by decide) (br_f (by decide) (br_f (by decide) (br_f (by decide) (br_f (by decide) (br_f (by decide) (br_f (by decide) (br_f (by decide) (br_f (by decide) (br_t rfl (br_c (fun _ => H) (fun z => br_t (ge z) H))))))))))))))))⟩
theorem rd_fts22 (a b : Int32) : rd_FTS 22 a b := by
  by_cases h : ∃ j, j < 21 ∧ a = nI j
  · obtain ⟨j, hj, rfl⟩ := h
    exact ⟨1, Or.inl ⟨rfl, ⟨⟨22, by omega, rfl⟩, fun _ => ⟨j, by omega, rfl⟩, fun h => absurd h (by decide), fun h => absurd h (by decide), fun h => absurd h (by decide), fun h => absurd h (by decide), fun h => absurd h (by decide), fun h => absurd h (by decide), fun h => absurd h (by decide)⟩⟩, fun post A rl ra qa ql H => by unfold wpX_fits; exact br_f (by decide) (br_f (by decide) (br_f (by decide) (br_f (by decide) (br_f (by decide) (br_f (by decide) (br_f (by decide) (br_f (by decide) (br_f (by decide) (br_f (by decide) (br_f (by decide) (br_f (by decide) (br_f (by decide) (br_f (by decide) (br_f (by decide) (br_f (by decide) (br_f (by decide) (br_f (by decide) (br_f (by decide) (br_f (by decide) (br_t rfl (rd_x_w1 (n := 21) hj (by omega) (by decide) ⟨rfl, H⟩))))))))))))))))))))), fun post H => by unfold wpY_fits; exact br_f (by decide) (br_f (by decide) (br_f (by decide) (br_f (by decide) (br_t rfl (rd_y_w1 (n := 21) hj (by omega) rfl ⟨rfl, H⟩)))))⟩
  · exact ⟨0, Or.inr rfl, fun post A rl ra qa ql H => by unfold wpX_fits; exact br_f (by decide) (br_f (by decide) (br_f (by decide) (br_f (by decide) (br_f (by decide) (br_f (by decide) (br_f (by decide) (br_f (by decide) (br_f (by decide) (br_f (by decide) (br_f (by decide) (br_f (by decide) (br_f (by decide) (br_f (by decide) (br_f (by decide) (br_f (by decide) (br_f (by decide) (br_f (by decide) (br_f (by decide) (br_f (by decide) (br_t rfl (rd_x_w0 (n := 21) (by omega) (by decide) h ⟨rfl, H⟩))))))))))))))))))))), fun post H => by unfold wpY_fits; exact br_f (by decide) (br_f (by decide) (br_f (by decide) (br_f (by decide) (br_t rfl (rd_y_w0 (n := 21) (by omega) rfl h ⟨rfl, H⟩)))))⟩
theorem rd_fts23 (a b : Int32) : rd_FTS 23 a b := by
  exact ⟨1, Or.inl ⟨rfl, ⟨⟨23, by omega, rfl⟩, fun h => absurd h (by decide), fun h => absurd h (by decide), fun h => absurd h (by decide), fun h => absurd h (by decide), fun h => absurd h (by decide), fun h => absurd h (by decide), fun h => absurd h (by decide), fun h => absurd h (by decide)⟩⟩, fun post A rl ra qa ql H => by unfold wpX_fits; exact br_f (by decide) (br_f (by decide) (br_f (by decide) (br_f (by decide) (br_f (by decide) (br_f (by decide) (br_f (by decide) (br_f (by decide) (br_f (by decide) (br_f (by decide) (br_f (by decide) (br_f (by decide) (br_f (by decide) (br_f (by decide) (br_f (by decide) (br_f (by decide) (br_f (by decide) (br_f (by decide) (br_f (by decide) (br_f (by decide) (br_f (by decide) (br_t rfl (rd_x_w1 (j := 23) (n := 26) (by omega) (by omega) (by decide) ⟨rfl, H⟩)))))))))))))))))))))), fun post H => by unfold wpY_fits; exact br_f (by decide) (br_f (by decide) (br_f (by decide) (br_f (by decide) (br_f (by decide) (br_f (by decide) (br_f (by decide) (br_f (by decide) (br_f (by decide) (br_f (by decide) (br_f (by decide) (br_f (by decide) (br_f (by decide) (br_f (by decide) (br_f (by decide) (H)))))))))))))))⟩
theorem rd_fts24 (a b : Int32) : rd_FTS 24 a b := by
  by_cases h : ∃ j, j < 8 ∧ a = nI j
  · obtain ⟨j, hj, rfl⟩ := h
    exact ⟨1, Or.inl ⟨rfl, ⟨⟨24, by omega, rfl⟩, fun h => absurd h (by decide), fun h => absurd h (by decide), fun h => absurd h (by decide), fun _ => ⟨j, by omega, rfl⟩, fun h => absurd h (by decide), fun h => absurd h (by decide), fun h => absurd h (by decide), fun h => absurd h (by decide)⟩⟩, fun post A rl ra qa ql H => by unfold wpX_fits; exact br_f (by decide) (br_f (by decide) (br_f (by decide) (br_f (by decide) (br_f (by decide) (br_f (by decide) (br_f (by decide) (br_f (by decide) (br_f (by decide) (br_f (by decide) (br_f (by decide) (br_f (by decide) (br_f (by decide) (br_f (by decide) (br_f (by decide) (br_f (by decide) (br_f (by decide) (br_f (by decide) (br_f (by decide) (br_f (by decide) (br_f (by decide) (br_f (by decide) (br_t rfl (rd_x_w1 (n := 8) hj (by omega) (by decide) ⟨rfl, H⟩))))))))))))))))))))))), fun post H => by unfold wpY_fits; exact br_f (by decide) (br_f (by decide) (br_f (by decide) (br_f (by decide) (br_f (by decide) (br_f (by decide) (br_f (by decide) (br_f (by decide) (br_f (by decide) (br_f (by decide) (br_f (by decide) (br_f (by decide) (br_t rfl (rd_y_w1 (n := 8) hj (by omega) rfl ⟨rfl, H⟩)))))))))))))⟩
  · exact ⟨0, Or.inr rfl, fun post A rl ra qa ql H => by unfold wpX_fits; exact br_f (by decide) (br_f (by decide) (br_f (by decide) (br_f (by decide) (br_f (by decide) (br_f (by decide) (br_f (by decide) (br_f (by decide) (br_f (by decide) (br_f (by decide) (br_f (by decide) (br_f (by decide) (br_f (by decide) (br_f (by decide) (br_f (by decide) (br_f (by decide) (br_f (by decide) (br_f (by decide) (br_f (by decide) (br_f (by decide) (br_f (by decide) (br_f (by decide) (br_t rfl (rd_x_w0 (n := 8) (by omega) (by decide) h ⟨rfl, H⟩))))))))))))))))))))))), fun post H => by unfold wpY_fits; exact br_f (by decide) (br_f (by decide) (br_f (by decide) (br_f (by decide) (br_f (by decide) (br_f (by decide) (br_f (by decide) (br_f (by decide) (br_f (by decide) (br_f (by decide) (br_f (by decide) (br_f (by decide) (br_t rfl (rd_y_w0 (n := 8) (by omega) rfl h ⟨rfl, H⟩)))))))))))))⟩
theorem rd_fts25 (a b : Int32) : rd_FTS 25 a b := by
  exact ⟨1, Or.inl ⟨rfl, ⟨⟨25, by omega, rfl⟩, fun h => absurd h (by decide), fun h => absurd h (by decide), fun h => absurd h (by decide), fun h => absurd h (by decide), fun h => absurd h (by decide), fun h => absurd h (by decide), fun h => absurd h (by decide), fun h => absurd h (by decide)⟩⟩, fun post A rl ra qa ql H => by unfold wpX_fits; exact br_f (by decide) (br_t (by decide) (rd_x_w1 (j := 25) (n := 26) (by omega) (by omega) (by decide) ⟨rfl, H⟩)), fun post H => by unfold wpY_fits; exact br_f (by decide) (br_f (by decide) (br_f (by decide) (br_f (by decide) (br_f (by decide) (br_f (by decide) (br_f (by decide) (br_f (by decide) (br_f (by decide) (br_f (by decide) (br_f (by decide) (br_f (by decide) (br_f (by decide) (br_f (by decide) (br_f (by decide) (H)))))))))))))))⟩
theorem rd_fts (a b : Int32) : ∀ c : Nat, c < 26 → rd_FTS (nI c) a b
  | 0, _ => rd_fts0 a b
  | 1, _ => rd_fts1 a b
  | 2, _ => rd_fts2 a b
  | 3, _ => rd_fts3 a b
  | 4, _ => rd_fts4 a b
  | 5, _ => rd_fts5 a b
  | 6, _ => rd_fts6 a b
  | 7, _ => rd_fts7 a b
  | 8, _ => rd_fts8 a b
  | 9, _ => rd_fts9 a b
  | 10, _ => rd_fts10 a b
  | 11, _ => rd_fts11 a b
  | 12, _ => rd_fts12 a b
  | 13, _ => rd_fts13 a b
  | 14, _ => rd_fts14 a b
  | 15, _ => rd_fts15 a b
  | 16, _ => rd_fts16 a b
  | 17, _ => rd_fts17 a b
  | 18, _ => rd_fts18 a b
  | 19, _ => rd_fts19 a b
  | 20, _ => rd_fts20 a b
  | 21, _ => rd_fts21 a b
  | 22, _ => rd_fts22 a b
  | 23, _ => rd_fts23 a b
  | 24, _ => rd_fts24 a b
  | 25, _ => rd_fts25 a b
  | _ + 26, h => absurd h (by omega)
theorem i_vc_add {k : Nat} {u : SX} {v : SY} (I : i_Rel k u v) (hk : k + 5 ≤ 2560) (v1 : Int32) (v2 : Int32) (v3 : Int32) (v4 : Int32) : wpX_add (fun r u' => wpY_add (fun r' v' => r' = r ∧ i_Rel (k + 5) u' v') v v1 v2 v3 v4) u v1 v2 v3 v4 := by
  have I' : i_Rel (k + 5) u v := I
  obtain ⟨n, A, w, Q, hG, hN, hw, hQ, n9, ⟨ra, qa, ql, rfl, hx⟩, ra', qa', wq, am, rz, ob, fr, st, bl, rfl, hr, h2, h3, h9⟩ := I
  unfold wpX_add
  by_cases e : ∃ t, t < 4 ∧ v1 = nI t
  · obtain ⟨t, ht, rfl⟩ := e
    have ct : (nI t).toNatClampNeg = t := nI_clamp (by omega)
    have i4 : vp_in (nI t) 4 := vp_in_nI ht (by omega)
    refine rd_x_w1 (n := 4) ht (by omega) (by decide) (br_f (by decide) ?_)
    by_cases e : ∃ c, c < 26 ∧ v2 = nI c
    · obtain ⟨c, hc, rfl⟩ := e
      obtain ⟨r, hr', fx, fy⟩ := rd_fts v3 v4 c hc
      refine fx _ _ _ _ _ _ ?_
      rcases hr' with ⟨rfl, ft⟩ | rfl
      · refine br_f (by decide) ⟨i4, ?_⟩
        obtain ⟨L, hL, eL⟩ := hG.1 t ht
        have ix : nI t * 20 + nI L = nI (t * 20 + L) := rd_ix' 20 L t _ rfl
        have iy : 20 * nI t + nI L = nI (t * 20 + L) := rd_ix 20 L t _ rfl
        have ci : (nI (t * 20 + L)).toNatClampNeg = t * 20 + L := nI_clamp (by omega)
        refine nm_r (e' := nI L) (by rw [ct, eL]) ?_
        rcases Nat.lt_or_ge L 20 with l | l
        · have i80 : vp_in (nI (t * 20 + L)) 80 := vp_in_nI (by omega) (by omega)
          refine br_t (nI_lt (b := 20) l (by omega)) (nm_r ix ⟨i80, nm_r (e' := upd (A 0) (t * 20 + L) (nI c)) (by rw [ci]) ⟨i80, nm_r (e' := upd (A 1) (t * 20 + L) v3) (by rw [ci]) ⟨i80, nm_r (e' := upd (A 2) (t * 20 + L) v4) (by rw [ci]) ⟨i4, nm_r (e' := upd (A 3) t (nI (L + 1))) (by rw [ct, nI_1]) ?_⟩⟩⟩⟩)
          show wpY_add _ _ _ _ _ _
          unfold wpY_add
          refine rd_y_w1 (n := 4) ht (by omega) rfl (br_f (by decide) (rd_y_w1 (n := 26) hc (by omega) rfl (br_f (by decide) (fy _ (br_f (by decide) ⟨i4, br_f ?_ ⟨i4, nm_r (e' := nI (t * 20 + L)) (by rw [ct, eL, iy]) ⟨i80, nm_r (e' := upd (A 0) (t * 20 + L) (nI c)) (by rw [ci]) ⟨i80, nm_r (e' := upd (A 1) (t * 20 + L) v3) (by rw [ci]) ⟨i80, nm_r (e' := upd (A 2) (t * 20 + L) v4) (by rw [ci]) ⟨i4, i4, nm_r (e' := upd (A 3) t (nI (L + 1))) (by rw [ct, eL, nI_1]) ⟨i4, ?_, ?_⟩⟩⟩⟩⟩⟩⟩)))))
          · intro z
            rw [ct, eL] at z
            exact absurd (Int32.le_of_eq z.symm) (nI_ge (b := 20) l (by omega))
          · rw [ct, rd_us, nI_1]
          · refine ⟨n, rd_sw (rd_sw (rd_sw (rd_sw A  0 (t * 20 + L) (nI c))  1 (t * 20 + L) v3)  2 (t * 20 + L) v4)  3 t (nI (L + 1)), w, Q, ⟨rd_rng_u hG.1 (by omega), fun i hi => ?_⟩, hN, hw, hQ, n9, ⟨ra, qa, ql, rfl, hx⟩, ra', qa', wq, am, rz, ob, fr, st, bl, rfl, hr, h2, h3, h9⟩
            show rd_fit (upd (A 0) (t * 20 + L) (nI c) i) (upd (A 1) (t * 20 + L) v3 i) (upd (A 2) (t * 20 + L) v4 i)
            by_cases ei : i = t * 20 + L
            · rw [ei, rd_us, rd_us, rd_us]
              exact ft
            · rw [rd_un ei, rd_un ei, rd_un ei]
              exact hG.2 i hi
        · have e20 : L = 20 := by omega
          subst e20
          refine br_f (nI_nlt (a := 20) (b := 20) (by omega) (by omega)) ?_
          show wpY_add _ _ _ _ _ _
          unfold wpY_add
          exact rd_y_w1 (n := 4) ht (by omega) rfl (br_f (by decide) (rd_y_w1 (n := 26) hc (by omega) rfl (br_f (by decide) (fy _ (br_f (by decide) ⟨i4, br_t (by rw [ct, eL]; rfl) ⟨rfl, I'⟩⟩)))))
      · refine br_t rfl ?_
        show wpY_add _ _ _ _ _ _
        unfold wpY_add
        exact rd_y_w1 (n := 4) ht (by omega) rfl (br_f (by decide) (rd_y_w1 (n := 26) hc (by omega) rfl (br_f (by decide) (fy _ (br_t rfl ⟨rfl, I'⟩)))))
    · refine rd_x_fits0 e (br_t rfl ?_)
      show wpY_add _ _ _ _ _ _
      unfold wpY_add
      exact rd_y_w1 (n := 4) ht (by omega) rfl (br_f (by decide) (rd_y_w0 (n := 26) (by omega) rfl e (br_t rfl ⟨rfl, I'⟩)))
  · exact rd_x_w0 (n := 4) (by omega) (by decide) e (br_t rfl (by show wpY_add _ _ _ _ _ _; unfold wpY_add; exact rd_y_w0 (n := 4) (by omega) rfl e (br_t rfl ⟨rfl, I'⟩)))
