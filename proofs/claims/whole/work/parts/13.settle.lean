/-! settle: both sides in lockstep -/
def rd_ST (n : Nat) (A B : rd_St) (w x : List Nat) : Prop := rd_sta A B ∧ rd_wl n A B ∧ rd_kp (fun s => A 4 s = 0 ∨ A 4 s = 9) A B w x ∧ (∀ s, B 4 s = 9 → A 4 s = 9) ∧ (∀ s, A 4 s = 7 ∨ A 4 s = 8 → B 4 s = 7 ∨ B 4 s = 8)
theorem rd_ST_rf (n : Nat) (A : rd_St) (w : List Nat) : rd_ST n A A w w := ⟨rd_sta_rf _, rd_wl_rf _ _, rd_kp_rf _ _ _, fun _ h => h, fun _ h => h⟩
theorem rd_ST_tr {n : Nat} {A B C : rd_St} {w x y : List Nat} (h : rd_ST n A B w x) (g : rd_ST n B C x y) : rd_ST n A C w y :=
  ⟨rd_sta_tr h.1 g.1, rd_wl_tr h.2.1 g.2.1, rd_kp_tr h.2.2.1 g.2.2.1 (fun t ht => by rw [(h.2.2.1 t ht).1]; exact ht), fun s z => h.2.2.2.1 s (g.2.2.2.1 s z), fun s z => g.2.2.2.2 s (h.2.2.2.2 s z)⟩
theorem rd_ST_term {n : Nat} {A : rd_St} {w : List Nat} {t : Nat} (h7 : A 4 t = 7) : rd_ST n A (rd_sw A  4 t 8) w w := by
  refine ⟨rd_sta_sw (by simp), rd_wl_term, rd_kp_cd (by rw [h7]; decide), ?_, ?_⟩
  · intro s z
    have z : upd (A 4) t 8 s = 9 := z
    by_cases e : s = t
    · rw [e, rd_us] at z; exact absurd z (by decide)
    · rw [rd_un e] at z; exact z
  · intro s z
    show upd (A 4) t 8 s = 7 ∨ upd (A 4) t 8 s = 8
    by_cases e : s = t
    · rw [e, rd_us]; exact Or.inr rfl
    · rw [rd_un e]; exact z
theorem rd_ST_left {n : Nat} {A : rd_St} {w : List Nat} {c d : Nat} {v : Int32} (h6 : A 4 c = 6) (hd : A 18 c = nI (d + 1)) (h8 : d < 8) : rd_ST n A (rd_ready (rd_sw (rd_sw A  18 c (nI d))  5 c v) c) w (w ++ [c]) := by
  have no : ¬ (fun s => A 4 s = 0 ∨ A 4 s = 9) c := by
    show ¬ (A 4 c = 0 ∨ A 4 c = 9)
    rw [h6]; decide
  refine ⟨rd_sta_tr (rd_sta_tr (rd_sta_sw (by simp)) (rd_sta_sw (by simp))) rd_sta_ready, rd_wl_left h6 hd h8, ?_, ?_, ?_⟩
  · exact rd_kp_tr (rd_kp_tr (rd_kp_dp no) (rd_kp_pl no) (fun _ z => z)) (rd_kp_ready no) (fun _ z => z)
  · intro s z
    have z : upd (A 4) c 0 s = 9 := z
    by_cases e : s = c
    · rw [e, rd_us] at z; exact absurd z (by decide)
    · rw [rd_un e] at z; exact z
  · intro s z
    show upd (A 4) c 0 s = 7 ∨ upd (A 4) c 0 s = 8
    rw [rd_un]
    · exact z
    · intro e
      rw [e, h6] at z
      exact absurd z (by decide)
theorem rd_xs_stop {post : SX → Prop} {A : rd_St} {rl : Int32} {ra qa ql : Nat → Int32} {n m f : Nat} {i : Int32} (hN : rd_vN n (A 26)) (hm : m < n) (h7 : A 4 m ≠ 7) (h6 : A 4 m = 6 → rd_lv n (A 9) (A 10) (A 4) m (A 18 m - 1)) (P : post (rd_tX A rl ra qa ql)) : wX_settle_4 post rl (A 25 0) (A 26 0) (A 27 0) (A 28 0) (A 29 0) (A 30 0) (A 31 0) (f + 1) (nI m) i (A 0) (A 1) (A 2) (A 3) (A 4) (A 5) (A 6) (A 7) (A 8) (A 9) (A 10) (A 11) (A 12) (A 13) (A 14) (A 15) (A 16) (A 17) (A 18) (A 19) (A 20) qa ql ra (A 21) (A 22) (A 32) (A 23) := by
  have hn := hN.2
  have ct : (nI m).toNatClampNeg = m := nI_clamp (by omega)
  have i8 : vp_in (nI m) 8 := vp_in_nI (by omega) (by omega)
  refine br_c (fun _ => P) (fun _ => br_f (rd_nm (by omega)) ⟨i8, br_c (fun z => ⟨i8, rd_x_hasLiving hN (fun _ => br_f (by decide) ⟨i8, br_f (by rw [ct]; exact h7) P⟩) (fun y => ?_)⟩) (fun z => ⟨i8, br_f (by rw [ct]; exact h7) P⟩)⟩)
  rw [ct] at z y
  exact absurd (h6 z) y
theorem rd_settle {ex n D : Nat} {Q : Nat → List Nat} : ∀ (k t : Nat), t < k → ∀ (A : rd_St) (w : List Nat), rd_Inv n t D A w Q → t < n → (ex < n → A 4 ex = 0) → (A 4 t = 6 → rd_lv n (A 9) (A 10) (A 4) t (A 18 t - 1)) → ∃ A' w', rd_Inv n 8 D A' w' Q ∧ rd_ST n A A' w w' ∧
    (∀ (post : SX → Prop) (ra qa ql : Nat → Int32) (i f : Nat), i + t < 8 → t + 1 < f → rd_XL w Q ra qa ql → (∀ u', rd_RX A' w' Q u' → post u') → wX_settle_4 post (nI w.length) (A 25 0) (A 26 0) (A 27 0) (A 28 0) (A 29 0) (A 30 0) (A 31 0) f (nI t) (nI i) (A 0) (A 1) (A 2) (A 3) (A 4) (A 5) (A 6) (A 7) (A 8) (A 9) (A 10) (A 11) (A 12) (A 13) (A 14) (A 15) (A 16) (A 17) (A 18) (A 19) (A 20) qa ql ra (A 21) (A 22) (A 32) (A 23)) ∧
    (∀ (post : SY → Prop) (ra qa wq am rz ob fr st : Nat → Int32) (bl : Int32) (f : Nat), t + 1 < f → rd_YL ex n D A w Q ra qa wq am rz ob fr st bl → (∀ v', rd_RY ex n D A' w' Q v' → post v') → wY_settle_2 post (A 26 0) bl (nI w.length) (A 27 0) (A 28 0) (A 29 0) (A 25 0) f (nI t) (A 3) (A 0) (A 1) (A 2) st (A 5) (A 6) (A 11) (A 8) (A 7) rz (A 16) (A 18) (A 19) fr (A 9) ob (A 13) qa wq ra (A 33) am (A 21) (A 22)) := by
  intro k
  induction k with
  | zero => intro t h; omega
  | succ k ih =>
    intro t htk A w I ht hex h6
    have hn := I.vN.2
    have hDD := I.vD.2.1
    have ct : (nI t).toNatClampNeg = t := nI_clamp (by omega)
    have i8 : vp_in (nI t) 8 := vp_in_nI (by omega) (by omega)
    by_cases h7 : A 4 t = 7
    · have n6 : A 4 t ≠ 6 := by rw [h7]; decide
      have n9 : A 4 t ≠ 9 := by rw [h7]; decide
      have n8 : A 4 t ≠ 8 := by rw [h7]; decide
      by_cases hl : rd_lv n (A 9) (A 10) (A 4) t (-1)
      · refine ⟨A, w, rd_i_close I (fun z => absurd z n6) (fun _ => hl), rd_ST_rf _ _ _, ?_, ?_⟩
        · intro post ra qa ql i f hi hf hx H
          obtain ⟨f', rfl⟩ : ∃ f', f = f' + 1 := ⟨f - 1, by omega⟩
          exact br_f (nI_ge (b := 8) (by omega) (by omega)) (br_f (rd_nm (by omega)) ⟨i8, br_f (by rw [ct]; exact n6) ⟨i8, br_t (by rw [ct]; exact h7) (rd_x_hasLiving I.vN (fun _ => br_f (by decide) (H _ (rd_RX_mk hx))) (fun z => absurd hl z))⟩⟩)
        · intro post ra qa wq am rz ob fr st bl f hf hy H
          obtain ⟨f', rfl⟩ : ∃ f', f = f' + 1 := ⟨f - 1, by omega⟩
          have e7 : st t = 7 := by rw [hy.y9 t, h7]; rfl
          refine br_f (nI_pos (by omega)) ⟨i8, br_t (by rw [ct]; exact e7) (rd_y_isWaitedFor I.vN hy.y9 (fun _ => br_f (by decide) (H _ (rd_RY_mk hy))) (fun z => ?_))⟩
          exact absurd ((rd_lv_m1 hn hDD ht I.vB I.rdp hy.y6 hy.y8 n9).mpr hl) z
      · -- the task ends
        have st1 := rd_ST_term (n := n) (w := w) h7
        -- what both sides ask first
        have X1 : ∀ (post : SX → Prop) (ra qa ql : Nat → Int32) (i f : Nat) (x : Int32), i < 8 → A 9 t = x → wX_settle_4 post (nI w.length) ((rd_sw A  4 t 8) 25 0) ((rd_sw A  4 t 8) 26 0) ((rd_sw A  4 t 8) 27 0) ((rd_sw A  4 t 8) 28 0) ((rd_sw A  4 t 8) 29 0) ((rd_sw A  4 t 8) 30 0) ((rd_sw A  4 t 8) 31 0) f x (nI (i + 1)) ((rd_sw A  4 t 8) 0) ((rd_sw A  4 t 8) 1) ((rd_sw A  4 t 8) 2) ((rd_sw A  4 t 8) 3) ((rd_sw A  4 t 8) 4) ((rd_sw A  4 t 8) 5) ((rd_sw A  4 t 8) 6) ((rd_sw A  4 t 8) 7) ((rd_sw A  4 t 8) 8) ((rd_sw A  4 t 8) 9) ((rd_sw A  4 t 8) 10) ((rd_sw A  4 t 8) 11) ((rd_sw A  4 t 8) 12) ((rd_sw A  4 t 8) 13) ((rd_sw A  4 t 8) 14) ((rd_sw A  4 t 8) 15) ((rd_sw A  4 t 8) 16) ((rd_sw A  4 t 8) 17) ((rd_sw A  4 t 8) 18) ((rd_sw A  4 t 8) 19) ((rd_sw A  4 t 8) 20) qa ql ra ((rd_sw A  4 t 8) 21) ((rd_sw A  4 t 8) 22) ((rd_sw A  4 t 8) 32) ((rd_sw A  4 t 8) 23) → wX_settle_4 post (nI w.length) (A 25 0) (A 26 0) (A 27 0) (A 28 0) (A 29 0) (A 30 0) (A 31 0) (f + 1) (nI t) (nI i) (A 0) (A 1) (A 2) (A 3) (A 4) (A 5) (A 6) (A 7) (A 8) (A 9) (A 10) (A 11) (A 12) (A 13) (A 14) (A 15) (A 16) (A 17) (A 18) (A 19) (A 20) qa ql ra (A 21) (A 22) (A 32) (A 23) := by
          intro post ra qa ql i f x hi hx P
          exact br_f (nI_ge (b := 8) (by omega) (by omega)) (br_f (rd_nm (by omega)) ⟨i8, br_f (by rw [ct]; exact n6) ⟨i8, br_t (by rw [ct]; exact h7) (rd_x_hasLiving I.vN (fun z => absurd z hl) (fun _ => br_t rfl ⟨i8, nm_r (e' := upd (A 4) t 8) (by rw [ct]) ⟨i8, nm_r (e' := x) (by rw [ct]; exact hx) (nm_r (nI_1 i) P)⟩⟩))⟩⟩)
        rcases I.vM t ht with ⟨z0, zm⟩ | ⟨m, hm, em⟩
        · -- no master
          have I1 := rd_i_term (e := 8) I ht h7 hl (fun m hm e => absurd (e.symm.trans zm) (rd_nm (by omega)))
          refine ⟨_, w, I1, st1, ?_, ?_⟩
          · intro post ra qa ql i f hi hf hx H
            obtain ⟨f', rfl⟩ : ∃ f', f = f' + 1 + 1 := ⟨f - 2, by omega⟩
            have P := H _ (rd_RX_mk hx)
            exact X1 post ra qa ql i (f' + 1) (-1) (by omega) zm (br_c (fun _ => P) (fun _ => br_t rfl P))
          · intro post ra qa wq am rz ob fr st bl f hf hy H
            obtain ⟨f', rfl⟩ : ∃ f', f = f' + 1 + 1 := ⟨f - 2, by omega⟩
            have e7 : st t = 7 := by rw [hy.y9 t, h7]; rfl
            have eo : ob t = -1 := (hy.y8 t ht n8).1 zm
            have P := H _ (rd_RY_mk (A := rd_sw A  4 t 8) (st := upd st t 8) ⟨hy.r, hy.y2, hy.y3, rd_y4_cd hy.y4 (Or.inl (Or.inr (Or.inl rfl))), hy.y5, hy.y6, hy.y7, rd_y8_cd hy.y8 (by decide) n9 n8, rd_y9_u hy.y9 rfl, hy.y10⟩)
            refine br_f (nI_pos (by omega)) ⟨i8, br_t (by rw [ct]; exact e7) (rd_y_isWaitedFor I.vN hy.y9 (fun z => absurd ((rd_lv_m1 hn hDD ht I.vB I.rdp hy.y6 hy.y8 n9).mp z) hl) (fun _ => br_t rfl ⟨i8, nm_r (e' := upd st t 8) (by rw [ct]) ⟨i8, nm_r (e' := -1) (by rw [ct]; exact zm) ⟨i8, nm_r (e' := -1) (by rw [ct]; exact eo) (br_f (by decide) (br_t (by decide) P))⟩⟩⟩))⟩
        · -- its master m
          have hmn : m < n := by omega
          have cm : (nI m).toNatClampNeg = m := nI_clamp (by omega)
          have i8m : vp_in (nI m) 8 := vp_in_nI (by omega) (by omega)
          have mt : m ≠ t := by omega
          have I1 := rd_i_term (e := m) I ht h7 hl (fun m' hm' e => (rd_inj (by omega) (by omega) (em.symm.trans e)).symm)
          have c1 : ∀ s, s ≠ t → (rd_sw A  4 t 8) 4 s = A 4 s := fun s hs => rd_un hs
          have Y1 : ∀ (post : SY → Prop) (ra qa wq am rz ob fr st : Nat → Int32) (bl : Int32) (f : Nat), rd_YL ex n D A w Q ra qa wq am rz ob fr st bl → rd_YL ex n D (rd_sw A  4 t 8) w Q ra qa wq am rz ob fr (upd st t 8) bl ∧ ((((0 : Int32) ≤ ob t → (vp_in (nI m) 8 ∧ (((upd st t 8) m = 6 → (wpY_top (fun r => ((r = ob t → (wpY_isWaitedFor (fun r => ((r = 0 → (vp_in (nI m) 8 ∧ (vp_in (nI m) 8 ∧ ∀ hg, hg = upd (A 18) m (A 18 m - 1) → (vp_in (nI m) 8 ∧ ((rz m = 0 → (vp_in (nI m) 8 ∧ (vp_in (nI m) 8 ∧ ∀ pl, pl = upd (A 5) m (A 5 m + 1) → (wY_settle_120 post (nI m) ((rd_sa (rd_sa (rd_sw A  4 t 8)  18 hg)  5 pl) 26 0) bl (nI w.length) ((rd_sa (rd_sa (rd_sw A  4 t 8)  18 hg)  5 pl) 27 0) ((rd_sa (rd_sa (rd_sw A  4 t 8)  18 hg)  5 pl) 28 0) ((rd_sa (rd_sa (rd_sw A  4 t 8)  18 hg)  5 pl) 29 0) ((rd_sa (rd_sa (rd_sw A  4 t 8)  18 hg)  5 pl) 25 0) ((rd_sa (rd_sa (rd_sw A  4 t 8)  18 hg)  5 pl) 3) ((rd_sa (rd_sa (rd_sw A  4 t 8)  18 hg)  5 pl) 0) ((rd_sa (rd_sa (rd_sw A  4 t 8)  18 hg)  5 pl) 1) ((rd_sa (rd_sa (rd_sw A  4 t 8)  18 hg)  5 pl) 2) (upd st t 8) ((rd_sa (rd_sa (rd_sw A  4 t 8)  18 hg)  5 pl) 5) ((rd_sa (rd_sa (rd_sw A  4 t 8)  18 hg)  5 pl) 6) ((rd_sa (rd_sa (rd_sw A  4 t 8)  18 hg)  5 pl) 11) ((rd_sa (rd_sa (rd_sw A  4 t 8)  18 hg)  5 pl) 8) ((rd_sa (rd_sa (rd_sw A  4 t 8)  18 hg)  5 pl) 7) rz ((rd_sa (rd_sa (rd_sw A  4 t 8)  18 hg)  5 pl) 16) ((rd_sa (rd_sa (rd_sw A  4 t 8)  18 hg)  5 pl) 18) ((rd_sa (rd_sa (rd_sw A  4 t 8)  18 hg)  5 pl) 19) fr ((rd_sa (rd_sa (rd_sw A  4 t 8)  18 hg)  5 pl) 9) ob ((rd_sa (rd_sa (rd_sw A  4 t 8)  18 hg)  5 pl) 13) qa wq ra ((rd_sa (rd_sa (rd_sw A  4 t 8)  18 hg)  5 pl) 33) am ((rd_sa (rd_sa (rd_sw A  4 t 8)  18 hg)  5 pl) 21) ((rd_sa (rd_sa (rd_sw A  4 t 8)  18 hg)  5 pl) 22))))) ∧ (¬ rz m = 0 → (wY_settle_120 post (nI m) ((rd_sa (rd_sw A  4 t 8)  18 hg) 26 0) bl (nI w.length) ((rd_sa (rd_sw A  4 t 8)  18 hg) 27 0) ((rd_sa (rd_sw A  4 t 8)  18 hg) 28 0) ((rd_sa (rd_sw A  4 t 8)  18 hg) 29 0) ((rd_sa (rd_sw A  4 t 8)  18 hg) 25 0) ((rd_sa (rd_sw A  4 t 8)  18 hg) 3) ((rd_sa (rd_sw A  4 t 8)  18 hg) 0) ((rd_sa (rd_sw A  4 t 8)  18 hg) 1) ((rd_sa (rd_sw A  4 t 8)  18 hg) 2) (upd st t 8) ((rd_sa (rd_sw A  4 t 8)  18 hg) 5) ((rd_sa (rd_sw A  4 t 8)  18 hg) 6) ((rd_sa (rd_sw A  4 t 8)  18 hg) 11) ((rd_sa (rd_sw A  4 t 8)  18 hg) 8) ((rd_sa (rd_sw A  4 t 8)  18 hg) 7) rz ((rd_sa (rd_sw A  4 t 8)  18 hg) 16) ((rd_sa (rd_sw A  4 t 8)  18 hg) 18) ((rd_sa (rd_sw A  4 t 8)  18 hg) 19) fr ((rd_sa (rd_sw A  4 t 8)  18 hg) 9) ob ((rd_sa (rd_sw A  4 t 8)  18 hg) 13) qa wq ra ((rd_sa (rd_sw A  4 t 8)  18 hg) 33) am ((rd_sa (rd_sw A  4 t 8)  18 hg) 21) ((rd_sa (rd_sw A  4 t 8)  18 hg) 22)))))))) ∧ (¬ r = 0 → post (rd_tY (rd_sw A  4 t 8) (nI w.length) ra qa wq am rz ob fr (upd st t 8) bl)))) (rd_tY (rd_sw A  4 t 8) (nI w.length) ra qa wq am rz ob fr (upd st t 8) bl) (nI m) (ob t))) ∧ (¬ r = ob t → post (rd_tY (rd_sw A  4 t 8) (nI w.length) ra qa wq am rz ob fr (upd st t 8) bl)))) (rd_tY (rd_sw A  4 t 8) (nI w.length) ra qa wq am rz ob fr (upd st t 8) bl) (nI m))) ∧ (¬ (upd st t 8) m = 6 → post (rd_tY (rd_sw A  4 t 8) (nI w.length) ra qa wq am rz ob fr (upd st t 8) bl))))) ∧ (¬ (0 : Int32) ≤ ob t → wY_settle_2 post ((rd_sw A  4 t 8) 26 0) bl (nI w.length) ((rd_sw A  4 t 8) 27 0) ((rd_sw A  4 t 8) 28 0) ((rd_sw A  4 t 8) 29 0) ((rd_sw A  4 t 8) 25 0) f (nI m) ((rd_sw A  4 t 8) 3) ((rd_sw A  4 t 8) 0) ((rd_sw A  4 t 8) 1) ((rd_sw A  4 t 8) 2) (upd st t 8) ((rd_sw A  4 t 8) 5) ((rd_sw A  4 t 8) 6) ((rd_sw A  4 t 8) 11) ((rd_sw A  4 t 8) 8) ((rd_sw A  4 t 8) 7) rz ((rd_sw A  4 t 8) 16) ((rd_sw A  4 t 8) 18) ((rd_sw A  4 t 8) 19) fr ((rd_sw A  4 t 8) 9) ob ((rd_sw A  4 t 8) 13) qa wq ra ((rd_sw A  4 t 8) 33) am ((rd_sw A  4 t 8) 21) ((rd_sw A  4 t 8) 22))) → wY_settle_2 post (A 26 0) bl (nI w.length) (A 27 0) (A 28 0) (A 29 0) (A 25 0) (f + 1) (nI t) (A 3) (A 0) (A 1) (A 2) st (A 5) (A 6) (A 11) (A 8) (A 7) rz (A 16) (A 18) (A 19) fr (A 9) ob (A 13) qa wq ra (A 33) am (A 21) (A 22)) := by
            intro post ra qa wq am rz ob fr st bl f hy
            have e7 : st t = 7 := by rw [hy.y9 t, h7]; rfl
            refine ⟨⟨hy.r, hy.y2, hy.y3, rd_y4_cd hy.y4 (Or.inl (Or.inr (Or.inl rfl))), hy.y5, hy.y6, hy.y7, rd_y8_cd hy.y8 (by decide) n9 n8, rd_y9_u hy.y9 rfl, hy.y10⟩, fun P => ?_⟩
            refine br_f (nI_pos (by omega)) ⟨i8, br_t (by rw [ct]; exact e7) (rd_y_isWaitedFor I.vN hy.y9 (fun z => absurd ((rd_lv_m1 hn hDD ht I.vB I.rdp hy.y6 hy.y8 n9).mp z) hl) (fun _ => br_t rfl ⟨i8, nm_r (e' := upd st t 8) (by rw [ct]) ⟨i8, nm_r (e' := nI m) (by rw [ct]; exact em) ⟨i8, nm_r (e' := ob t) (by rw [ct]) ?_⟩⟩⟩))⟩
            rw [cm]
            exact P
          by_cases m7 : A 4 m = 7
          · -- the master is completed too: on with it
            have m9 : A 4 m ≠ 9 := by rw [m7]; decide
            have em1 : A 10 t = -1 := by
              rcases I.vB t ht n8 with y | ⟨m', l, hm', f1, f2, f3, f4⟩
              · exact y
              · have : m' = m := rd_inj (by omega) (by omega) (f1.symm.trans em)
                subst this
                rw [I.vC m' hm' (Or.inl m7)] at f3
                have : (0 : Int32).toNatClampNeg = 0 := by decide
                omega
            obtain ⟨A', w', J, S, X, Y⟩ := ih m (by omega) (rd_sw A  4 t 8) w I1 hmn (fun z => (c1 ex (fun e => by rw [e] at hex; rw [hex ht] at h7; exact absurd h7 (by decide))).trans (hex z)) (fun z => by
              rw [c1 m mt, m7] at z
              exact absurd z (by decide))
            refine ⟨A', w', J, rd_ST_tr st1 S, ?_, ?_⟩
            · intro post ra qa ql i f hi hf hx H
              obtain ⟨f', rfl⟩ : ∃ f', f = f' + 1 := ⟨f - 1, by omega⟩
              exact X1 post ra qa ql i f' (nI m) (by omega) em (X post ra qa ql (i + 1) f' (by omega) (by omega) hx H)
            · intro post ra qa wq am rz ob fr st bl f hf hy H
              obtain ⟨f', rfl⟩ : ∃ f', f = f' + 1 := ⟨f - 1, by omega⟩
              have eo : ob t = -1 := ((hy.y8 t ht n8).2 m hmn em).2.1 m9 em1
              obtain ⟨hy1, P⟩ := Y1 post ra qa wq am rz ob fr st bl f' hy
              exact P (br_f (by rw [eo]; decide) (Y post ra qa wq am rz ob fr _ bl f' (by omega) hy1 H))
          · by_cases m6 : A 4 m = 6 ∧ ¬ rd_lv n (A 9) (A 10) ((rd_sw A  4 t 8) 4) m (A 18 m - 1)
            · -- the master waited for this one at its block
              obtain ⟨m6, nl⟩ := m6
              have m9 : A 4 m ≠ 9 := by rw [m6]; decide
              obtain ⟨d, hd, ed, ek⟩ := (I.vE m hmn).1 m6
              have ed1 : A 18 m - 1 = nI d := by rw [ed, nI_pred]
              rw [ed1] at nl
              have hdm : d < (A 18 m).toNatClampNeg := by rw [ed, nI_clamp (by omega)]; omega
              have emb : A 10 t = nI d := by
                obtain ⟨u, hu, g1, g2, g3⟩ := I.vL m hmn mt m6
                rw [ed1] at g2
                by_cases e : u = t
                · rw [← e]; exact g2
                · exact absurd ⟨u, hu, g1, g2, by rw [c1 u e]; exact g3⟩ nl
              obtain ⟨p, hp, ep⟩ := I.rpl m hmn
              have pl20 : A 12 m = 0 → p < 20 := by
                intro z
                obtain ⟨p', a, b⟩ := (I.vA m hmn).1 (Or.inr (Or.inr (Or.inr (Or.inr ⟨m6, z⟩))))
                have := rd_inj (by omega) (by omega) (ep.symm.trans b)
                omega
              have key : ∃ p', p' ≤ 21 ∧ (A 12 m = 0 → p' = p + 1) ∧ (A 12 m ≠ 0 → p' = p) := by
                by_cases z : A 12 m = 0
                · exact ⟨p + 1, by have := pl20 z; omega, fun _ => rfl, fun y => absurd z y⟩
                · exact ⟨p, hp, fun y => absurd y z, fun _ => rfl⟩
              obtain ⟨p', hp', e1, e2⟩ := key
              have I2 := rd_i_left (d := d) (p := p') I1 hmn ((c1 m mt).trans m6) hd ed nl hp'
              refine ⟨_, _, I2, rd_ST_tr st1 (rd_ST_left ((c1 m mt).trans m6) ed hd), ?_, ?_⟩
              · intro post ra qa ql i f hi hf hx H
                obtain ⟨f', rfl⟩ : ∃ f', f = f' + 1 + 1 := ⟨f - 2, by omega⟩
                have wl : w.length < 8 := Nat.lt_of_lt_of_le (rd_wlen' I hmn (by rw [m6]; decide)) hn
                refine X1 post ra qa ql i (f' + 1) (nI m) (by omega) em ?_
                have cm6 : (rd_sw A  4 t 8) 4 (nI m).toNatClampNeg = 6 := by rw [cm]; exact (c1 m mt).trans m6
                refine br_f (nI_ge (b := 8) (by omega) (by omega)) (br_f (rd_nm (by omega)) ⟨i8m, br_t cm6 ⟨i8m, rd_x_hasLiving (A := rd_sw A  4 t 8) I.vN (fun z => ?_) (fun _ => br_t rfl ⟨i8m, i8m, nm_r (e' := upd (A 18) m (nI d)) (by rw [cm]; exact congrArg _ ed1) ⟨i8m, i8m, ?_⟩⟩)⟩⟩)
                · rw [cm] at z
                  have z : rd_lv n (A 9) (A 10) ((rd_sw A  4 t 8) 4) m (A 18 m - 1) := z
                  rw [ed1] at z
                  exact absurd z nl
                · have fin : ∀ z0 : Int32, A 5 m + z0 = nI p' → wX_settle_73 post (nI m) z0 (A 5 (nI m).toNatClampNeg) (nI m) (nI w.length) ((rd_sa (rd_sw A  4 t 8)  18 (upd (A 18) m (nI d))) 25 0) ((rd_sa (rd_sw A  4 t 8)  18 (upd (A 18) m (nI d))) 26 0) ((rd_sa (rd_sw A  4 t 8)  18 (upd (A 18) m (nI d))) 27 0) ((rd_sa (rd_sw A  4 t 8)  18 (upd (A 18) m (nI d))) 28 0) ((rd_sa (rd_sw A  4 t 8)  18 (upd (A 18) m (nI d))) 29 0) ((rd_sa (rd_sw A  4 t 8)  18 (upd (A 18) m (nI d))) 30 0) ((rd_sa (rd_sw A  4 t 8)  18 (upd (A 18) m (nI d))) 31 0) ((rd_sa (rd_sw A  4 t 8)  18 (upd (A 18) m (nI d))) 0) ((rd_sa (rd_sw A  4 t 8)  18 (upd (A 18) m (nI d))) 1) ((rd_sa (rd_sw A  4 t 8)  18 (upd (A 18) m (nI d))) 2) ((rd_sa (rd_sw A  4 t 8)  18 (upd (A 18) m (nI d))) 3) ((rd_sa (rd_sw A  4 t 8)  18 (upd (A 18) m (nI d))) 4) ((rd_sa (rd_sw A  4 t 8)  18 (upd (A 18) m (nI d))) 5) ((rd_sa (rd_sw A  4 t 8)  18 (upd (A 18) m (nI d))) 6) ((rd_sa (rd_sw A  4 t 8)  18 (upd (A 18) m (nI d))) 7) ((rd_sa (rd_sw A  4 t 8)  18 (upd (A 18) m (nI d))) 8) ((rd_sa (rd_sw A  4 t 8)  18 (upd (A 18) m (nI d))) 9) ((rd_sa (rd_sw A  4 t 8)  18 (upd (A 18) m (nI d))) 10) ((rd_sa (rd_sw A  4 t 8)  18 (upd (A 18) m (nI d))) 11) ((rd_sa (rd_sw A  4 t 8)  18 (upd (A 18) m (nI d))) 12) ((rd_sa (rd_sw A  4 t 8)  18 (upd (A 18) m (nI d))) 13) ((rd_sa (rd_sw A  4 t 8)  18 (upd (A 18) m (nI d))) 14) ((rd_sa (rd_sw A  4 t 8)  18 (upd (A 18) m (nI d))) 15) ((rd_sa (rd_sw A  4 t 8)  18 (upd (A 18) m (nI d))) 16) ((rd_sa (rd_sw A  4 t 8)  18 (upd (A 18) m (nI d))) 17) ((rd_sa (rd_sw A  4 t 8)  18 (upd (A 18) m (nI d))) 18) ((rd_sa (rd_sw A  4 t 8)  18 (upd (A 18) m (nI d))) 19) ((rd_sa (rd_sw A  4 t 8)  18 (upd (A 18) m (nI d))) 20) qa ql ra ((rd_sa (rd_sw A  4 t 8)  18 (upd (A 18) m (nI d))) 21) ((rd_sa (rd_sw A  4 t 8)  18 (upd (A 18) m (nI d))) 22) ((rd_sa (rd_sw A  4 t 8)  18 (upd (A 18) m (nI d))) 32) ((rd_sa (rd_sw A  4 t 8)  18 (upd (A 18) m (nI d))) 23) := by
                    intro z0 ez
                    refine ⟨i8m, nm_r (e' := upd (A 5) m (nI p')) (by rw [cm, ez]; rfl) ?_⟩
                    refine rd_x_makeReady (rd_RX_mk (A := rd_sw (rd_sw (rd_sw A  4 t 8)  18 m (nI d))  5 m (nI p')) hx) (by omega) wl ?_
                    rintro u' ⟨ra', qa', ql', rfl, hx'⟩
                    exact H _ (rd_RX_mk hx')
                  refine br_c (fun z => fin 1 ?_) (fun z => fin 0 ?_)
                  · rw [cm] at z
                    rw [ep, e1 z, nI_1]
                  · rw [cm] at z
                    rw [ep, e2 z]
                    show nI p + nI 0 = nI p
                    rw [nI_add, Nat.add_zero]
              · intro post ra qa wq am rz ob fr st bl f hf hy H
                obtain ⟨f', rfl⟩ : ∃ f', f = f' + 1 + 1 := ⟨f - 2, by omega⟩
                have wl : w.length < 8 := Nat.lt_of_lt_of_le (rd_wlen' I hmn (by rw [m6]; decide)) hn
                obtain ⟨hy1, P⟩ := Y1 post ra qa wq am rz ob fr st bl (f' + 1) hy
                have eo : ob t = fr (8 * m + d) := ((hy.y8 t ht n8).2 m hmn em).2.2 m9 d hd emb
                have eo0 : (0 : Int32) ≤ ob t := by
                  obtain ⟨b', hb', _, g⟩ := hy.y6
                  obtain ⟨x, hx, gx⟩ := g m hmn d hdm ek
                  rw [eo, gx]
                  exact nI_pos' (by omega)
                have r4 : rz m = A 12 m := rd_y4_n hy.y4 hmn (fun e => by rw [← e] at hex; rw [hex hmn] at m6; exact absurd m6 (by decide)) m7 (by rw [m6]; decide) m9
                have c2 : (rd_sw A  4 t 8) 4 m = 6 := (c1 m mt).trans m6
                have wake : ∀ B : rd_St, B = rd_sw (rd_sw (rd_sw A  4 t 8)  18 m (nI d))  5 m (nI p') → rd_YL ex n D B w Q ra qa wq am rz ob fr (upd st t 8) bl → B 4 m = 6 → wY_settle_120 post (nI m) (B 26 0) bl (nI w.length) (B 27 0) (B 28 0) (B 29 0) (B 25 0) (B 3) (B 0) (B 1) (B 2) (upd st t 8) (B 5) (B 6) (B 11) (B 8) (B 7) rz (B 16) (B 18) (B 19) fr (B 9) ob (B 13) qa wq ra (B 33) am (B 21) (B 22) := by
                  intro B eB hB b6
                  refine rd_y_wake (rd_RY_mk hB) hn hmn wl (by rw [b6]; decide) (by rw [b6]; decide) (by rw [b6]; decide) ?_
                  rintro v' ⟨ra', qa', wq', am, rz', ob', fr', st', bl', rfl, hy'⟩
                  exact H _ (by rw [← eB]; exact rd_RY_mk hy')
                have hy2 := rd_YL_pop (t := m) (d := d) hy1 ed hd
                refine P (br_t eo0 ⟨i8m, br_t (by rw [rd_un mt, hy.y9 m, m6]; rfl) (rd_y_top (A := rd_sw A  4 t 8) (by omega) ed hd (br_t eo.symm (rd_y_isWaitedFor (A := rd_sw A  4 t 8) I.vN hy1.y9 (fun z => ?_) (fun _ => br_t rfl ⟨i8m, i8m, nm_r (e' := upd (A 18) m (nI d)) (by rw [ed1]) ⟨i8m, br_c (fun z => ⟨i8m, i8m, nm_r (e' := upd (A 5) m (nI p')) (by rw [ep, e1 (r4.symm.trans z), nI_1]) (wake (rd_sw (rd_sw (rd_sw A  4 t 8)  18 m (nI d))  5 m (nI p')) rfl hy2 c2)⟩) (fun z => wake (rd_sw (rd_sw A  4 t 8)  18 m (nI d)) (rd_sw_eq (A := rd_sw (rd_sw A  4 t 8)  18 m (nI d)) (k :=  5) (i := m) (x := nI p') (show A 5 m = nI p' by rw [e2 (fun y => z (r4.trans y))]; exact ep)).symm hy2 c2)⟩⟩))))⟩)
                rw [eo] at z
                exact absurd ((rd_lv_bl hn hDD hmn I1.vB I1.rdp hy1.y6 hy1.y7 hy1.y8 (by rw [c2]; decide) hdm ek).mp z) nl
            · -- nothing more to do at the master
              have h6' : (rd_sw A  4 t 8) 4 m = 6 → rd_lv n ((rd_sw A  4 t 8) 9) ((rd_sw A  4 t 8) 10) ((rd_sw A  4 t 8) 4) m ((rd_sw A  4 t 8) 18 m - 1) := by
                intro z
                rw [c1 m mt] at z
                exact Classical.byContradiction (fun y => m6 ⟨z, y⟩)
              have h7' : (rd_sw A  4 t 8) 4 m ≠ 7 := by rw [c1 m mt]; exact m7
              have I2 := rd_i_close I1 h6' (fun z => absurd z h7')
              refine ⟨_, w, I2, st1, ?_, ?_⟩
              · intro post ra qa ql i f hi hf hx H
                obtain ⟨f', rfl⟩ : ∃ f', f = f' + 1 + 1 := ⟨f - 2, by omega⟩
                exact X1 post ra qa ql i (f' + 1) (nI m) (by omega) em (rd_xs_stop (A := rd_sw A  4 t 8) I.vN hmn h7' h6' (H _ (rd_RX_mk hx)))
              · intro post ra qa wq am rz ob fr st bl f hf hy H
                obtain ⟨f', rfl⟩ : ∃ f', f = f' + 1 + 1 := ⟨f - 2, by omega⟩
                obtain ⟨hy1, P⟩ := Y1 post ra qa wq am rz ob fr st bl (f' + 1) hy
                have fin := H _ (rd_RY_mk hy1)
                have e7 : upd st t 8 m ≠ 7 := by
                  rw [hy1.y9 m]
                  exact fun z => h7' ((rd_cv_eq (by decide) (by decide)).mp z)
                refine P (br_c (fun _ => ⟨i8m, br_c (fun z => ?_) (fun _ => fin)⟩) (fun _ => br_f (nI_pos (by omega)) ⟨i8m, br_f (by rw [cm]; exact e7) fin⟩))
                rw [hy1.y9 m] at z
                have z6 := (rd_cv_eq (by decide) (by decide)).mp z
                obtain ⟨d, hd, ed, ek⟩ := (I1.vE m hmn).1 z6
                have hdm : d < ((rd_sw A  4 t 8) 18 m).toNatClampNeg := by rw [ed, nI_clamp (by omega)]; omega
                have lv := h6' z6
                rw [ed, nI_pred] at lv
                refine rd_y_top (A := rd_sw A  4 t 8) (by omega) ed hd (br_c (fun e => rd_y_isWaitedFor (A := rd_sw A  4 t 8) I.vN hy1.y9 (fun _ => br_f (by decide) fin) (fun y => ?_)) (fun _ => fin))
                rw [← e] at y
                exact absurd ((rd_lv_bl hn hDD hmn I1.vB I1.rdp hy1.y6 hy1.y7 hy1.y8 (by rw [z6]; decide) hdm ek).mpr lv) y
    · -- not completed
      refine ⟨A, w, rd_i_close I h6 (fun z => absurd z h7), rd_ST_rf _ _ _, ?_, ?_⟩
      · intro post ra qa ql i f hi hf hx H
        obtain ⟨f', rfl⟩ : ∃ f', f = f' + 1 := ⟨f - 1, by omega⟩
        exact rd_xs_stop I.vN ht h7 h6 (H _ (rd_RX_mk hx))
      · intro post ra qa wq am rz ob fr st bl f hf hy H
        obtain ⟨f', rfl⟩ : ∃ f', f = f' + 1 := ⟨f - 1, by omega⟩
        have e7 : st t ≠ 7 := by
          rw [hy.y9 t]
          exact fun z => h7 ((rd_cv_eq (by decide) (by decide)).mp z)
        exact br_f (nI_pos (by omega)) ⟨i8, br_f (by rw [ct]; exact e7) (H _ (rd_RY_mk hy))⟩
