/-! bringing a task down -/
theorem rd_fl {ex n D : Nat} {how : Int32} : ∀ (k : Nat) (A : rd_St) (w : List Nat) (Q : Nat → List Nat) (S : List Nat), rd_ph n A < k → rd_Inv n 8 D A w Q → rd_stk n A S → (ex < n → A 4 ex = 0) → ∃ A' w' Q', rd_Inv n 8 D A' w' Q' ∧ rd_FT n A A' w w' ∧ (∀ s, s < n → A' 4 s ≠ 9) ∧ (∀ s, s ∈ S → A' 4 s = 7 ∨ A' 4 s = 8) ∧
    (∀ (post : SX → Prop) (ra qa ql : Nat → Int32) (i f : Nat), i + k ≤ 1000 → k < f → rd_XL w Q ra qa ql → (∀ u', rd_RX A' w' Q' u' → post u') → wX_bringDown_17 post how f (nI S.length) (nI i) (nI w.length) (A 25 0) (A 26 0) (A 27 0) (A 28 0) (A 29 0) (A 30 0) (A 31 0) (A 0) (A 1) (A 2) (A 3) (A 4) (A 5) (A 6) (A 7) (A 8) (A 9) (A 10) (A 11) (A 12) (A 13) (A 14) (A 15) (A 16) (A 17) (A 18) (A 19) (A 20) qa ql ra (A 21) (A 22) (A 32) (A 23)) ∧
    (∀ (post : SY → Prop) (ra qa wq am rz ob fr st : Nat → Int32) (bl : Int32) (f : Nat), k < f → rd_YL ex n D A w Q ra qa wq am rz ob fr st bl → (∀ v', rd_RY ex n D A' w' Q' v' → post v') → wY_kill_20 post how f (nI S.length) (A 26 0) bl (nI w.length) (A 27 0) (A 28 0) (A 29 0) (A 25 0) (A 3) (A 0) (A 1) (A 2) st (A 5) (A 6) (A 11) (A 8) (A 7) rz (A 16) (A 18) (A 19) fr (A 9) ob (A 13) qa wq ra (A 33) am (A 21) (A 22)) := by
  intro k
  induction k with
  | zero => intro A w Q S h; omega
  | succ k ih =>
    intro A w Q S hk I hS hex
    have step : S = [] ∨ ∃ B x R S2, rd_Inv n 8 D B x R ∧ rd_stk n B S2 ∧ rd_FT n A B w x ∧ rd_ph n B < rd_ph n A ∧ (∀ r, r ∈ S → r ∈ S2 ∨ (B 4 r = 7 ∨ B 4 r = 8)) ∧ rd_Xs how A B w x Q R S S2 ∧ rd_Ys ex n D how A B w x Q R S S2 := by
      rcases List.eq_nil_or_concat S with e | ⟨T, s, e⟩
      · exact Or.inl e
      · rw [List.concat_eq_append] at e
        subst e
        refine Or.inr ?_
        obtain ⟨hs, h9⟩ := (hS.2.1 s).mp (by simp)
        obtain ⟨d, hd, ed, ec⟩ := rd_dpos I hs
        cases d with
        | zero => exact rd_fs0 I hS ed hex
        | succ d =>
          by_cases h1 : A 19 (8 * s + d) = 1
          · exact rd_fs3 I hS ed (by omega) h1 hex
          · exact rd_fs2 I hS ed (by omega) h1
    rcases step with e | ⟨B, x, R, S2, J, hS2, F, hp, hm, X, Y⟩
    · subst e
      refine ⟨A, w, Q, I, rd_FT_rf _ _ _, fun s hs z => by simpa using (hS.2.1 s).mpr ⟨hs, z⟩, fun s hs => by simp at hs, ?_, ?_⟩
      · intro post ra qa ql i f hi hf hx H
        obtain ⟨f', rfl⟩ : ∃ f', f = f' + 1 := ⟨f - 1, by omega⟩
        have P := H _ (rd_RX_mk hx)
        exact br_c (fun _ => P) (fun _ => br_t (nI_le (a := 0) (b := 0) (Nat.le_refl _) (by omega)) P)
      · intro post ra qa wq am rz ob fr st bl f hf hy H
        obtain ⟨f', rfl⟩ : ∃ f', f = f' + 1 := ⟨f - 1, by omega⟩
        exact br_t (nI_le (a := 0) (b := 0) (Nat.le_refl _) (by omega)) (H _ (rd_RY_mk hy))
    · obtain ⟨A', w', Q', J', F', n9, hm', X', Y'⟩ := ih B x R S2 (by omega) J hS2 (fun z => (F.2.2.1 ex (hex z)).1.trans (hex z))
      refine ⟨A', w', Q', J', rd_FT_tr F F', n9, fun s hs => ?_, ?_, ?_⟩
      · rcases hm s hs with z | z
        · exact hm' s z
        · exact F'.2.2.2 s z
      · intro post ra qa ql i f hi hf hx H
        obtain ⟨f', rfl⟩ : ∃ f', f = f' + 1 := ⟨f - 1, by omega⟩
        exact X post f' i ra qa ql (by omega) hx (fun ra qa ql hx => X' post ra qa ql (i + 1) f' (by omega) (by omega) hx H)
      · intro post ra qa wq am rz ob fr st bl f hf hy H
        obtain ⟨f', rfl⟩ : ∃ f', f = f' + 1 := ⟨f - 1, by omega⟩
        exact Y post f' ra qa wq am rz ob fr st bl hy (fun ra qa wq am rz ob fr st bl hy => Y' post ra qa wq am rz ob fr st bl f' (by omega) hy H)
def rd_BD (n t : Nat) (A B : rd_St) (w x : List Nat) : Prop := rd_stw A B ∧ rd_wl n A B ∧ rd_kp (fun s => A 4 s = 0 ∧ s ≠ t) A B w x ∧ (∀ s, s < n → B 4 s ≠ 9) ∧ (∀ s, A 4 s = 7 ∨ A 4 s = 8 → B 4 s = 7 ∨ B 4 s = 8) ∧ (B 4 t = 7 ∨ B 4 t = 8) ∧ rd_W B t < rd_W A t
theorem rd_W_dn {n e D t : Nat} {A B : rd_St} {w : List Nat} {Q : Nat → List Nat} (J : rd_Inv n e D B w Q) (ht : t < n) (h7 : A 4 t ≠ 7) (h8 : A 4 t ≠ 8) (hB : B 4 t = 7 ∨ B 4 t = 8) : rd_W B t < rd_W A t := by
  have h0 := J.vC t ht hB
  show rd_c (B 4 t) (B 12 t) + 2 * (B 18 t).toNatClampNeg < rd_c (A 4 t) (A 12 t) + 2 * (A 18 t).toNatClampNeg
  have c0 : (0 : Int32).toNatClampNeg = 0 := by decide
  have := rd_c_ge (A 12 t) h7 h8
  rw [h0, c0]
  rcases hB with z | z
  · rw [z, rd_c7]; omega
  · rw [z, rd_c8]; omega
theorem rd_bd {ex n D t : Nat} {A : rd_St} {w : List Nat} {Q : Nat → List Nat} (how : Int32) (I : rd_Inv n 8 D A w Q) (ht : t < n) (h7 : A 4 t ≠ 7) (h8 : A 4 t ≠ 8) (nf : rd_nf n (A 18) (A 19) (A 20) t) (n9 : ∀ s, s < n → A 4 s ≠ 9) (hex : ex < n → A 4 ex = 0 ∧ ex ≠ t) : ∃ A' w' Q', rd_Inv n 8 D A' w' Q' ∧ rd_BD n t A A' w w' ∧
    (∀ (post : SX → Prop) (u : SX), rd_RX A w Q u → (∀ u', rd_RX A' w' Q' u' → post u') → wpX_bringDown post u (nI t) how) ∧
    (∀ (post : SY → Prop) (v : SY), rd_RY ex n D A w Q v → (∀ v', rd_RY ex n D A' w' Q' v' → post v') → wpY_kill post v (nI t) how) := by
  have hn := I.vN.2
  have I1 : rd_Inv n 8 D (rd_sw (rd_sw (rd_fall A t)  32 0 (nI t))  33 0 (nI t)) (w.filter (fun x => x != t)) (rd_fq Q t) := rd_i_fall I h8 nf
  have hS : rd_stk n (rd_sw (rd_sw (rd_fall A t)  32 0 (nI t))  33 0 (nI t)) [t] := by
    refine ⟨by simp, fun s => ?_, ⟨rfl, trivial⟩, ⟨rfl, trivial⟩⟩
    show s ∈ [t] ↔ (s < n ∧ upd (A 4) t 9 s = 9)
    by_cases e : s = t
    · rw [e, rd_us]; simp [ht]
    · rw [rd_un e]
      simp only [List.mem_cons, List.not_mem_nil, or_false, e, false_iff]
      rintro ⟨a, b⟩
      exact n9 s a b
  have ph := rd_ph_bd I1
  obtain ⟨A', w', Q', J, F, m9, hm, X, Y⟩ := rd_fl (ex := ex) (how := how) 161 _ _ _ _ (by omega) I1 hS (fun z => (rd_un (hex z).2).trans (hex z).1)
  have c9 : (rd_sw (rd_sw (rd_fall A t)  32 0 (nI t))  33 0 (nI t)) 4 t = 9 := rd_us
  have wl0 : rd_wl n A (rd_sw (rd_sw (rd_fall A t)  32 0 (nI t))  33 0 (nI t)) := rd_wl_fall (A := A) h7 h8
  have kp0 : rd_kp (fun s => A 4 s = 0 ∧ s ≠ t) A (rd_sw (rd_sw (rd_fall A t)  32 0 (nI t))  33 0 (nI t)) w (w.filter (fun x => x != t)) := rd_kp_fall (A := A) (fun z => z.2 rfl)
  refine ⟨A', w', Q', J, ⟨rd_stw_tr (rd_stw_tr (rd_stw_of rd_sta_fall) (rd_stw_tr (rd_stw_sw (Or.inl rfl)) (rd_stw_sw (Or.inr rfl)))) F.1, rd_wl_tr wl0 F.2.1, rd_kp_tr kp0 F.2.2.1 (fun s z => ?_), m9, fun s z => F.2.2.2 s ?_, hm t (by simp), rd_W_dn J ht h7 h8 (hm t (by simp))⟩, ?_, ?_⟩
  · show upd (A 4) t 9 s = 0
    rw [rd_un z.2]; exact z.1
  · show upd (A 4) t 9 s = 7 ∨ upd (A 4) t 9 s = 8
    have e : s ≠ t := by
      intro e
      rw [e] at z
      rcases z with z | z
      · exact h7 z
      · exact h8 z
    rw [rd_un e]; exact z
  · rintro post u ⟨ra, qa, ql, rfl, hx⟩ H
    unfold wpX_bringDown
    refine rd_x_withdraw I (rd_RX_mk hx) ht ?_
    rintro u' ⟨ra1, qa1, ql1, rfl, hx1⟩
    exact nm_e ⟨_, X post ra1 qa1 ql1 0 162 (by omega) (by omega) hx1 H⟩
  · rintro post v ⟨ra, qa, wq, am, rz, ob, fr, st, bl, rfl, hy⟩ H
    unfold wpY_kill
    refine nm_r (e' := nI 1) (by decide) (nm_e ?_)
    refine rd_y_begin (A := rd_sw A  33 0 (nI t)) (e := 8) I (rd_RY_mk (A := rd_sw A  33 0 (nI t)) (ex := ex) hy) ht h8 ?_
    rintro v' ⟨ra1, qa1, wq1, am1, rz1, ob1, fr1, st1, bl1, rfl, hy1⟩
    exact ⟨_, Y post ra1 qa1 wq1 am1 rz1 ob1 fr1 st1 bl1 162 (by omega) hy1 H⟩
/-- a ready task without frames is completed: the component's bringDown, the reference's complete -/
theorem rd_bd0 {n D t : Nat} {A : rd_St} {w : List Nat} {Q : Nat → List Nat} (how : Int32) (I : rd_Inv n 8 D A w Q) (ht : t < n) (h0 : A 4 t = 0) (hd : A 18 t = 0) (n9 : ∀ s, s < n → A 4 s ≠ 9) : ∃ A' w' Q', rd_Inv n 8 D A' w' Q' ∧ rd_BD n t A A' w w' ∧
    (∀ (post : SX → Prop) (u : SX), rd_RX A w Q u → (∀ u', rd_RX A' w' Q' u' → post u') → wpX_bringDown post u (nI t) how) ∧
    (∀ (ex : Nat), ex = t ∨ ex = 8 → ∀ (post : SY → Prop) (v : SY), rd_RY ex n D A w Q v → (∀ v', rd_RY 8 n D A' w' Q' v' → post v') → wpY_complete post v (nI t) how) := by
  have hn := I.vN.2
  have h7 : A 4 t ≠ 7 := by rw [h0]; decide
  have h8 : A 4 t ≠ 8 := by rw [h0]; decide
  have cs : (nI t).toNatClampNeg = t := nI_clamp (by omega)
  have i8 : vp_in (nI t) 8 := vp_in_nI (by omega) (by omega)
  have nf := rd_nf_of hn I.vF ht (by rw [h0]; decide : A 4 t ≠ 2)
  have I1 : rd_Inv n 8 D (rd_sw (rd_fall A t)  32 0 (nI t)) (w.filter (fun x => x != t)) (rd_fq Q t) := rd_i_fall I h8 nf
  have c9 : (rd_sw (rd_fall A t)  32 0 (nI t)) 4 t = 9 := rd_us
  obtain ⟨A1, w1, A', w', Q', J, F, X1, X2, Y⟩ := rd_cs (ex := 8) I1 ht c9 hd how (fun z => by omega)
  have wl0 : rd_wl n A (rd_sw (rd_fall A t)  32 0 (nI t)) := rd_wl_fall (A := A) h7 h8
  have kp0 : rd_kp (fun s => A 4 s = 0 ∧ s ≠ t) A (rd_sw (rd_fall A t)  32 0 (nI t)) w (w.filter (fun x => x != t)) := rd_kp_fall (A := A) (fun z => z.2 rfl)
  refine ⟨A', w', Q', J, ⟨rd_stw_tr (rd_stw_tr (rd_stw_of rd_sta_fall) (rd_stw_sw (Or.inl rfl))) (rd_stw_of F.1), rd_wl_tr wl0 F.2.1, rd_kp_tr kp0 F.2.2.1 (fun s z => ?_), fun s hs z => ?_, fun s z => F.2.2.2.2.1 s ?_, F.2.2.2.2.2.1, rd_W_dn J ht h7 h8 F.2.2.2.2.2.1⟩, ?_, ?_⟩
  · refine ⟨Or.inl ?_, z.2⟩
    show upd (A 4) t 9 s = 0
    rw [rd_un z.2]; exact z.1
  · obtain ⟨a, b⟩ := F.2.2.2.1 s z
    have a : upd (A 4) t 9 s = 9 := a
    rw [rd_un b] at a
    exact n9 s hs a
  · show upd (A 4) t 9 s = 7 ∨ upd (A 4) t 9 s = 8
    have e : s ≠ t := by
      intro e
      rw [e] at z
      rcases z with z | z
      · exact h7 z
      · exact h8 z
    rw [rd_un e]; exact z
  · rintro post u ⟨ra, qa, ql, rfl, hx⟩ H
    unfold wpX_bringDown
    refine rd_x_withdraw I (rd_RX_mk hx) ht ?_
    rintro u' ⟨ra1, qa1, ql1, rfl, hx1⟩
    refine nm_e ⟨2, ?_⟩
    refine br_f (by decide) (br_f (by decide) ⟨vp_in_nI (n := 0) (by omega) (by omega), nm_r (e' := nI t) rd_us ⟨i8, br_t (by rw [cs]; exact hd) (nm_r (e' := 0) (by decide) (br_t rfl ?_))⟩⟩)
    refine X1 _ _ (rd_RX_mk (A := rd_sw (rd_fall A t)  32 0 (nI t)) hx1) ?_
    rintro u' ⟨ra2, qa2, ql2, rfl, hx2⟩
    refine X2 _ _ (rd_RX_mk hx2) ?_
    rintro u' ⟨ra3, qa3, ql3, rfl, hx3⟩
    exact nm_e (br_f (by decide) (br_t (by decide) (H _ (rd_RX_mk hx3))))
  · intro ex hex post v hv H
    exact rd_y_cmp0 I ht h0 Y hex post v hv H
