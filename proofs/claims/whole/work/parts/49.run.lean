/-! run -/
theorem rd_xl_begin {post : SX → Prop} {A : rd_St} {ra qa : Nat → Int32} (hk : A 26 0 = nI 0) (H : ∀ ra' ql', rd_LV ra' 0 ([] ++ [0]) → (∀ q, q < 24 → ql' q = 0) → post (rd_tX (rd_new A 0 (nI 0) (-1) (-1)) (nI ([] ++ [0]).length) ra' qa ql')) : ∀ (d k : Nat) (ql : Nat → Int32), k + d = 24 → (∀ q, q < k → ql q = 0) → wX_beginRun_37 post (nI ([] : List Nat).length) (A 25 0) (A 26 0) (A 27 0) (A 28 0) (A 29 0) (A 30 0) (A 31 0) (d + 1) (nI k) (A 0) (A 1) (A 2) (A 3) (A 4) (A 5) (A 6) (A 7) (A 8) (A 9) (A 10) (A 11) (A 12) (A 13) (A 14) (A 15) (A 16) (A 17) (A 18) (A 19) (A 20) qa ql ra (A 21) (A 22) (A 32) (A 23)
  | 0, k, ql, h1, h2 => by
    have e : k = 24 := by omega
    subst e
    exact br_t (nI_le (a := 24) (b := 24) (by omega) (by omega)) (rd_x_makeTask (n := 0) (w := []) (b := nI 0) hk (by omega) (by simp) trivial (fun ra' h => H ra' ql h h2))
  | d + 1, k, ql, h1, h2 => by
    have ck : (nI k).toNatClampNeg = k := nI_clamp (by omega)
    refine br_f (nI_ge (b := 24) (by omega) (by omega)) ⟨vp_in_nI (by omega) (by omega), nm_r (e' := upd ql k 0) (by rw [ck]) (nm_r (nI_1 k) (rd_xl_begin hk H d (k + 1) _ (by omega) (fun q hq => ?_)))⟩
    rw [rd_up]
    by_cases y : q = k
    · rw [if_pos y]
    · rw [if_neg y]
      exact h2 q (by omega)
/-- where a run begins, ahead of its first task -/
def rd_b0 (A : rd_St) (am : Nat → Int32) : rd_St := rd_sa (rd_sa (rd_sa (rd_sa (rd_sa (rd_sa (rd_sa (rd_sa A  25 (fun _ => 0))  26 (fun _ => 0))  27 (fun _ => 0))  28 (fun _ => 0))  29 (fun _ => 0))  31 (fun _ => 0))  24 am)  34 (fun _ => 1)
theorem rd_b0_i {A : rd_St} {am : Nat → Int32} (hG : rd_vG (A 0) (A 1) (A 2) (A 3)) : rd_Inv 0 8 0 (rd_b0 A am) [] (fun _ => []) := by
  have z : ∀ {P : Nat → Prop}, ∀ t, t < 0 → P t := fun t h => absurd h (by omega)
  refine ⟨hG, ⟨rfl, by omega⟩, ⟨List.nodup_nil, fun t => ⟨fun h => absurd h (by simp), fun h => absurd h.1 (by omega)⟩⟩, fun q => ⟨List.nodup_nil, fun c h => absurd h (by simp)⟩, z, z, z, z, z, z, z, z, z, ⟨rfl, by omega, ⟨0, by omega, rfl⟩, ⟨0, by omega, rfl⟩⟩, z, z, z, z, z, z, z, z, z, z, z⟩
theorem rd_b0_y {A : rd_St} {ra qa wq am rz ob fr st : Nat → Int32} (h2 : rd_rng 24 8 wq) (h9 : rd_y9 (A 4) st) : rd_YL 8 0 0 (rd_b0 A am) [] (fun _ => []) ra qa wq am rz ob fr st 0 := by
  have z : ∀ {P : Nat → Prop}, ∀ t, t < 0 → P t := fun t h => absurd h (by omega)
  exact ⟨trivial, h2, fun q h => absurd h (by omega), z, z, ⟨0, by omega, rfl, z⟩, z, z, h9, fun u _ _ => rfl⟩
theorem i_vc_run {k : Nat} {u : SX} {v : SY} (I : i_Rel k u v) (hk : k + 5 ≤ 2560) (v1 : Int32) : wpX_run (fun r u' => wpY_run (fun r' v' => r' = r ∧ i_Rel (k + 5) u' v') v v1) u v1 := by
  have I' : i_Rel (k + 5) u v := I
  obtain ⟨n, A, w, Q, hG, hN, hw, hQ, n9, ⟨ra, qa, ql, rfl, hx⟩, ra', qa', wq, am, rz, ob, fr, st, bl, rfl, hr, h2, h3, h9⟩ := I
  have e0 : (0 : Int32).toInt = 0 := by decide
  have e1 : (1 : Int32).toInt = 1 := by decide
  have e5 : (500 : Int32).toInt = 500 := by decide
  unfold wpX_run
  refine rd_x_within (fun a1 a2 => br_f (by decide) ?_) (fun no => br_t rfl ?_)
  · obtain ⟨M, hM, e⟩ : ∃ M, M ≤ 500 ∧ v1 = nI M := by
      have b1 := a1
      have b2 := a2
      rw [Int32.le_iff_toInt_le] at b1 b2
      obtain ⟨j, hj, ej⟩ := nI_of (x := v1) (by rw [Int32.lt_iff_toInt_lt]; omega)
      rw [ej, nI_toInt hj] at b2
      exact ⟨j, by omega, ej⟩
    subst e
    have I0 := rd_b0_i (am := am) hG
    have I1 := rd_i_new (b := 0) (mk := -1) (bl := -1) I0 (by omega) (by omega) (Or.inl ⟨rfl, rfl, rfl⟩)
    obtain ⟨r, m, E, B, x, R, J, m9, X, Y⟩ := rd_main hM (Nat.zero_le M) (by omega) I1 (fun s hs => by
      have : s = 0 := by omega
      subst this
      show upd (A 4) 0 0 0 ≠ 9
      rw [rd_us]
      decide) rfl
    have mu : rd_mu M (0 + 1) 0 (rd_new (rd_b0 A am) 0 (nI 0) (-1) (-1)) ≤ 80660 := by
      have := rd_ph_bd I1
      unfold rd_mu
      omega
    unfold wpX_beginRun
    refine ⟨25, rd_xl_begin (A := rd_b0 A am) (ra := ra) (qa := qa) rfl (fun ra1 ql1 hr1 hq1 => ?_) 24 0 ql (by omega) (fun q hq => absurd hq (by omega))⟩
    refine ⟨80661, X _ ra1 qa ql1 0 80661 (by omega) (by omega) ⟨hr1, fun q hq => ⟨hq1 q hq, trivial⟩⟩ (fun u' hu' => ?_)⟩
    show wpY_run _ _ _
    unfold wpY_run
    refine br_f (Int32.not_lt.mpr a1) (br_t a2 ?_)
    refine rd_y_make (A := rd_b0 A am) (n := 0) (w := []) (b := nI 0) (mk := -1) (blk := -1) rfl (by omega) (by simp) trivial (-1) (Or.inl ⟨rfl, rfl⟩) (fun ra2 wq2 hr2 hq2 => ?_)
    exact ⟨80661, Y _ ra2 qa' wq2 am _ _ fr _ 0 80661 (by omega) (rd_YL_new I0 (rd_b0_y (ra := ra') h2 h9) (by omega) (by omega) (Or.inl ⟨rfl, rfl, rfl⟩) hr2 hq2) (fun v' hv' => ⟨rfl, m, B, x, R, rd_WK_of J m9 hu' hv'⟩)⟩
  · show wpY_run _ _ _
    unfold wpY_run
    exact br_c (fun _ => ⟨rfl, I'⟩) (fun y => br_c (fun z => absurd ⟨Int32.not_lt.mp y, z⟩ no) (fun _ => ⟨rfl, I'⟩))
