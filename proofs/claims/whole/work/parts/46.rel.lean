/-! between calls -/
def rd_WK (n : Nat) (A : rd_St) (w : List Nat) (Q : Nat → List Nat) (u : SX) (v : SY) : Prop := rd_vG (A 0) (A 1) (A 2) (A 3) ∧ rd_vN n (A 26) ∧ w.length ≤ 8 ∧ (∀ q, (Q q).length ≤ 8) ∧ (∀ t, t < n → A 4 t ≠ 9) ∧ rd_RX A w Q u ∧ ∃ ra qa wq am rz ob fr st bl, v = rd_tY A (nI w.length) ra qa wq am rz ob fr st bl ∧ rd_LV ra 0 w ∧ rd_rng 24 8 wq ∧ rd_y3 n Q wq qa ∧ rd_y9 (A 4) st
theorem rd_WK_of {n D : Nat} {A : rd_St} {w : List Nat} {Q : Nat → List Nat} {u : SX} {v : SY} (I : rd_Inv n 8 D A w Q) (n9 : ∀ s, s < n → A 4 s ≠ 9) (hu : rd_RX A w Q u) (hv : rd_RY 8 n D A w Q v) : rd_WK n A w Q u v := by
  have hn := I.vN.2
  obtain ⟨ra, qa, wq, am, rz, ob, fr, st, bl, e, hy⟩ := hv
  exact ⟨I.vG, I.vN, Nat.le_trans (rd_wlen I) hn, fun q => Nat.le_trans (rd_qlen I) hn, n9, hu, ra, qa, wq, am, rz, ob, fr, st, bl, e, hy.r, hy.y2, hy.y3, hy.y9⟩
def i_Rel (_ : Nat) (u : SX) (v : SY) : Prop := ∃ n A w Q, rd_WK n A w Q u v
theorem i_up {k : Nat} {u : SX} {v : SY} (h : i_Rel k u v) : i_Rel (k + 5) u v := h
theorem rd_fit0 : rd_fit 0 0 0 := ⟨⟨0, by omega, rfl⟩, fun h => absurd h (by decide), fun h => absurd h (by decide), fun h => absurd h (by decide), fun h => absurd h (by decide), fun h => absurd h (by decide), fun h => absurd h (by decide), fun h => absurd h (by decide), fun h => absurd h (by decide)⟩
theorem i_vc0 : wpX_init (fun u => wpY_init (fun v => i_Rel 0 u v)) := by
  refine ⟨0, fun _ _ => 0, [], fun _ => [], ⟨fun t _ => ⟨0, by omega, rfl⟩, fun i _ => rd_fit0⟩, ⟨rfl, by omega⟩, by simp, fun q => by simp, fun t ht => by omega, ⟨fun _ => 0, fun _ => 0, fun _ => 0, rfl, trivial, fun q _ => ⟨rfl, trivial⟩⟩, fun _ => 0, fun _ => 0, fun _ => 0, fun _ => 0, fun _ => 0, fun _ => 0, fun _ => 0, fun _ => 0, 0, rfl, trivial, fun q _ => ⟨0, by omega, rfl⟩, fun q hq => by omega, fun t => rfl⟩
theorem i_vc_state {k : Nat} {u : SX} {v : SY} (I : i_Rel k u v) (hk : k + 5 ≤ 2560) (v1 : Int32) : wpX_state (fun r => wpY_state (fun r' => r' = r ∧ i_Rel (k + 5) u v) v v1) u v1 := by
  have I' : i_Rel (k + 5) u v := I
  obtain ⟨n, A, w, Q, hG, hN, hw, hQ, n9, ⟨ra, qa, ql, rfl, hx⟩, ra', qa', wq, am, rz, ob, fr, st, bl, rfl, hr, h2, h3, h9⟩ := I
  unfold wpX_state
  have z : ∀ {c : Int32}, v1 < 0 ∨ 4 < v1 → 0 ≤ c → c ≤ 4 → v1 ≠ c := by
    intro c h1 h2 h3 e
    rw [e] at h1
    rcases h1 with y | y
    · exact absurd h2 (Int32.not_le.mpr y)
    · exact absurd h3 (Int32.not_le.mpr y)
  have no : v1 < 0 ∨ 4 < v1 → wpY_state (fun r' => r' = -1 ∧ i_Rel (k + 5) (rd_tX A (nI w.length) ra qa ql) (rd_tY A (nI w.length) ra' qa' wq am rz ob fr st bl)) (rd_tY A (nI w.length) ra' qa' wq am rz ob fr st bl) v1 := fun h => br_f (z h (by decide) (by decide)) (br_f (z h (by decide) (by decide)) (br_f (z h (by decide) (by decide)) (br_f (z h (by decide) (by decide)) (br_f (z h (by decide) (by decide)) ⟨rfl, I'⟩))))
  refine br_c (fun y => no (Or.inl y)) (fun y => br_c (fun x => no (Or.inr x)) (fun x => ?_))
  refine br_c (fun e => br_t e ⟨rfl, I'⟩) (fun e0 => br_c (fun e => br_f e0 (br_t e ⟨rfl, I'⟩)) (fun e1 => br_c (fun e => br_f e0 (br_f e1 (br_t e ⟨rfl, I'⟩))) (fun e2 => br_c (fun e => br_f e0 (br_f e1 (br_f e2 (br_t e ⟨rfl, I'⟩)))) (fun e3 => br_c (fun e => br_f e0 (br_f e1 (br_f e2 (br_f e3 (br_t e ⟨rfl, I'⟩))))) (fun _ => trivial)))))
