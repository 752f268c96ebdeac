/-! alternatives: the component -/
theorem rd_x_within {post : Int32 → Prop} {u : SX} {a lo hi : Int32} (H1 : lo ≤ a → a ≤ hi → post 1) (H0 : ¬ (lo ≤ a ∧ a ≤ hi) → post 0) : wpX_within post u a lo hi := by
  obtain ⟨_, _, _, _, _, _, _, _, _, _, _, _, _, _, _, _, _, _, _, _, _, _, _, _, _, _, _, _, _, _, _, _, _, _, _, _⟩ := u
  unfold wpX_within
  exact br_c (fun z => H0 (fun y => absurd z (Int32.not_lt.mpr y.1))) (fun z => br_c (fun y => H0 (fun x => absurd y (Int32.not_lt.mpr x.2))) (fun y => H1 (Int32.not_lt.mp z) (Int32.not_lt.mp y)))
section
variable {A : rd_St} {t b p L : Nat} {rl : Int32} {ra qa ql : Nat → Int32}
/-- e is where the alternatives from k on end -/
def rd_eo (A : rd_St) (b L k e : Nat) : Prop := e ≤ 20 ∧ (k ≤ L → k ≤ e) ∧ ∀ i, k ≤ i → (∀ j, k ≤ j → j < i → 16 ≤ rd_op (A 0) (A 3) b j ∧ rd_op (A 0) (A 3) b j ≤ 20) → (e ≤ i ↔ ¬ (16 ≤ rd_op (A 0) (A 3) b i ∧ rd_op (A 0) (A 3) b i ≤ 20))
theorem rd_xl_eo {post : Int32 → Prop} (h : rd_at A t b p L) : ∀ (d k : Nat), L ≤ k + d → k + d < 500 → (∀ e, rd_eo A b L k e → post (nI e)) → wX_endOfAlternatives_32 post (nI (20 * b)) (nI L) rl (A 25 0) (A 26 0) (A 27 0) (A 28 0) (A 29 0) (A 30 0) (A 31 0) (A 0) (A 1) (A 2) (A 3) (A 4) (A 5) (A 6) (A 7) (A 8) (A 9) (A 10) (A 11) (A 12) (A 13) (A 14) (A 15) (A 16) (A 17) (A 18) (A 19) (A 20) qa ql ra (A 21) (A 22) (A 32) (A 23) (d + 1) (nI k)
  | d, k, h1, h2, H => by
    have hL := h.2.2.2.2.2
    have hb := h.2.1
    by_cases z : L ≤ k
    · refine br_t (nI_le z (by omega)) (H L ⟨hL, fun y => by omega, fun i hi _ => ⟨fun _ y => ?_, fun _ => by omega⟩⟩)
      have := rd_at_in h y
      omega
    · cases d with
      | zero => omega
      | succ d =>
        have ik : nI (20 * b) + nI k = nI (20 * b + k) := nI_add _ _
        have ck : (nI (20 * b + k)).toNatClampNeg = 20 * b + k := nI_clamp (by omega)
        have eo := (rd_at_op h k).1 (by omega)
        refine br_f (nI_ge (by omega) (by omega)) ?_
        rw [ik, ck, ← eo]
        refine ⟨vp_in_nI (by omega) (by omega), rd_x_within (fun y1 y2 => br_f (by decide) (nm_r (nI_1 k) (rd_xl_eo h d (k + 1) (by omega) (by omega) (fun e he => H e ⟨he.1, fun _ => by have := he.2.1 (by omega); omega, fun i hi hj => ?_⟩)))) (fun y => br_t rfl (H k ⟨by omega, fun _ => Nat.le_refl _, fun i hi hj => ?_⟩))⟩
        · by_cases x : i = k
          · subst x
            have := he.2.1 (by omega)
            exact ⟨fun q => by omega, fun q => absurd ⟨y1, y2⟩ q⟩
          · exact he.2.2 i (by omega) (fun j a1 a2 => hj j (by omega) a2)
        · have x : i = k := by
            apply Classical.byContradiction
            intro x
            exact y (hj k (Nat.le_refl _) (by omega))
          subst x
          exact ⟨fun _ => y, fun _ => Nat.le_refl _⟩
theorem rd_x_eo {post : Int32 → Prop} (h : rd_at A t b p L) (ht : t < 8) (H : ∀ e, rd_eo A b L (p + 1) e → post (nI e)) : wpX_endOfAlternatives post (rd_tX A rl ra qa ql) (nI t) := by
  have ct : (nI t).toNatClampNeg = t := nI_clamp (by omega)
  have i8 : vp_in (nI t) 8 := vp_in_nI ht (by omega)
  obtain ⟨h1, h2, h3, h4, h5, h6⟩ := id h
  have cb : (nI b).toNatClampNeg = b := nI_clamp (by omega)
  have e20 : nI b * 20 = nI (20 * b) := by
    have := rd_ix b 0 20 20 rfl
    rw [nI_0, Int32.add_zero] at this
    exact this
  unfold wpX_endOfAlternatives
  refine ⟨i8, nm_r (e' := nI (20 * b)) (by rw [ct, h1, e20]) ⟨i8, by rw [ct, h1]; exact vp_in_nI h2 (by omega), nm_r (e' := nI L) (by rw [ct, h1, cb]; exact h5) ⟨i8, nm_r (e' := nI (p + 1)) (by rw [ct, h3, nI_1]) ⟨_, rd_xl_eo h 21 (p + 1) (by omega) (by omega) H⟩⟩⟩⟩
theorem rd_x_isOpen {post : Int32 → Prop} (h : rd_at A t b p L) (ht : t < 8) {i : Nat} (hi : i < L) (H1 : rd_opn (rd_op (A 0) (A 3) b i) (A 6 t) = true → post 1) (H0 : rd_opn (rd_op (A 0) (A 3) b i) (A 6 t) = false → post 0) : wpX_isOpen post (rd_tX A rl ra qa ql) (nI t) (nI i) := by
  have ct : (nI t).toNatClampNeg = t := nI_clamp (by omega)
  have i8 : vp_in (nI t) 8 := vp_in_nI ht (by omega)
  have eo := (rd_at_op h i).1 hi
  obtain ⟨h1, h2, h3, h4, h5, h6⟩ := id h
  have ii : nI b * 20 + nI i = nI (20 * b + i) := rd_ix b i 20 20 rfl
  unfold wpX_isOpen
  refine ⟨i8, ?_⟩
  rw [ct, h1, ii, nI_clamp (by omega), ← eo]
  refine ⟨vp_in_nI (by omega) (by omega), nm_e (br_c (fun z => H1 (rd_opn_t.mpr (Or.inl z))) (fun z => br_c (fun y => ⟨i8, br_c (fun x => H0 (rd_opn_f.mpr ?_)) (fun x => H1 (rd_opn_t.mpr (Or.inr ⟨y, x⟩)))⟩) (fun y => H0 (rd_opn_f.mpr ?_))))⟩
  · rintro (q | q)
    · exact z q
    · exact q.2 x
  · rintro (q | q)
    · exact z q
    · exact y q.1
/-- the scan for a call of an entry -/
def rd_sc (A : rd_St) (t b : Nat) (x : Int32) : Nat → Nat → Option Nat := rd_scan (rd_op (A 0) (A 3) b) (fun i => rd_opn (rd_op (A 0) (A 3) b i) (A 6 t) && decide (A 1 (20 * b + i) = x))
theorem rd_xl_pm {post : Int32 → Prop} {x : Int32} {e k0 : Nat} (h : rd_at A t b p L) (ht : t < 8) (he : rd_eo A b L k0 e) : ∀ (d k : Nat), 21 ≤ k + d → k + d < 500 → k0 ≤ k → (∀ j, k0 ≤ j → j < k → 16 ≤ rd_op (A 0) (A 3) b j ∧ rd_op (A 0) (A 3) b j ≤ 20) → (rd_sc A t b x d k = none → post (-1)) → (∀ i, rd_sc A t b x d k = some i → post (A 2 (20 * b + i))) → wX_placeToMeet_73 post (nI t) x (nI (20 * b)) (nI e) rl (A 25 0) (A 26 0) (A 27 0) (A 28 0) (A 29 0) (A 30 0) (A 31 0) (A 0) (A 1) (A 2) (A 3) (A 4) (A 5) (A 6) (A 7) (A 8) (A 9) (A 10) (A 11) (A 12) (A 13) (A 14) (A 15) (A 16) (A 17) (A 18) (A 19) (A 20) qa ql ra (A 21) (A 22) (A 32) (A 23) (d + 1) (nI k) := by
  intro d
  induction d with
  | zero =>
    intro k h1 h2 h3 h4 H0 H1
    have := he.1
    exact br_t (nI_le (by omega) (by omega)) (H0 rfl)
  | succ d ih =>
    intro k h1 h2 h3 h4 H0 H1
    have hb := h.2.1
    have hL := h.2.2.2.2.2
    by_cases z : 16 ≤ rd_op (A 0) (A 3) b k ∧ rd_op (A 0) (A 3) b k ≤ 20
    · have hk := rd_at_in h z
      have he1 := he.1
      have ek : ¬ e ≤ k := fun y => (he.2.2 k h3 h4).mp y z
      have ik : nI (20 * b) + nI k = nI (20 * b + k) := nI_add _ _
      have ck : (nI (20 * b + k)).toNatClampNeg = 20 * b + k := nI_clamp (by omega)
      have i80 : vp_in (nI (20 * b + k)) 80 := vp_in_nI (by omega) (by omega)
      have nxt : (rd_opn (rd_op (A 0) (A 3) b k) (A 6 t) && decide (A 1 (20 * b + k) = x)) = false → wX_placeToMeet_73 post (nI t) x (nI (20 * b)) (nI e) rl (A 25 0) (A 26 0) (A 27 0) (A 28 0) (A 29 0) (A 30 0) (A 31 0) (A 0) (A 1) (A 2) (A 3) (A 4) (A 5) (A 6) (A 7) (A 8) (A 9) (A 10) (A 11) (A 12) (A 13) (A 14) (A 15) (A 16) (A 17) (A 18) (A 19) (A 20) qa ql ra (A 21) (A 22) (A 32) (A 23) (d + 1) (nI (k + 1)) := by
        intro y
        have e' : rd_sc A t b x (d + 1) k = rd_sc A t b x d (k + 1) := rd_scan_n _ _ d k z y
        rw [e'] at H0 H1
        refine ih (k + 1) (by omega) (by omega) (by omega) (fun j a1 a2 => ?_) H0 H1
        by_cases q : j = k
        · rw [q]; exact z
        · exact h4 j a1 (by omega)
      refine br_f (nI_ge (by omega) (by omega)) ?_
      rw [ik, ck]
      refine ⟨i80, br_c (fun y => rd_x_isOpen (i := k) h ht hk (fun q => br_f (by decide) ⟨i80, H1 k (rd_scan_s _ _ d k z (by rw [q]; simpa using y))⟩) (fun q => br_t rfl (nm_r (nI_1 k) (nxt (by rw [q]; rfl))))) (fun y => nm_r (nI_1 k) (nxt ?_))⟩
      rw [decide_eq_false y]
      exact Bool.and_false _
    · have ek : e ≤ k := (he.2.2 k h3 h4).mpr z
      exact br_t (nI_le ek (by omega)) (H0 (rd_scan_no _ _ (d + 1) k z))
/-- where a called task goes on; -1: it does not wait for such a call -/
theorem rd_x_pm {post : Int32 → Prop} {x : Int32} (h : rd_at A t b p L) (ht : t < 8) (H3 : A 4 t = 3 → p < 20 → (A 1 (20 * b + p) = x → post (nI (p + 1))) ∧ (A 1 (20 * b + p) ≠ x → post (-1))) (h3 : A 4 t = 3 → p < 20) (H4 : A 4 t = 4 → (rd_sc A t b x 21 (p + 1) = none → post (-1)) ∧ (∀ i, rd_sc A t b x 21 (p + 1) = some i → post (A 2 (20 * b + i)))) (H0 : A 4 t ≠ 3 → A 4 t ≠ 4 → post (-1)) : wpX_placeToMeet post (rd_tX A rl ra qa ql) (nI t) x := by
  have ct : (nI t).toNatClampNeg = t := nI_clamp (by omega)
  have i8 : vp_in (nI t) 8 := vp_in_nI ht (by omega)
  obtain ⟨h1, h2, h3', h4, h5, h6⟩ := id h
  have e20 : nI b * 20 = nI (20 * b) := by
    have := rd_ix b 0 20 20 rfl
    rw [nI_0, Int32.add_zero] at this
    exact this
  unfold wpX_placeToMeet
  refine ⟨i8, nm_r (e' := nI p) (by rw [ct]; exact h3') ⟨i8, nm_r (e' := nI (20 * b)) (by rw [ct, h1, e20]) ⟨i8, ?_⟩⟩⟩
  rw [ct]
  refine br_c (fun z => ?_) (fun z => ⟨i8, br_c (fun y => ?_) (fun y => H0 z y)⟩)
  · have hp := h3 z
    have ip : nI (20 * b) + nI p = nI (20 * b + p) := nI_add _ _
    rw [ip, nI_clamp (by omega), nI_1]
    exact ⟨vp_in_nI (by omega) (by omega), br_c (fun y => (H3 z hp).1 y) (fun y => (H3 z hp).2 y)⟩
  · refine rd_x_eo h ht (fun e he => nm_r (nI_1 p) ⟨_, rd_xl_pm h ht he 21 (p + 1) (by omega) (by omega) (Nat.le_refl _) (fun j a1 a2 => by omega) (H4 y).1 (H4 y).2⟩)
end
