/-! alternatives, on both sides -/
def rd_opn (op x : Int32) : Bool := decide (op = 16 ∨ (op = 17 ∧ x ≠ 0))
theorem rd_opn_t {op x : Int32} : rd_opn op x = true ↔ (op = 16 ∨ (op = 17 ∧ x ≠ 0)) := by
  unfold rd_opn
  exact decide_eq_true_iff
theorem rd_opn_f {op x : Int32} : rd_opn op x = false ↔ ¬ (op = 16 ∨ (op = 17 ∧ x ≠ 0)) := by
  unfold rd_opn
  exact decide_eq_false_iff_not
/-- where a task stands: its body, its place, the body's length -/
def rd_at (A : rd_St) (t b p L : Nat) : Prop := A 8 t = nI b ∧ b < 4 ∧ A 5 t = nI p ∧ p ≤ 21 ∧ A 3 b = nI L ∧ L ≤ 20
section
variable {A : rd_St} {t b p L : Nat}
theorem rd_at_op (h : rd_at A t b p L) (i : Nat) : (i < L → rd_op (A 0) (A 3) b i = A 0 (20 * b + i)) ∧ (¬ i < L → rd_op (A 0) (A 3) b i = 25) := by
  obtain ⟨h1, h2, h3, h4, h5, h6⟩ := h
  have e : (A 3 b).toNatClampNeg = L := by rw [h5]; exact nI_clamp (by omega)
  exact ⟨fun z => rd_op_i (by rw [e]; exact z), fun z => rd_op_o (by rw [e]; exact z)⟩
theorem rd_at_in (h : rd_at A t b p L) {i : Nat} (z : 16 ≤ rd_op (A 0) (A 3) b i ∧ rd_op (A 0) (A 3) b i ≤ 20) : i < L := by
  apply Classical.byContradiction
  intro y
  rw [(rd_at_op h i).2 y] at z
  exact absurd z (by decide)
variable {rl : Int32} {ra qa wq am rz ob fr st ql : Nat → Int32} {bl : Int32}
theorem rd_y_opAt {post : Int32 → Prop} (h : rd_at A t b p L) (ht : t < 8) {i : Nat} (hi : i < 1000) (P : post (rd_op (A 0) (A 3) b i)) : wpY_opAt post (rd_tY A rl ra qa wq am rz ob fr st bl) (nI t) (nI i) := by
  have h' := rd_at_op h i
  obtain ⟨h1, h2, h3, h4, h5, h6⟩ := h
  have ct : (nI t).toNatClampNeg = t := nI_clamp (by omega)
  have cb : (nI b).toNatClampNeg = b := nI_clamp (by omega)
  have i8 : vp_in (nI t) 8 := vp_in_nI ht (by omega)
  unfold wpY_opAt
  refine ⟨i8, ?_⟩
  rw [ct, h1, cb, h5, rd_ix' b i 20 20 rfl]
  refine ⟨vp_in_nI h2 (by omega), ?_⟩
  by_cases z : i < L
  · rw [h'.1 z] at P
    refine br_f (nI_ge z (by omega)) ⟨i8, vp_in_nI (by omega) (by omega), ?_⟩
    rw [nI_clamp (by omega)]
    exact P
  · rw [h'.2 z] at P
    exact br_t (nI_le (by omega) (by omega)) P
theorem rd_y_aAt {post : Int32 → Prop} (h : rd_at A t b p L) (ht : t < 8) {i : Nat} (hi : i < 20) (P : post (A 1 (20 * b + i))) : wpY_aAt post (rd_tY A rl ra qa wq am rz ob fr st bl) (nI t) (nI i) := by
  obtain ⟨h1, h2, h3, h4, h5, h6⟩ := h
  have ct : (nI t).toNatClampNeg = t := nI_clamp (by omega)
  unfold wpY_aAt
  refine ⟨vp_in_nI ht (by omega), ?_⟩
  rw [ct, h1, rd_ix' b i 20 20 rfl, nI_clamp (by omega)]
  exact ⟨vp_in_nI (by omega) (by omega), P⟩
theorem rd_y_isOpen {post : Int32 → Prop} (h : rd_at A t b p L) (ht : t < 8) {i : Nat} (hi : i < 1000) (H1 : rd_opn (rd_op (A 0) (A 3) b i) (A 6 t) = true → post 1) (H0 : rd_opn (rd_op (A 0) (A 3) b i) (A 6 t) = false → post 0) : wpY_isOpen post (rd_tY A rl ra qa wq am rz ob fr st bl) (nI t) (nI i) := by
  have ct : (nI t).toNatClampNeg = t := nI_clamp (by omega)
  unfold wpY_isOpen
  refine rd_y_opAt h ht hi (br_c (fun z => H1 (rd_opn_t.mpr (Or.inl z))) (fun z => rd_y_opAt h ht hi (br_c (fun y => ⟨vp_in_nI ht (by omega), ?_⟩) (fun y => H0 (rd_opn_f.mpr ?_)))))
  · rw [ct]
    exact br_c (fun x => H0 (rd_opn_f.mpr (by rintro (q | q); exact z q; exact q.2 x))) (fun x => H1 (rd_opn_t.mpr (Or.inr ⟨y, x⟩)))
  · rintro (q | q)
    · exact z q
    · exact y q.1
theorem rd_lt16 {x : Int32} : ¬ x < 16 ↔ 16 ≤ x := Int32.not_lt
theorem rd_gt20 {x : Int32} : ¬ 20 < x ↔ x ≤ 20 := Int32.not_lt
/-- the first of ELSE, AFTER, TERMINATE -/
theorem rd_yl_oth {post : Int32 → Prop} (h : rd_at A t b p L) (ht : t < 8) : ∀ (d i : Nat), 21 ≤ i + d → i + d < 500 → (rd_scan (rd_op (A 0) (A 3) b) (fun i => decide (18 ≤ rd_op (A 0) (A 3) b i)) d i = none → post (-1)) → (∀ k, rd_scan (rd_op (A 0) (A 3) b) (fun i => decide (18 ≤ rd_op (A 0) (A 3) b i)) d i = some k → post (nI k)) → wY_other_9 post (nI t) (A 26 0) bl rl (A 27 0) (A 28 0) (A 29 0) (A 25 0) (A 3) (A 0) (A 1) (A 2) st (A 5) (A 6) (A 11) (A 8) (A 7) rz (A 16) (A 18) (A 19) fr (A 9) ob (A 13) qa wq ra (A 33) am (A 21) (A 22) (d + 1) (nI i) := by
  intro d
  induction d with
  | zero =>
    intro i h1 h2 H0 H1
    have e : rd_op (A 0) (A 3) b i = 25 := (rd_at_op h i).2 (by have := h.2.2.2.2.2; omega)
    rw [wY_other_9]
    refine rd_y_opAt (i := i) h ht (by omega) ?_
    rw [e]
    refine br_f (by decide) (rd_y_opAt (i := i) h ht (by omega) ?_)
    rw [e]
    exact br_t (by decide) (H0 rfl)
  | succ d ih =>
    intro i h1 h2 H0 H1
    by_cases z : 16 ≤ rd_op (A 0) (A 3) b i ∧ rd_op (A 0) (A 3) b i ≤ 20
    · rw [wY_other_9]
      refine rd_y_opAt (i := i) h ht (by omega) (br_f (rd_lt16.mpr z.1) (rd_y_opAt (i := i) h ht (by omega) (br_f (rd_gt20.mpr z.2) (rd_y_opAt (i := i) h ht (by omega) ?_))))
      by_cases y : 18 ≤ rd_op (A 0) (A 3) b i
      · exact br_f (Int32.not_lt.mpr y) (H1 i (rd_scan_s _ _ d i z (by simpa using y)))
      · have e := rd_scan_n (rd_op (A 0) (A 3) b) (fun i => decide (18 ≤ rd_op (A 0) (A 3) b i)) d i z (by simpa using y)
        rw [e] at H0 H1
        exact br_t (Int32.not_le.mp y) (nm_r (nI_1 i) (ih (i + 1) (by omega) (by omega) H0 H1))
    · have e := rd_scan_no (rd_op (A 0) (A 3) b) (fun i => decide (18 ≤ rd_op (A 0) (A 3) b i)) (d + 1) i z
      rw [wY_other_9]
      refine rd_y_opAt (i := i) h ht (by omega) (br_c (fun _ => H0 e) (fun y => rd_y_opAt (i := i) h ht (by omega) (br_c (fun _ => H0 e) (fun x => ?_))))
      exact absurd ⟨rd_lt16.mp y, rd_gt20.mp x⟩ z
theorem rd_y_other {post : Int32 → Prop} (h : rd_at A t b p L) (ht : t < 8) (H0 : rd_oth (A 0) (A 3) b p = none → post (-1)) (H1 : ∀ k, rd_oth (A 0) (A 3) b p = some k → post (nI k)) : wpY_other post (rd_tY A rl ra qa wq am rz ob fr st bl) (nI t) := by
  have ct : (nI t).toNatClampNeg = t := nI_clamp (by omega)
  have hp := h.2.2.2.1
  unfold wpY_other
  exact ⟨vp_in_nI ht (by omega), nm_r (e' := nI (p + 1)) (by rw [ct, h.2.2.1, nI_1]) ⟨_, rd_yl_oth h ht 21 (p + 1) (by omega) (by omega) H0 H1⟩⟩
theorem rd_yl_hop {post : Int32 → Prop} (h : rd_at A t b p L) (ht : t < 8) : ∀ (d i : Nat), 21 ≤ i + d → i + d < 500 → (rd_scan (rd_op (A 0) (A 3) b) (fun i => rd_opn (rd_op (A 0) (A 3) b i) (A 6 t)) d i = none → post 0) → (∀ k, rd_scan (rd_op (A 0) (A 3) b) (fun i => rd_opn (rd_op (A 0) (A 3) b i) (A 6 t)) d i = some k → post 1) → wY_hasOpen_9 post (nI t) (A 26 0) bl rl (A 27 0) (A 28 0) (A 29 0) (A 25 0) (A 3) (A 0) (A 1) (A 2) st (A 5) (A 6) (A 11) (A 8) (A 7) rz (A 16) (A 18) (A 19) fr (A 9) ob (A 13) qa wq ra (A 33) am (A 21) (A 22) (d + 1) (nI i) := by
  intro d
  induction d with
  | zero =>
    intro i h1 h2 H0 H1
    have e : rd_op (A 0) (A 3) b i = 25 := (rd_at_op h i).2 (by have := h.2.2.2.2.2; omega)
    rw [wY_hasOpen_9]
    refine rd_y_opAt (i := i) h ht (by omega) ?_
    rw [e]
    refine br_f (by decide) (rd_y_opAt (i := i) h ht (by omega) ?_)
    rw [e]
    exact br_t (by decide) (H0 rfl)
  | succ d ih =>
    intro i h1 h2 H0 H1
    by_cases z : 16 ≤ rd_op (A 0) (A 3) b i ∧ rd_op (A 0) (A 3) b i ≤ 20
    · rw [wY_hasOpen_9]
      refine rd_y_opAt (i := i) h ht (by omega) (br_f (rd_lt16.mpr z.1) (rd_y_opAt (i := i) h ht (by omega) (br_f (rd_gt20.mpr z.2) (rd_y_isOpen (i := i) h ht (by omega) (fun y => br_f (by decide) (H1 i (rd_scan_s _ _ d i z y))) (fun y => br_t rfl (nm_r (nI_1 i) ?_))))))
      have e := rd_scan_n (rd_op (A 0) (A 3) b) (fun i => rd_opn (rd_op (A 0) (A 3) b i) (A 6 t)) d i z y
      rw [e] at H0 H1
      exact ih (i + 1) (by omega) (by omega) H0 H1
    · have e := rd_scan_no (rd_op (A 0) (A 3) b) (fun i => rd_opn (rd_op (A 0) (A 3) b i) (A 6 t)) (d + 1) i z
      rw [wY_hasOpen_9]
      refine rd_y_opAt (i := i) h ht (by omega) (br_c (fun _ => H0 e) (fun y => rd_y_opAt (i := i) h ht (by omega) (br_c (fun _ => H0 e) (fun x => ?_))))
      exact absurd ⟨rd_lt16.mp y, rd_gt20.mp x⟩ z
theorem rd_y_hasOpen {post : Int32 → Prop} (h : rd_at A t b p L) (ht : t < 8) (H0 : rd_scan (rd_op (A 0) (A 3) b) (fun i => rd_opn (rd_op (A 0) (A 3) b i) (A 6 t)) 21 (p + 1) = none → post 0) (H1 : ∀ k, rd_scan (rd_op (A 0) (A 3) b) (fun i => rd_opn (rd_op (A 0) (A 3) b i) (A 6 t)) 21 (p + 1) = some k → post 1) : wpY_hasOpen post (rd_tY A rl ra qa wq am rz ob fr st bl) (nI t) := by
  have ct : (nI t).toNatClampNeg = t := nI_clamp (by omega)
  have hp := h.2.2.2.1
  unfold wpY_hasOpen
  exact ⟨vp_in_nI ht (by omega), nm_r (e' := nI (p + 1)) (by rw [ct, h.2.2.1, nI_1]) ⟨_, rd_yl_hop h ht 21 (p + 1) (by omega) (by omega) H0 H1⟩⟩
/-- an alternative of an entry, or (with S) one whose queue has some -/
theorem rd_yl_alt {post : Int32 → Prop} (h : rd_at A t b p L) (ht : t < 8) (x : Int32) (S : Nat → Bool) (hS : ∀ i, rd_opn (rd_op (A 0) (A 3) b i) (A 6 t) = true → i < 20 → ∀ (P1 P0 : Prop), (S i = true → P1) → (S i = false → P0) → ((0 ≤ x → ((A 1 (20 * b + i) = x → P1) ∧ (¬ A 1 (20 * b + i) = x → P0))) ∧ (¬ 0 ≤ x → (vp_in (3 * nI t + A 1 (20 * b + i)) 24 ∧ ((wq (3 * nI t + A 1 (20 * b + i)).toNatClampNeg ≤ 0 → P0) ∧ (¬ wq (3 * nI t + A 1 (20 * b + i)).toNatClampNeg ≤ 0 → P1)))))) : ∀ (d i : Nat), 21 ≤ i + d → i + d < 500 → (rd_scan (rd_op (A 0) (A 3) b) (fun i => rd_opn (rd_op (A 0) (A 3) b i) (A 6 t) && S i) d i = none → post (-1)) → (∀ k, rd_scan (rd_op (A 0) (A 3) b) (fun i => rd_opn (rd_op (A 0) (A 3) b i) (A 6 t) && S i) d i = some k → post (nI k)) → wY_alternative_9 post (nI t) x (A 26 0) bl rl (A 27 0) (A 28 0) (A 29 0) (A 25 0) (A 3) (A 0) (A 1) (A 2) st (A 5) (A 6) (A 11) (A 8) (A 7) rz (A 16) (A 18) (A 19) fr (A 9) ob (A 13) qa wq ra (A 33) am (A 21) (A 22) (d + 1) (nI i) := by
  intro d
  induction d with
  | zero =>
    intro i h1 h2 H0 H1
    have e : rd_op (A 0) (A 3) b i = 25 := (rd_at_op h i).2 (by have := h.2.2.2.2.2; omega)
    rw [wY_alternative_9]
    refine rd_y_opAt (i := i) h ht (by omega) ?_
    rw [e]
    refine br_f (by decide) (rd_y_opAt (i := i) h ht (by omega) ?_)
    rw [e]
    exact br_t (by decide) (H0 rfl)
  | succ d ih =>
    intro i h1 h2 H0 H1
    by_cases z : 16 ≤ rd_op (A 0) (A 3) b i ∧ rd_op (A 0) (A 3) b i ≤ 20
    · have hiL := rd_at_in h z
      have i20 : i < 20 := by have := h.2.2.2.2.2; omega
      have nxt : (rd_opn (rd_op (A 0) (A 3) b i) (A 6 t) && S i) = false → wY_alternative_9 post (nI t) x (A 26 0) bl rl (A 27 0) (A 28 0) (A 29 0) (A 25 0) (A 3) (A 0) (A 1) (A 2) st (A 5) (A 6) (A 11) (A 8) (A 7) rz (A 16) (A 18) (A 19) fr (A 9) ob (A 13) qa wq ra (A 33) am (A 21) (A 22) (d + 1) (nI (i + 1)) := by
        intro y
        have e := rd_scan_n (rd_op (A 0) (A 3) b) (fun i => rd_opn (rd_op (A 0) (A 3) b i) (A 6 t) && S i) d i z y
        rw [e] at H0 H1
        exact ih (i + 1) (by omega) (by omega) H0 H1
      rw [wY_alternative_9]
      refine rd_y_opAt (i := i) h ht (by omega) (br_f (rd_lt16.mpr z.1) (rd_y_opAt (i := i) h ht (by omega) (br_f (rd_gt20.mpr z.2) (rd_y_isOpen (i := i) h ht (by omega) (fun y => br_f (by decide) (rd_y_aAt (i := i) h ht i20 ?_)) (fun y => br_t rfl (nm_r (nI_1 i) (nxt (by rw [y]; rfl))))))))
      have key := hS i y i20 (post (nI i)) (wY_alternative_9 post (nI t) x (A 26 0) bl rl (A 27 0) (A 28 0) (A 29 0) (A 25 0) (A 3) (A 0) (A 1) (A 2) st (A 5) (A 6) (A 11) (A 8) (A 7) rz (A 16) (A 18) (A 19) fr (A 9) ob (A 13) qa wq ra (A 33) am (A 21) (A 22) (d + 1) (nI (i + 1))) (fun q => H1 i (rd_scan_s _ _ d i z (by rw [y, q]; rfl))) (fun q => nxt (by rw [y, q]; rfl))
      exact ⟨fun g => ⟨fun g1 => (key.1 g).1 g1, fun g1 => nm_r (nI_1 i) ((key.1 g).2 g1)⟩, fun g => ⟨(key.2 g).1, fun g1 => nm_r (nI_1 i) ((key.2 g).2.1 g1), fun g1 => (key.2 g).2.2 g1⟩⟩
    · have e := rd_scan_no (rd_op (A 0) (A 3) b) (fun i => rd_opn (rd_op (A 0) (A 3) b i) (A 6 t) && S i) (d + 1) i z
      rw [wY_alternative_9]
      refine rd_y_opAt (i := i) h ht (by omega) (br_c (fun _ => H0 e) (fun y => rd_y_opAt (i := i) h ht (by omega) (br_c (fun _ => H0 e) (fun x => ?_))))
      exact absurd ⟨rd_lt16.mp y, rd_gt20.mp x⟩ z
end
