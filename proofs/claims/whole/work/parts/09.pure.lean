/-! alternatives; dependents -/
def rd_end (f : Nat → Int32) : Nat → Nat → Nat
  | 0, i => i
  | d + 1, i => if 16 ≤ f i ∧ f i ≤ 20 then rd_end f d (i + 1) else i
theorem rd_end_ge (f : Nat → Int32) : ∀ d i, i ≤ rd_end f d i
  | 0, _ => Nat.le_refl _
  | d + 1, i => by
    simp only [rd_end]
    by_cases h : 16 ≤ f i ∧ f i ≤ 20
    · rw [if_pos h]; have := rd_end_ge f d (i + 1); omega
    · rw [if_neg h]; exact Nat.le_refl _
theorem rd_end_in (f : Nat → Int32) : ∀ d i k, i ≤ k → k < rd_end f d i → 16 ≤ f k ∧ f k ≤ 20
  | 0, i, k, h1, h2 => by simp only [rd_end] at h2; omega
  | d + 1, i, k, h1, h2 => by
    simp only [rd_end] at h2
    by_cases h : 16 ≤ f i ∧ f i ≤ 20
    · rw [if_pos h] at h2
      by_cases e : k = i
      · rw [e]; exact h
      · exact rd_end_in f d (i + 1) k (by omega) h2
    · rw [if_neg h] at h2; omega
theorem rd_end_st (f : Nat → Int32) (L : Nat) (hL : ¬ (16 ≤ f L ∧ f L ≤ 20)) : ∀ d i, i ≤ L → L < i + d → rd_end f d i ≤ L ∧ ¬ (16 ≤ f (rd_end f d i) ∧ f (rd_end f d i) ≤ 20)
  | 0, i, h1, h2 => by omega
  | d + 1, i, h1, h2 => by
    simp only [rd_end]
    by_cases h : 16 ≤ f i ∧ f i ≤ 20
    · rw [if_pos h]
      have : i ≠ L := by intro e; rw [e] at h; exact hL h
      exact rd_end_st f L hL d (i + 1) (by omega) (by omega)
    · rw [if_neg h]; exact ⟨h1, h⟩
theorem rd_scan_no (f : Nat → Int32) (P : Nat → Bool) (d i : Nat) (h : ¬ (16 ≤ f i ∧ f i ≤ 20)) : rd_scan f P d i = none := by
  cases d with
  | zero => rfl
  | succ d => simp only [rd_scan]; rw [if_neg h]
theorem rd_scan_s (f : Nat → Int32) (P : Nat → Bool) (d i : Nat) (h : 16 ≤ f i ∧ f i ≤ 20) (hP : P i = true) : rd_scan f P (d + 1) i = some i := by
  simp only [rd_scan]; rw [if_pos h, if_pos hP]
theorem rd_scan_n (f : Nat → Int32) (P : Nat → Bool) (d i : Nat) (h : 16 ≤ f i ∧ f i ≤ 20) (hP : P i = false) : rd_scan f P (d + 1) i = rd_scan f P d (i + 1) := by
  simp only [rd_scan]; rw [if_pos h, if_neg (by simp [hP])]
/-- what a scan finds is an alternative, at or behind its start -/
theorem rd_scan_some (f : Nat → Int32) (P : Nat → Bool) : ∀ d i k, rd_scan f P d i = some k → i ≤ k ∧ k < i + d ∧ (16 ≤ f k ∧ f k ≤ 20) ∧ P k = true
  | 0, i, k, h => by simp [rd_scan] at h
  | d + 1, i, k, h => by
    by_cases h1 : 16 ≤ f i ∧ f i ≤ 20
    · cases hP : P i
      · rw [rd_scan_n f P d i h1 hP] at h
        obtain ⟨a, b, c⟩ := rd_scan_some f P d (i + 1) k h
        exact ⟨by omega, by omega, c⟩
      · rw [rd_scan_s f P d i h1 hP] at h
        simp at h
        subst h
        exact ⟨Nat.le_refl _, by omega, h1, hP⟩
    · rw [rd_scan_no f P _ i h1] at h; simp at h
theorem rd_scan_cg (f : Nat → Int32) (P R : Nat → Bool) (h : ∀ i, 16 ≤ f i ∧ f i ≤ 20 → P i = R i) : ∀ d i, rd_scan f P d i = rd_scan f R d i
  | 0, i => rfl
  | d + 1, i => by
    simp only [rd_scan]
    by_cases h1 : 16 ≤ f i ∧ f i ≤ 20
    · rw [if_pos h1, if_pos h1, h i h1, rd_scan_cg f P R h d (i + 1)]
    · rw [if_neg h1, if_neg h1]
theorem rd_op_in {ops ln : Nat → Int32} {b i : Nat} (h : 16 ≤ rd_op ops ln b i ∧ rd_op ops ln b i ≤ 20) : i < (ln b).toNatClampNeg := by
  unfold rd_op at h
  apply Classical.byContradiction
  intro z
  rw [if_neg z] at h
  exact absurd h (by decide)
theorem rd_op_i {ops ln : Nat → Int32} {b i : Nat} (h : i < (ln b).toNatClampNeg) : rd_op ops ln b i = ops (20 * b + i) := if_pos h
theorem rd_op_o {ops ln : Nat → Int32} {b i : Nat} (h : ¬ i < (ln b).toNatClampNeg) : rd_op ops ln b i = 25 := if_neg h
/-- the tasks that depend on t (at the blocks that q admits), directly or not -/
def rd_isCh (n : Nat) (ma mb : Nat → Int32) (t : Nat) (q : Int32 → Prop) (ch : Nat → Int32) : Prop := ∀ u, u < n → (ch u = 0 ∨ ch u = 1) ∧ (ch u = 1 ↔ (ma u = nI t ∧ q (mb u)) ∨ ∃ m, m < u ∧ ma u = nI m ∧ ch m = 1)
theorem rd_ch_lv {n : Nat} {ma mb ob cd ch am : Nat → Int32} {t : Nat} {q r : Int32 → Prop} (hn : n ≤ 8) (hX : rd_vX n ma cd) (h : rd_isCh n ma mb t q ch) (g : rd_isCh n ma ob t r am) (e : ∀ u, u < n → cd u ≠ 8 → ma u = nI t → (q (mb u) ↔ r (ob u))) : ∀ u, u < n → cd u ≠ 8 → ch u = am u := by
  have key : ∀ k u, u < k → u < n → cd u ≠ 8 → (ch u = 1 ↔ am u = 1) := by
    intro k
    induction k with
    | zero => intro u hu; omega
    | succ k ih =>
      intro u hu hun hc
      rw [(h u hun).2, (g u hun).2]
      have lw : ∀ m, m < u → ma u = nI m → (ch m = 1 ↔ am m = 1) := by
        intro m hm em
        exact ih m (by omega) (by omega) (fun z => hc (hX u hun m (by omega) em z))
      constructor
      · rintro (⟨a, b⟩ | ⟨m, a, b, c⟩)
        · exact Or.inl ⟨a, (e u hun hc a).mp b⟩
        · exact Or.inr ⟨m, a, b, (lw m a b).mp c⟩
      · rintro (⟨a, b⟩ | ⟨m, a, b, c⟩)
        · exact Or.inl ⟨a, (e u hun hc a).mpr b⟩
        · exact Or.inr ⟨m, a, b, (lw m a b).mpr c⟩
  intro u hu hc
  have z := key (u + 1) u (by omega) hu hc
  rcases (h u hu).1 with a | a
  · rcases (g u hu).1 with b | b
    · rw [a, b]
    · have := z.mpr b
      rw [a] at this
      exact absurd this (by decide)
  · rw [a, z.mp a]
theorem rd_ch_eq {n : Nat} {ma mb ob ch am : Nat → Int32} {t : Nat} (hn : n ≤ 8) (h : rd_isCh n ma mb t (fun _ => True) ch) (g : rd_isCh n ma ob t (fun _ => True) am) : ∀ u, u < n → ch u = am u := by
  intro u hu
  refine rd_ch_lv (cd := fun _ => 0) hn ?_ h g (fun _ _ _ _ => Iff.rfl) u hu (by decide)
  intro u _ m _ _ z
  have z : (0 : Int32) = 8 := z
  exact absurd z (by decide)
