/-! TIME -/
/-- the least time at which something is due among the tasks below k; -1: none -/
def rd_least (wk : Nat → Int32) : Nat → Int32
  | 0 => -1
  | k + 1 => if wk k = -1 then rd_least wk k else if rd_least wk k = -1 then wk k else if rd_least wk k ≤ wk k then rd_least wk k else wk k
theorem rd_xl_least {post : Int32 → SX → Prop} {A : rd_St} {rl : Int32} {ra qa ql : Nat → Int32} {n : Nat} (hn : n ≤ 8) (hk : A 26 0 = nI n) (H0 : rd_least (A 16) n = -1 → post 0 (rd_tX A rl ra qa ql)) (H1 : rd_least (A 16) n ≠ -1 → ∃ f, wX_passTime_64 post (rd_least (A 16) n) f 0 rl ((rd_sw A  27 0 (rd_least (A 16) n)) 25 0) ((rd_sw A  27 0 (rd_least (A 16) n)) 26 0) ((rd_sw A  27 0 (rd_least (A 16) n)) 27 0) ((rd_sw A  27 0 (rd_least (A 16) n)) 28 0) ((rd_sw A  27 0 (rd_least (A 16) n)) 29 0) ((rd_sw A  27 0 (rd_least (A 16) n)) 30 0) ((rd_sw A  27 0 (rd_least (A 16) n)) 31 0) ((rd_sw A  27 0 (rd_least (A 16) n)) 0) ((rd_sw A  27 0 (rd_least (A 16) n)) 1) ((rd_sw A  27 0 (rd_least (A 16) n)) 2) ((rd_sw A  27 0 (rd_least (A 16) n)) 3) ((rd_sw A  27 0 (rd_least (A 16) n)) 4) ((rd_sw A  27 0 (rd_least (A 16) n)) 5) ((rd_sw A  27 0 (rd_least (A 16) n)) 6) ((rd_sw A  27 0 (rd_least (A 16) n)) 7) ((rd_sw A  27 0 (rd_least (A 16) n)) 8) ((rd_sw A  27 0 (rd_least (A 16) n)) 9) ((rd_sw A  27 0 (rd_least (A 16) n)) 10) ((rd_sw A  27 0 (rd_least (A 16) n)) 11) ((rd_sw A  27 0 (rd_least (A 16) n)) 12) ((rd_sw A  27 0 (rd_least (A 16) n)) 13) ((rd_sw A  27 0 (rd_least (A 16) n)) 14) ((rd_sw A  27 0 (rd_least (A 16) n)) 15) ((rd_sw A  27 0 (rd_least (A 16) n)) 16) ((rd_sw A  27 0 (rd_least (A 16) n)) 17) ((rd_sw A  27 0 (rd_least (A 16) n)) 18) ((rd_sw A  27 0 (rd_least (A 16) n)) 19) ((rd_sw A  27 0 (rd_least (A 16) n)) 20) qa ql ra ((rd_sw A  27 0 (rd_least (A 16) n)) 21) ((rd_sw A  27 0 (rd_least (A 16) n)) 22) ((rd_sw A  27 0 (rd_least (A 16) n)) 32) ((rd_sw A  27 0 (rd_least (A 16) n)) 23)) : ∀ (d k : Nat), k + d = n → wX_passTime_4 post rl (A 25 0) (A 26 0) (A 27 0) (A 28 0) (A 29 0) (A 30 0) (A 31 0) (A 0) (A 1) (A 2) (A 3) (A 4) (A 5) (A 6) (A 7) (A 8) (A 9) (A 10) (A 11) (A 12) (A 13) (A 14) (A 15) (A 16) (A 17) (A 18) (A 19) (A 20) qa ql ra (A 21) (A 22) (A 32) (A 23) (d + 1) (rd_least (A 16) k) (nI k)
  | 0, k, h1 => by
    have e : k = n := by omega
    subst e
    exact br_t (by rw [hk]; exact nI_le (Nat.le_refl _) (by omega)) (br_c H0 H1)
  | d + 1, k, h1 => by
    have ck : (nI k).toNatClampNeg = k := nI_clamp (by omega)
    have i8 : vp_in (nI k) 8 := vp_in_nI (by omega) (by omega)
    have r := rd_xl_least hn hk H0 H1 d (k + 1) (by omega)
    refine br_f (by rw [hk]; exact nI_ge (by omega) (by omega)) ⟨i8, ?_⟩
    rw [ck]
    by_cases z : A 16 k = -1
    · have e : rd_least (A 16) (k + 1) = rd_least (A 16) k := by simp only [rd_least]; rw [if_pos z]
      rw [e] at r
      exact br_t z (nm_r (nI_1 k) r)
    · refine br_f z ?_
      by_cases y : rd_least (A 16) k = -1
      · have e : rd_least (A 16) (k + 1) = A 16 k := by simp only [rd_least]; rw [if_neg z, if_pos y]
        rw [e] at r
        exact br_t y ⟨i8, nm_r rfl (nm_r (nI_1 k) r)⟩
      · refine br_f y ⟨i8, ?_⟩
        by_cases x : rd_least (A 16) k ≤ A 16 k
        · have e : rd_least (A 16) (k + 1) = rd_least (A 16) k := by simp only [rd_least]; rw [if_neg z, if_neg y, if_pos x]
          rw [e] at r
          exact br_t x (nm_r (nI_1 k) r)
        · have e : rd_least (A 16) (k + 1) = A 16 k := by simp only [rd_least]; rw [if_neg z, if_neg y, if_neg x]
          rw [e] at r
          exact br_f x ⟨i8, nm_r rfl (nm_r (nI_1 k) r)⟩
/-- what the least is: none below k is due, or it is the time of one -/
theorem rd_least_spec {wk : Nat → Int32} {n K : Nat} (hK : K < 2 ^ 31) (h : ∀ u, u < n → wk u = -1 ∨ ∃ x, x ≤ K ∧ wk u = nI x) : ∀ k, k ≤ n → (rd_least wk k = -1 ∧ ∀ u, u < k → wk u = -1) ∨ ∃ u x, u < k ∧ x ≤ K ∧ wk u = nI x ∧ rd_least wk k = nI x
  | 0, _ => Or.inl ⟨rfl, fun u hu => by omega⟩
  | k + 1, hk => by
    simp only [rd_least]
    rcases h k (by omega) with z | ⟨x, hx, ex⟩
    · rw [if_pos z]
      rcases rd_least_spec hK h k (by omega) with ⟨a, b⟩ | ⟨u, x, a, b⟩
      · refine Or.inl ⟨a, fun u hu => ?_⟩
        by_cases e : u = k
        · rw [e]; exact z
        · exact b u (by omega)
      · exact Or.inr ⟨u, x, by omega, b⟩
    · rw [if_neg (by rw [ex]; exact rd_nm (by omega))]
      rcases rd_least_spec hK h k (by omega) with ⟨a, b⟩ | ⟨u, x', a, b, c, d⟩
      · rw [if_pos a]
        exact Or.inr ⟨k, x, by omega, hx, ex, ex⟩
      · rw [if_neg (by rw [d]; exact rd_nm (by omega))]
        by_cases y : rd_least wk k ≤ wk k
        · rw [if_pos y]; exact Or.inr ⟨u, x', by omega, b, c, d⟩
        · rw [if_neg y]; exact Or.inr ⟨k, x, by omega, hx, ex, ex⟩
theorem rd_yl_least {post : Int32 → SY → Prop} {A : rd_St} {rl : Int32} {ra qa wq am rz ob fr st : Nat → Int32} {bl : Int32} {n K : Nat} (hn : n ≤ 8) (hk : A 26 0 = nI n) (hK : K < 2 ^ 31) (h : ∀ u, u < n → A 16 u = -1 ∨ ∃ x, x ≤ K ∧ A 16 u = nI x) (H0 : rd_least (A 16) n = -1 → post 0 (rd_tY A rl ra qa wq am rz ob fr st bl)) (H1 : rd_least (A 16) n ≠ -1 → ∃ f, wY_passTime_61 post (rd_least (A 16) n) f 0 ((rd_sw A  27 0 (rd_least (A 16) n)) 26 0) bl rl ((rd_sw A  27 0 (rd_least (A 16) n)) 27 0) ((rd_sw A  27 0 (rd_least (A 16) n)) 28 0) ((rd_sw A  27 0 (rd_least (A 16) n)) 29 0) ((rd_sw A  27 0 (rd_least (A 16) n)) 25 0) ((rd_sw A  27 0 (rd_least (A 16) n)) 3) ((rd_sw A  27 0 (rd_least (A 16) n)) 0) ((rd_sw A  27 0 (rd_least (A 16) n)) 1) ((rd_sw A  27 0 (rd_least (A 16) n)) 2) st ((rd_sw A  27 0 (rd_least (A 16) n)) 5) ((rd_sw A  27 0 (rd_least (A 16) n)) 6) ((rd_sw A  27 0 (rd_least (A 16) n)) 11) ((rd_sw A  27 0 (rd_least (A 16) n)) 8) ((rd_sw A  27 0 (rd_least (A 16) n)) 7) rz ((rd_sw A  27 0 (rd_least (A 16) n)) 16) ((rd_sw A  27 0 (rd_least (A 16) n)) 18) ((rd_sw A  27 0 (rd_least (A 16) n)) 19) fr ((rd_sw A  27 0 (rd_least (A 16) n)) 9) ob ((rd_sw A  27 0 (rd_least (A 16) n)) 13) qa wq ra ((rd_sw A  27 0 (rd_least (A 16) n)) 33) am ((rd_sw A  27 0 (rd_least (A 16) n)) 21) ((rd_sw A  27 0 (rd_least (A 16) n)) 22)) : ∀ (d k : Nat), k + d = n → wY_passTime_4 post (A 26 0) bl rl (A 27 0) (A 28 0) (A 29 0) (A 25 0) (A 3) (A 0) (A 1) (A 2) st (A 5) (A 6) (A 11) (A 8) (A 7) rz (A 16) (A 18) (A 19) fr (A 9) ob (A 13) qa wq ra (A 33) am (A 21) (A 22) (d + 1) (rd_least (A 16) k) (nI k)
  | 0, k, h1 => by
    have e : k = n := by omega
    subst e
    refine br_t (by rw [hk]; exact nI_le (Nat.le_refl _) (by omega)) ?_
    rcases rd_least_spec hK h k (Nat.le_refl _) with ⟨a, _⟩ | ⟨u, x, a, b, c, d⟩
    · exact br_f (by rw [a]; decide) (H0 a)
    · exact br_t (by rw [d]; exact nI_pos' (by omega)) (H1 (by rw [d]; exact rd_nm (by omega)))
  | d + 1, k, h1 => by
    have ck : (nI k).toNatClampNeg = k := nI_clamp (by omega)
    have i8 : vp_in (nI k) 8 := vp_in_nI (by omega) (by omega)
    have r := rd_yl_least hn hk hK h H0 H1 d (k + 1) (by omega)
    refine br_f (by rw [hk]; exact nI_ge (by omega) (by omega)) ⟨i8, ?_⟩
    rw [ck]
    rcases h k (by omega) with z | ⟨x, hx, ex⟩
    · have e : rd_least (A 16) (k + 1) = rd_least (A 16) k := by simp only [rd_least]; rw [if_pos z]
      rw [e] at r
      exact br_t (by rw [z]; decide) (nm_r (nI_1 k) r)
    · have nz : A 16 k ≠ -1 := by rw [ex]; exact rd_nm (by omega)
      refine br_f (by rw [ex]; exact nI_pos (by omega)) ?_
      rcases rd_least_spec hK h k (by omega) with ⟨a, _⟩ | ⟨u, x', a, b, c, d'⟩
      · have e : rd_least (A 16) (k + 1) = A 16 k := by simp only [rd_least]; rw [if_neg nz, if_pos a]
        rw [e] at r
        exact br_t (by rw [a]; decide) ⟨i8, nm_r rfl (nm_r (nI_1 k) r)⟩
      · have ny : rd_least (A 16) k ≠ -1 := by rw [d']; exact rd_nm (by omega)
        refine br_f (by rw [d']; exact nI_pos (by omega)) ⟨i8, ?_⟩
        by_cases y : rd_least (A 16) k ≤ A 16 k
        · have e : rd_least (A 16) (k + 1) = rd_least (A 16) k := by simp only [rd_least]; rw [if_neg nz, if_neg ny, if_pos y]
          rw [e] at r
          exact br_t y (nm_r (nI_1 k) r)
        · have e : rd_least (A 16) (k + 1) = A 16 k := by simp only [rd_least]; rw [if_neg nz, if_neg ny, if_neg y]
          rw [e] at r
          exact br_f y ⟨i8, nm_r rfl (nm_r (nI_1 k) r)⟩
