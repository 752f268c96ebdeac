/-! how each part of the invariant bears a change of one array -/
theorem rd_inj {a b : Nat} (ha : a < 2 ^ 31) (hb : b < 2 ^ 31) (h : nI a = nI b) : a = b := (nI_eq ha hb).mp h
theorem rd_nm {a : Nat} (ha : a < 2 ^ 31) : nI a ≠ -1 := by
  intro h
  have := nI_toInt ha
  rw [h] at this
  have e : (-1 : Int32).toInt = -1 := by decide
  omega
def rd_nf (n : Nat) (dp fk fv : Nat → Int32) (t : Nat) : Prop := ∀ s, s < n → ∀ l, l < (dp s).toNatClampNeg → fk (8 * s + l) = 1 → fv (8 * s + l) ≠ nI t
theorem rd_nf_of {n : Nat} {dp fk fv cd : Nat → Int32} {t : Nat} (h8 : n ≤ 8) (h : rd_vF n dp fk fv cd) (ht : t < n) (hc : cd t ≠ 2) : rd_nf n dp fk fv t := by
  intro s hs l hl a b
  rcases h s hs l hl with z | ⟨_, c, hcn, e, f⟩ | ⟨z, _⟩
  · rw [z] at a; exact absurd a (by decide)
  · have : c = t := rd_inj (by omega) (by omega) (e.symm.trans b)
    subst this
    exact hc f
  · rw [z] at a; exact absurd a (by decide)
theorem rd_vF_cd {n : Nat} {dp fk fv cd : Nat → Int32} {t : Nat} {s : Int32} (h : rd_vF n dp fk fv cd) (hn : rd_nf n dp fk fv t) : rd_vF n dp fk fv (upd cd t s) := by
  intro u hu l hl
  rcases h u hu l hl with z | ⟨a, c, hcn, e, f⟩ | z
  · exact Or.inl z
  · refine Or.inr (Or.inl ⟨a, c, hcn, e, ?_⟩)
    rw [rd_un]
    · exact f
    · intro z; subst z; exact hn u hu l hl a e
  · exact Or.inr (Or.inr z)
theorem rd_vF_cd2 {n : Nat} {dp fk fv cd : Nat → Int32} {t : Nat} (h : rd_vF n dp fk fv cd) : rd_vF n dp fk fv (upd cd t 2) := by
  intro u hu l hl
  rcases h u hu l hl with z | ⟨a, c, hcn, e, f⟩ | z
  · exact Or.inl z
  · refine Or.inr (Or.inl ⟨a, c, hcn, e, ?_⟩)
    rw [rd_up]
    by_cases z : c = t
    · rw [if_pos z]
    · rw [if_neg z]; exact f
  · exact Or.inr (Or.inr z)
theorem rd_vB_cd {n : Nat} {dp fk ma mb cd : Nat → Int32} {t : Nat} {s : Int32} (h : rd_vB n dp fk ma mb cd) (hc : cd t ≠ 8) : rd_vB n dp fk ma mb (upd cd t s) := by
  intro u hu hcu
  apply h u hu
  by_cases z : u = t
  · rw [z]; exact hc
  · rw [rd_un z] at hcu; exact hcu
theorem rd_vX_cd {n : Nat} {ma cd : Nat → Int32} {t : Nat} {s : Int32} (h : rd_vX n ma cd) (hc : cd t ≠ 8) (hs : s ≠ 8) : rd_vX n ma (upd cd t s) := by
  intro u hu m hm e f
  by_cases z : m = t
  · rw [z, rd_us] at f; exact absurd f hs
  · rw [rd_un z] at f
    have g := h u hu m hm e f
    by_cases y : u = t
    · rw [y] at g; exact absurd g hc
    · rw [rd_un y]; exact g
theorem rd_vC_cd {n : Nat} {dp cd : Nat → Int32} {t : Nat} {s : Int32} (h : rd_vC n dp cd) (hs : s = 7 ∨ s = 8 → dp t = 0) : rd_vC n dp (upd cd t s) := by
  intro u hu f
  by_cases y : u = t
  · rw [y, rd_us] at f; rw [y]; exact hs f
  · rw [rd_un y] at f; exact h u hu f
theorem rd_vE_cd {n : Nat} {dp fk cd : Nat → Int32} {t : Nat} {s : Int32} (h : rd_vE n dp fk cd) (hs : s = 6 → ∃ d, d < 8 ∧ dp t = nI (d + 1) ∧ fk (8 * t + d) = 0) (h3 : s = 3 ∨ s = 4 → ∃ d, d < 8 ∧ dp t = nI d) : rd_vE n dp fk (upd cd t s) := by
  intro u hu
  by_cases y : u = t
  · rw [y, rd_us]; exact ⟨hs, h3⟩
  · rw [rd_un y]; exact h u hu
theorem rd_lv_cd {n : Nat} {ma mb cd : Nat → Int32} {t k : Nat} {s b : Int32} (h : rd_lv n ma mb cd k b) (hs : s ≠ 8) : rd_lv n ma mb (upd cd t s) k b := by
  obtain ⟨u, hu, e, f, g⟩ := h
  refine ⟨u, hu, e, f, ?_⟩
  rw [rd_up]
  by_cases y : u = t
  · rw [if_pos y]; exact hs
  · rw [if_neg y]; exact g
theorem rd_lv_cd' {n : Nat} {ma mb cd : Nat → Int32} {t k : Nat} {s b : Int32} (h : rd_lv n ma mb (upd cd t s) k b) (hs : cd t ≠ 8) : rd_lv n ma mb cd k b := by
  obtain ⟨u, hu, e, f, g⟩ := h
  refine ⟨u, hu, e, f, ?_⟩
  by_cases y : u = t
  · rw [y]; exact hs
  · rw [rd_un y] at g; exact g
theorem rd_vL_cd {n e : Nat} {dp ma mb cd : Nat → Int32} {t : Nat} {s : Int32} (h : rd_vL n e dp ma mb cd) (hs : s ≠ 8) (h6 : s = 6 → t ≠ e → rd_lv n ma mb cd t (dp t - 1)) : rd_vL n e dp ma mb (upd cd t s) := by
  intro u hu he f
  by_cases y : u = t
  · rw [y, rd_us] at f; rw [y]; exact rd_lv_cd (h6 f (y ▸ he)) hs
  · rw [rd_un y] at f; exact rd_lv_cd (h u hu he f) hs
theorem rd_vK_cd {n e : Nat} {ma mb cd : Nat → Int32} {t : Nat} {s : Int32} (h : rd_vK n e ma mb cd) (hs : s ≠ 8) (h7 : s = 7 → t = e) : rd_vK n e ma mb (upd cd t s) := by
  intro u hu he f
  by_cases y : u = t
  · rw [y, rd_us] at f; exact absurd (y.trans (h7 f)) he
  · rw [rd_un y] at f; exact rd_lv_cd (h u hu he f) hs
theorem rd_vQ_cd {n : Nat} {cd cq : Nat → Int32} {Q : Nat → List Nat} {t : Nat} {s : Int32} (h : rd_vQ n cd cq Q) (hq : ∀ q, t ∉ Q q) : rd_vQ n (upd cd t s) cq Q := by
  intro q
  refine ⟨(h q).1, fun c hc => ?_⟩
  have z : c ≠ t := fun e => hq q (e ▸ hc)
  rw [rd_un z]
  exact (h q).2 c hc
theorem rd_vQ_no {n : Nat} {cd cq : Nat → Int32} {Q : Nat → List Nat} {t : Nat} (h : rd_vQ n cd cq Q) (hc : cd t ≠ 1) : ∀ q, t ∉ Q q := fun q hm => hc ((h q).2 t hm).2.1
theorem rd_vR_add {n : Nat} {cd : Nat → Int32} {w : List Nat} {t : Nat} (h : rd_vR n cd w) (ht : t < n) (hc : cd t ≠ 0) : rd_vR n (upd cd t 0) (w ++ [t]) := by
  have hm : t ∉ w := fun z => hc ((h.2 t).mp z).2
  refine ⟨?_, fun u => ?_⟩
  · rw [List.nodup_append]
    refine ⟨h.1, by simp, ?_⟩
    intro a ha b hb
    simp at hb
    subst hb
    intro z
    subst z
    exact hm ha
  · rw [List.mem_append, h.2 u, rd_up]
    by_cases z : u = t
    · rw [if_pos z]; subst z; simp [ht]
    · rw [if_neg z]; simp [z]
theorem rd_vR_del {n : Nat} {cd : Nat → Int32} {w : List Nat} {t : Nat} {s : Int32} (h : rd_vR n cd w) (hs : s ≠ 0) : rd_vR n (upd cd t s) (w.filter (fun x => x != t)) := by
  refine ⟨List.Pairwise.filter _ h.1, fun u => ?_⟩
  rw [rd_fl_mem, h.2 u, rd_up]
  by_cases z : u = t
  · rw [if_pos z]; simp [z, hs]
  · rw [if_neg z]; simp [z]
theorem rd_vR_oth {n : Nat} {cd : Nat → Int32} {w : List Nat} {t : Nat} {s : Int32} (h : rd_vR n cd w) (hc : cd t ≠ 0) (hs : s ≠ 0) : rd_vR n (upd cd t s) w := by
  have e := rd_vR_del (t := t) h hs
  rw [rd_fl_not (fun z => hc ((h.2 t).mp z).2)] at e
  exact e
theorem rd_vW_cd {n D : Nat} {ops as ln cd pl bo wk wp : Nat → Int32} {t : Nat} {s : Int32} (h : rd_vW n D ops as ln cd pl bo wk wp) : rd_vW n D ops as ln (upd cd t s) pl bo (upd wk t (-1)) wp := by
  intro u hu
  by_cases z : u = t
  · rw [z, rd_us]; exact Or.inl rfl
  · rw [rd_un z, rd_un z]; exact h u hu
theorem rd_vW_cd' {n D : Nat} {ops as ln cd pl bo wk wp : Nat → Int32} {t : Nat} {s : Int32} (h : rd_vW n D ops as ln cd pl bo wk wp) (hw : wk t = -1) : rd_vW n D ops as ln (upd cd t s) pl bo wk wp := by
  have e := rd_vW_cd (t := t) (s := s) h
  rw [rd_ue hw] at e
  exact e
theorem rd_vP_cd {n : Nat} {cd pe : Nat → Int32} {t : Nat} {s : Int32} (h : rd_vP n cd pe) (hs : (s = 1 ∨ s = 2 ∨ s = 3 ∨ s = 4 ∨ s = 5) → pe t = 0) : rd_vP n (upd cd t s) pe := by
  intro u hu f
  by_cases z : u = t
  · rw [z, rd_us] at f; rw [z]; exact hs f
  · rw [rd_un z] at f; exact h u hu f
theorem rd_vZ_cd {n : Nat} {cd cq : Nat → Int32} {t : Nat} {s : Int32} (h : rd_vZ n cd cq) (hs : s = 1 → ∃ q, q < 3 * n ∧ cq t = nI q) : rd_vZ n (upd cd t s) cq := by
  intro u hu f
  by_cases z : u = t
  · rw [z, rd_us] at f; rw [z]; exact hs f
  · rw [rd_un z] at f; exact h u hu f
theorem rd_vA_cd {n : Nat} {ops ln cd pl bo te pe : Nat → Int32} {t : Nat} {s : Int32} (h : rd_vA n ops ln cd pl bo te pe) (hs : s = 0 ∨ s = 7 ∨ s = 8 ∨ s = 9) : rd_vA n ops ln (upd cd t s) pl bo te pe := by
  intro u hu
  by_cases z : u = t
  · rw [z, rd_us]
    rcases hs with e | e | e | e <;> subst e <;> exact ⟨fun f => by rcases f with f | f | f | f | ⟨f, _⟩ <;> exact absurd f (by decide), fun f => absurd f (by decide)⟩
  · rw [rd_un z]; exact h u hu
theorem rd_vA_cp {n : Nat} {ops ln cd pl bo te pe : Nat → Int32} {t : Nat} {s : Int32} (h : rd_vA n ops ln cd pl bo te pe) (hs : s ≠ 4) (hp : ∃ p, p < 20 ∧ pl t = nI p) : rd_vA n ops ln (upd cd t s) pl bo te pe := by
  intro u hu
  by_cases z : u = t
  · rw [z, rd_us]
    exact ⟨fun _ => hp, fun f => absurd f hs⟩
  · rw [rd_un z]; exact h u hu
theorem rd_rng_c {n K : Nat} {f : Nat → Int32} {t j : Nat} {x : Int32} (h : rd_rng n K f) (hx : x = nI j) (hj : j ≤ K) : rd_rng n K (upd f t x) := hx ▸ rd_rng_u h hj
theorem rd_dpos {n : Nat} {A : rd_St} {e D t : Nat} {w : List Nat} {Q : Nat → List Nat} (h : rd_Inv n e D A w Q) (ht : t < n) : ∃ d, d ≤ 8 ∧ A 18 t = nI d ∧ (A 18 t).toNatClampNeg = d := by
  obtain ⟨d, hd, e⟩ := h.rdp t ht
  exact ⟨d, hd, e, by rw [e]; exact nI_clamp (by omega)⟩
theorem rd_wk0 {n : Nat} {A : rd_St} {e D t : Nat} {w : List Nat} {Q : Nat → List Nat} (h : rd_Inv n e D A w Q) (ht : t < n) (hc : A 4 t ≠ 1 ∧ A 4 t ≠ 5 ∧ A 4 t ≠ 4) : A 16 t = -1 := by
  rcases h.vW t ht with z | ⟨_, _, z | z | z⟩
  · exact z
  · exact absurd z.1 hc.1
  · exact absurd z.1 hc.2.1
  · exact absurd z.1 hc.2.2
/-- a task gets ready -/
def rd_ready (A : rd_St) (t : Nat) : rd_St := rd_sw (rd_sw A  4 t 0)  16 t (-1)
theorem rd_i_ready {n e D : Nat} {A : rd_St} {w : List Nat} {Q : Nat → List Nat} {t : Nat} (h : rd_Inv n e D A w Q) (ht : t < n) (h0 : A 4 t ≠ 0) (h8 : A 4 t ≠ 8) (hq : ∀ q, t ∉ Q q) (hf : rd_nf n (A 18) (A 19) (A 20) t) : rd_Inv n e D (rd_ready A t) (w ++ [t]) Q :=
  ⟨h.vG, h.vN, rd_vR_add h.vR ht h0, rd_vQ_cd h.vQ hq, rd_vF_cd h.vF hf, h.vU, h.vM, rd_vB_cd h.vB h8, rd_vX_cd h.vX h8 (by decide), rd_vC_cd h.vC (fun z => absurd z (by decide)), rd_vE_cd h.vE (fun z => absurd z (by decide)) (fun z => absurd z (by decide)), rd_vL_cd h.vL (by decide) (fun z => absurd z (by decide)), rd_vK_cd h.vK (by decide) (fun z => absurd z (by decide)), h.vD, rd_vW_cd h.vW, rd_vP_cd h.vP (fun z => absurd z (by decide)), rd_vZ_cd h.vZ (fun z => absurd z (by decide)), rd_vA_cd h.vA (Or.inl rfl), h.rbo, h.rpl, h.rdp, h.rli, h.rdm, h.rpe, rd_rng_u (j := 0) h.rcd (by omega)⟩
/-- a task leaves the row, or its queue, to fall -/
def rd_fq (Q : Nat → List Nat) (t : Nat) : Nat → List Nat := fun q => (Q q).filter (fun x => x != t)
theorem rd_vQ_fq {n : Nat} {cd cq : Nat → Int32} {Q : Nat → List Nat} {t : Nat} (h : rd_vQ n cd cq Q) : rd_vQ n cd cq (rd_fq Q t) := fun q => ⟨List.Pairwise.filter _ (h q).1, fun c hc => (h q).2 c (rd_fl_mem.mp hc).1⟩
theorem rd_fq_no {Q : Nat → List Nat} {t : Nat} (h : ∀ q, t ∉ Q q) : rd_fq Q t = Q := funext fun q => rd_fl_not (h q)
theorem rd_fq_nm {Q : Nat → List Nat} {t : Nat} : ∀ q, t ∉ rd_fq Q t q := fun _ hm => (rd_fl_mem.mp hm).2 rfl
def rd_fall (A : rd_St) (t : Nat) : rd_St := rd_sw (rd_sw A  4 t 9)  16 t (-1)
theorem rd_i_fall {n e D : Nat} {A : rd_St} {w : List Nat} {Q : Nat → List Nat} {t : Nat} (h : rd_Inv n e D A w Q) (h8 : A 4 t ≠ 8) (hf : rd_nf n (A 18) (A 19) (A 20) t) : rd_Inv n e D (rd_fall A t) (w.filter (fun x => x != t)) (rd_fq Q t) :=
  ⟨h.vG, h.vN, rd_vR_del h.vR (by decide), rd_vQ_cd (rd_vQ_fq h.vQ) rd_fq_nm, rd_vF_cd h.vF hf, h.vU, h.vM, rd_vB_cd h.vB h8, rd_vX_cd h.vX h8 (by decide), rd_vC_cd h.vC (fun z => absurd z (by decide)), rd_vE_cd h.vE (fun z => absurd z (by decide)) (fun z => absurd z (by decide)), rd_vL_cd h.vL (by decide) (fun z => absurd z (by decide)), rd_vK_cd h.vK (by decide) (fun z => absurd z (by decide)), h.vD, rd_vW_cd h.vW, rd_vP_cd h.vP (fun z => absurd z (by decide)), rd_vZ_cd h.vZ (fun z => absurd z (by decide)), rd_vA_cd h.vA (Or.inr (Or.inr (Or.inr rfl))), h.rbo, h.rpl, h.rdp, h.rli, h.rdm, h.rpe, rd_rng_u (j := 9) h.rcd (by omega)⟩
theorem rd_m1 (n : Nat) : nI (n + 1) + (-1) = nI n := by
  have e : (-1 : Int32) = -(1 : Int32) := rfl
  rw [e, ← Int32.sub_eq_add_neg]
  exact nI_pred n
