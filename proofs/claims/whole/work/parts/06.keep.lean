/-! what a fall keeps: unchanged arrays, ready tasks, weights -/
def rd_sta (A B : rd_St) : Prop := ∀ k, k ≠  4 → k ≠  5 → k ≠  7 → k ≠  10 → k ≠  12 → k ≠  16 → k ≠  18 → B k = A k
theorem rd_sta_rf (A : rd_St) : rd_sta A A := fun _ _ _ _ _ _ _ _ => rfl
theorem rd_sta_tr {A B C : rd_St} (h : rd_sta A B) (g : rd_sta B C) : rd_sta A C := fun k a b c d e f i => (g k a b c d e f i).trans (h k a b c d e f i)
theorem rd_sta_sa {A : rd_St} {k : Nat} {f : Nat → Int32} (h : k =  4 ∨ k =  5 ∨ k =  7 ∨ k =  10 ∨ k =  12 ∨ k =  16 ∨ k =  18) : rd_sta A (rd_sa A k f) := by
  intro j a b c d e f' i
  rw [rd_sa_ap, if_neg]
  omega
theorem rd_sta_sw {A : rd_St} {k i : Nat} {v : Int32} (h : k =  4 ∨ k =  5 ∨ k =  7 ∨ k =  10 ∨ k =  12 ∨ k =  16 ∨ k =  18) : rd_sta A (rd_sw A k i v) := rd_sta_sa h
theorem rd_sta_ready {A : rd_St} {t : Nat} : rd_sta A (rd_ready A t) := rd_sta_tr (rd_sta_sw (by simp)) (rd_sta_sw (by simp))
theorem rd_sta_fall {A : rd_St} {t : Nat} : rd_sta A (rd_fall A t) := rd_sta_tr (rd_sta_sw (by simp)) (rd_sta_sw (by simp))
/-- the same, but for the two stacks of falling tasks -/
def rd_stw (A B : rd_St) : Prop := ∀ k, k ≠  4 → k ≠  5 → k ≠  7 → k ≠  10 → k ≠  12 → k ≠  16 → k ≠  18 → k ≠  32 → k ≠  33 → B k = A k
theorem rd_stw_of {A B : rd_St} (h : rd_sta A B) : rd_stw A B := fun k a b c d e f i _ _ => h k a b c d e f i
theorem rd_stw_tr {A B C : rd_St} (h : rd_stw A B) (g : rd_stw B C) : rd_stw A C := fun k a b c d e f i j l => (g k a b c d e f i j l).trans (h k a b c d e f i j l)
theorem rd_stw_sw {A : rd_St} {k i : Nat} {v : Int32} (h : k =  32 ∨ k =  33) : rd_stw A (rd_sw A k i v) := by
  intro j a b c d e f' g l m
  rw [rd_sw_ap, if_neg]
  omega
def rd_kp (P : Nat → Prop) (A B : rd_St) (w z : List Nat) : Prop := ∀ t, P t → B 4 t = A 4 t ∧ B 5 t = A 5 t ∧ B 12 t = A 12 t ∧ B 18 t = A 18 t ∧ (w.head? = some t → z.head? = some t)
theorem rd_kp_rf (P : Nat → Prop) (A : rd_St) (w : List Nat) : rd_kp P A A w w := fun _ _ => ⟨rfl, rfl, rfl, rfl, id⟩
theorem rd_kp_tr {P R : Nat → Prop} {A B C : rd_St} {w x y : List Nat} (h : rd_kp P A B w x) (g : rd_kp R B C x y) (i : ∀ t, P t → R t) : rd_kp P A C w y := fun t ht =>
  have a := h t ht
  have b := g t (i t ht)
  ⟨b.1.trans a.1, b.2.1.trans a.2.1, b.2.2.1.trans a.2.2.1, b.2.2.2.1.trans a.2.2.2.1, fun z => b.2.2.2.2 (a.2.2.2.2 z)⟩
theorem rd_kp_w {P R : Nat → Prop} {A B : rd_St} {w x : List Nat} (h : rd_kp R A B w x) (i : ∀ t, P t → R t) : rd_kp P A B w x := fun t ht => h t (i t ht)
theorem rd_hd_app {w : List Nat} {t c : Nat} (h : w.head? = some t) : (w ++ [c]).head? = some t := by
  cases w with
  | nil => simp at h
  | cons x l => simpa using h
theorem rd_hd_fl {w : List Nat} {t c : Nat} (h : w.head? = some t) (hc : t ≠ c) : (w.filter (fun x => x != c)).head? = some t := by
  cases w with
  | nil => simp at h
  | cons x l =>
    simp at h
    subst h
    rw [List.filter_cons, if_pos (by simp [hc])]
    rfl
theorem rd_kp_ready {P : Nat → Prop} {A : rd_St} {w : List Nat} {c : Nat} (h : ¬ P c) : rd_kp P A (rd_ready A c) w (w ++ [c]) := fun t ht =>
  have y : t ≠ c := fun e => h (e ▸ ht)
  ⟨rd_un y, rfl, rfl, rfl, rd_hd_app⟩
theorem rd_kp_fall {P : Nat → Prop} {A : rd_St} {w : List Nat} {c : Nat} (h : ¬ P c) : rd_kp P A (rd_fall A c) w (w.filter (fun x => x != c)) := fun t ht =>
  have y : t ≠ c := fun e => h (e ▸ ht)
  ⟨rd_un y, rfl, rfl, rfl, fun z => rd_hd_fl z y⟩
theorem rd_kp_pe {P : Nat → Prop} {A : rd_St} {w : List Nat} {c : Nat} {v : Int32} (h : ¬ P c) : rd_kp P A (rd_sw A  12 c v) w w := fun t ht =>
  have y : t ≠ c := fun e => h (e ▸ ht)
  ⟨rfl, rfl, rd_un y, rfl, id⟩
theorem rd_kp_dp {P : Nat → Prop} {A : rd_St} {w : List Nat} {c : Nat} {v : Int32} (h : ¬ P c) : rd_kp P A (rd_sw A  18 c v) w w := fun t ht =>
  have y : t ≠ c := fun e => h (e ▸ ht)
  ⟨rfl, rfl, rfl, rd_un y, id⟩
theorem rd_kp_pl {P : Nat → Prop} {A : rd_St} {w : List Nat} {c : Nat} {v : Int32} (h : ¬ P c) : rd_kp P A (rd_sw A  5 c v) w w := fun t ht =>
  have y : t ≠ c := fun e => h (e ▸ ht)
  ⟨rfl, rd_un y, rfl, rfl, id⟩
theorem rd_kp_cd {P : Nat → Prop} {A : rd_St} {w : List Nat} {c : Nat} {v : Int32} (h : ¬ P c) : rd_kp P A (rd_sw A  4 c v) w w := fun t ht =>
  have y : t ≠ c := fun e => h (e ▸ ht)
  ⟨rd_un y, rfl, rfl, rfl, id⟩
theorem rd_kp_en {P : Nat → Prop} {A : rd_St} {w : List Nat} {c : Nat} {v : Int32} : rd_kp P A (rd_sw A  7 c v) w w := fun t ht =>
  ⟨rfl, rfl, rfl, rfl, id⟩
def rd_W (A : rd_St) (t : Nat) : Nat := rd_w (A 4) (A 12) (A 18) t
def rd_wl (n : Nat) (A B : rd_St) : Prop := ∀ t, t < n → rd_W B t ≤ rd_W A t
theorem rd_wl_rf (n : Nat) (A : rd_St) : rd_wl n A A := fun _ _ => Nat.le_refl _
theorem rd_wl_tr {n : Nat} {A B C : rd_St} (h : rd_wl n A B) (g : rd_wl n B C) : rd_wl n A C := fun t ht => Nat.le_trans (g t ht) (h t ht)
theorem rd_wl_ready {n : Nat} {A : rd_St} {c : Nat} (h : A 4 c = 1 ∨ A 4 c = 2 ∨ A 4 c = 3 ∨ A 4 c = 4 ∨ A 4 c = 5) : rd_wl n A (rd_ready A c) := by
  intro t _
  show rd_c (upd (A 4) c 0 t) (A 12 t) + 2 * (A 18 t).toNatClampNeg ≤ rd_c (A 4 t) (A 12 t) + 2 * (A 18 t).toNatClampNeg
  by_cases y : t = c
  · subst y
    rw [rd_us, rd_c_w _ h]
    have := rd_c0_le (A 12 t)
    omega
  · rw [rd_un y]; exact Nat.le_refl _
theorem rd_wl_rp {n : Nat} {A : rd_St} {c : Nat} {v : Int32} (h : A 4 c = 1 ∨ A 4 c = 2 ∨ A 4 c = 3 ∨ A 4 c = 4 ∨ A 4 c = 5) : rd_wl n A (rd_ready (rd_sw A  12 c v) c) := by
  intro t _
  show rd_c (upd (A 4) c 0 t) (upd (A 12) c v t) + 2 * (A 18 t).toNatClampNeg ≤ rd_c (A 4 t) (A 12 t) + 2 * (A 18 t).toNatClampNeg
  by_cases y : t = c
  · subst y
    rw [rd_us, rd_us, rd_c_w _ h]
    have := rd_c0_le v
    omega
  · rw [rd_un y, rd_un y]; exact Nat.le_refl _
theorem rd_wl_fall {n : Nat} {A : rd_St} {c : Nat} (h7 : A 4 c ≠ 7) (h8 : A 4 c ≠ 8) : rd_wl n A (rd_fall A c) := by
  intro t _
  show rd_c (upd (A 4) c 9 t) (A 12 t) + 2 * (A 18 t).toNatClampNeg ≤ rd_c (A 4 t) (A 12 t) + 2 * (A 18 t).toNatClampNeg
  by_cases y : t = c
  · subst y
    rw [rd_us, rd_c9]
    have := rd_c_ge (A 12 t) h7 h8
    omega
  · rw [rd_un y]; exact Nat.le_refl _
theorem rd_wl_pop {n : Nat} {A : rd_St} {c d : Nat} (hd : A 18 c = nI (d + 1)) (h8 : d < 8) : rd_wl n A (rd_sw A  18 c (nI d)) := by
  intro t _
  show rd_c (A 4 t) (A 12 t) + 2 * (upd (A 18) c (nI d) t).toNatClampNeg ≤ rd_c (A 4 t) (A 12 t) + 2 * (A 18 t).toNatClampNeg
  by_cases y : t = c
  · subst y
    rw [rd_us, hd, nI_clamp (by omega), nI_clamp (by omega)]
    omega
  · rw [rd_un y]; exact Nat.le_refl _
theorem rd_w_pop {A : rd_St} {c d : Nat} (hd : A 18 c = nI (d + 1)) (h8 : d < 8) : rd_W (rd_sw A  18 c (nI d)) c < rd_W A c := by
  show rd_c (A 4 c) (A 12 c) + 2 * (upd (A 18) c (nI d) c).toNatClampNeg < rd_c (A 4 c) (A 12 c) + 2 * (A 18 c).toNatClampNeg
  rw [rd_us, hd, nI_clamp (by omega), nI_clamp (by omega)]
  omega
theorem rd_wl_cmp {n : Nat} {A : rd_St} {c : Nat} (h9 : A 4 c = 9) : rd_wl n A (rd_sw A  4 c 7) := by
  intro t _
  show rd_c (upd (A 4) c 7 t) (A 12 t) + 2 * (A 18 t).toNatClampNeg ≤ rd_c (A 4 t) (A 12 t) + 2 * (A 18 t).toNatClampNeg
  by_cases y : t = c
  · subst y
    rw [rd_us, h9, rd_c7, rd_c9]; omega
  · rw [rd_un y]; exact Nat.le_refl _
theorem rd_w_cmp {A : rd_St} {c : Nat} (h9 : A 4 c = 9) : rd_W (rd_sw A  4 c 7) c < rd_W A c := by
  show rd_c (upd (A 4) c 7 c) (A 12 c) + 2 * (A 18 c).toNatClampNeg < rd_c (A 4 c) (A 12 c) + 2 * (A 18 c).toNatClampNeg
  rw [rd_us, h9, rd_c7, rd_c9]; omega
theorem rd_wl_term {n : Nat} {A : rd_St} {c : Nat} : rd_wl n A (rd_sw A  4 c 8) := by
  intro t _
  show rd_c (upd (A 4) c 8 t) (A 12 t) + 2 * (A 18 t).toNatClampNeg ≤ rd_c (A 4 t) (A 12 t) + 2 * (A 18 t).toNatClampNeg
  by_cases y : t = c
  · subst y
    rw [rd_us, rd_c8]; omega
  · rw [rd_un y]; exact Nat.le_refl _
theorem rd_wl_left {n : Nat} {A : rd_St} {c d : Nat} {v : Int32} (h6 : A 4 c = 6) (hd : A 18 c = nI (d + 1)) (h8 : d < 8) : rd_wl n A (rd_ready (rd_sw (rd_sw A  18 c (nI d))  5 c v) c) := by
  intro t _
  show rd_c (upd (A 4) c 0 t) (A 12 t) + 2 * (upd (A 18) c (nI d) t).toNatClampNeg ≤ rd_c (A 4 t) (A 12 t) + 2 * (A 18 t).toNatClampNeg
  by_cases y : t = c
  · subst y
    rw [rd_us, rd_us, hd, h6, nI_clamp (by omega), nI_clamp (by omega), rd_c6]
    have := rd_c0_le (A 12 t)
    omega
  · rw [rd_un y, rd_un y]; exact Nat.le_refl _
theorem rd_ph_le {n : Nat} {A B : rd_St} (h : rd_wl n A B) : rd_ph n B ≤ rd_ph n A := rd_sum_le h
theorem rd_ph_lt {n s : Nat} {A B : rd_St} (h : rd_wl n A B) (hs : s < n) (hl : rd_W B s < rd_W A s) : rd_ph n B < rd_ph n A := rd_sum_lt h hs hl
theorem rd_ph_bd {n e D : Nat} {A : rd_St} {w : List Nat} {Q : Nat → List Nat} (h : rd_Inv n e D A w Q) : rd_ph n A ≤ 160 := by
  have h8 := h.vN.2
  have := rd_sum_bd (f := rd_w (A 4) (A 12) (A 18)) (K := 20) (n := n) (fun t ht => by
    obtain ⟨d, a, b, c⟩ := rd_dpos h ht
    have := rd_c_le (A 4 t) (A 12 t)
    show rd_c (A 4 t) (A 12 t) + 2 * (A 18 t).toNatClampNeg ≤ 20
    omega)
  unfold rd_ph
  omega
theorem rd_wlen {n e D : Nat} {A : rd_St} {w : List Nat} {Q : Nat → List Nat} (h : rd_Inv n e D A w Q) : w.length ≤ n := rd_pig n w h.vR.1 (fun x hx => ((h.vR.2 x).mp hx).1)
theorem rd_wlen' {n e D t : Nat} {A : rd_St} {w : List Nat} {Q : Nat → List Nat} (h : rd_Inv n e D A w Q) (ht : t < n) (h0 : A 4 t ≠ 0) : w.length < n := by
  have := rd_pig n (t :: w) (List.nodup_cons.mpr ⟨fun z => h0 ((h.vR.2 t).mp z).2, h.vR.1⟩) (fun x hx => by
    rw [List.mem_cons] at hx
    rcases hx with e | e
    · omega
    · exact ((h.vR.2 x).mp e).1)
  simp only [List.length_cons] at this
  omega
theorem rd_qlen {n e D q : Nat} {A : rd_St} {w : List Nat} {Q : Nat → List Nat} (h : rd_Inv n e D A w Q) : (Q q).length ≤ n := rd_pig n _ (h.vQ q).1 (fun x hx => ((h.vQ q).2 x hx).1)
theorem rd_qlen' {n e D q t : Nat} {A : rd_St} {w : List Nat} {Q : Nat → List Nat} (h : rd_Inv n e D A w Q) (ht : t < n) (hq : t ∉ Q q) : (Q q).length < n := by
  have := rd_pig n (t :: Q q) (List.nodup_cons.mpr ⟨hq, (h.vQ q).1⟩) (fun x hx => by
    rw [List.mem_cons] at hx
    rcases hx with e | e
    · omega
    · exact ((h.vQ q).2 x e).1)
  simp only [List.length_cons] at this
  omega
/-! the callers in a queue are woken -/
def rd_dq (Q : Nat → List Nat) (k : Nat) (L : List Nat) : Nat → List Nat := fun q => if q = k then L else Q q
theorem rd_dq_s {Q : Nat → List Nat} {k : Nat} {L : List Nat} : rd_dq Q k L k = L := if_pos rfl
theorem rd_dq_n {Q : Nat → List Nat} {k q : Nat} {L : List Nat} (h : q ≠ k) : rd_dq Q k L q = Q q := if_neg h
theorem rd_dq_dq {Q : Nat → List Nat} {k : Nat} {L M : List Nat} : rd_dq (rd_dq Q k L) k M = rd_dq Q k M := by
  funext q
  by_cases e : q = k
  · rw [e, rd_dq_s, rd_dq_s]
  · rw [rd_dq_n e, rd_dq_n e, rd_dq_n e]
theorem rd_dq_e {Q : Nat → List Nat} {k : Nat} : rd_dq Q k (Q k) = Q := by
  funext q
  by_cases e : q = k
  · rw [e, rd_dq_s]
  · rw [rd_dq_n e]
theorem rd_i_dq {n e D k c : Nat} {A : rd_St} {w L : List Nat} {Q : Nat → List Nat} (h : rd_Inv n e D A w (rd_dq Q k (c :: L))) : rd_Inv n e D A w (rd_dq Q k L) ∧ c < n ∧ A 4 c = 1 ∧ k < 3 * n ∧ (∀ q, c ∉ rd_dq Q k L q) ∧ rd_fq (rd_dq Q k (c :: L)) c = rd_dq Q k L := by
  have hk := h.vQ k
  rw [rd_dq_s] at hk
  have hc := hk.2 c (by simp)
  have nd := List.nodup_cons.mp hk.1
  have no : ∀ q, c ∉ rd_dq Q k L q := by
    intro q hm
    by_cases e : q = k
    · rw [e, rd_dq_s] at hm; exact nd.1 hm
    · rw [rd_dq_n e] at hm
      have := (h.vQ q).2 c (by rw [rd_dq_n e]; exact hm)
      have a := this.2.2.1.symm.trans hc.2.2.1
      have h8 := h.vN.2
      exact e (rd_inj (by omega) (by omega) a)
  refine ⟨⟨h.vG, h.vN, h.vR, ?_, h.vF, h.vU, h.vM, h.vB, h.vX, h.vC, h.vE, h.vL, h.vK, h.vD, h.vW, h.vP, h.vZ, h.vA, h.rbo, h.rpl, h.rdp, h.rli, h.rdm, h.rpe, h.rcd⟩, hc.1, hc.2.1, hc.2.2.2, no, ?_⟩
  · intro q
    by_cases e : q = k
    · rw [e, rd_dq_s]
      exact ⟨nd.2, fun x hx => hk.2 x (by simp [hx])⟩
    · rw [rd_dq_n e]
      have := h.vQ q
      rw [rd_dq_n e] at this
      exact this
  · funext q
    unfold rd_fq
    by_cases e : q = k
    · rw [e, rd_dq_s, rd_dq_s, List.filter_cons, if_neg (by simp), rd_fl_not nd.1]
    · have := no q
      rw [rd_dq_n e] at this
      rw [rd_dq_n e, rd_dq_n e, rd_fl_not this]
def rd_wa (A : rd_St) : List Nat → rd_St
  | [] => A
  | c :: L => rd_wa (rd_ready (rd_sw A  12 c 11) c) L
/-- one caller: its exception, and it is ready -/
theorem rd_i_rp {n e D c x : Nat} {A : rd_St} {w : List Nat} {Q : Nat → List Nat} (h : rd_Inv n e D A w Q) (hc : c < n) (h0 : A 4 c ≠ 0) (h8 : A 4 c ≠ 8) (hq : ∀ q, c ∉ Q q) (hf : rd_nf n (A 18) (A 19) (A 20) c) (hx : x ≤ 14) : rd_Inv n e D (rd_ready (rd_sw A  12 c (nI x)) c) (w ++ [c]) Q :=
  rd_i_pe (c := x) (rd_i_ready h hc h0 h8 hq hf) hc hx (Or.inl rd_us)
theorem rd_i_wa {n e D k : Nat} {Q : Nat → List Nat} : ∀ {L : List Nat} {A : rd_St} {w : List Nat}, rd_Inv n e D A w (rd_dq Q k L) → rd_Inv n e D (rd_wa A L) (w ++ L) (rd_dq Q k []) ∧ rd_sta A (rd_wa A L) ∧ rd_wl n A (rd_wa A L) ∧ rd_kp (fun t => A 4 t ≠ 1) A (rd_wa A L) w (w ++ L) := by
  intro L
  induction L with
  | nil =>
    intro A w h
    rw [List.append_nil]
    exact ⟨h, rd_sta_rf _, rd_wl_rf _ _, rd_kp_rf _ _ _⟩
  | cons c L ih =>
    intro A w h
    obtain ⟨a1, a2, a3, _, a4, _⟩ := rd_i_dq h
    have r := rd_i_rp (x := 11) a1 a2 (by rw [a3]; decide) (by rw [a3]; decide) a4 (rd_nf_of h.vN.2 h.vF a2 (by rw [a3]; decide)) (by omega)
    obtain ⟨b1, b2, b3, b4⟩ := ih r
    rw [List.append_assoc] at b1 b4
    refine ⟨b1, rd_sta_tr (rd_sta_tr (rd_sta_sw (by simp)) rd_sta_ready) b2, rd_wl_tr (rd_wl_rp (Or.inl a3)) b3, ?_⟩
    have nc : ¬ (fun t => A 4 t ≠ 1) c := fun z => z a3
    refine rd_kp_tr (rd_kp_tr (rd_kp_pe nc) (rd_kp_ready (P := fun t => A 4 t ≠ 1) nc) (fun _ z => z)) b4 ?_
    intro t ht
    show upd (A 4) c 0 t ≠ 1
    rw [rd_up]
    by_cases y : t = c
    · rw [if_pos y]; decide
    · rw [if_neg y]; exact ht
theorem rd_wa_cd {s : Nat} : ∀ {L : List Nat} {A : rd_St}, (rd_wa A L) 4 s = A 4 s ∨ (rd_wa A L) 4 s = 0
  | [], _ => Or.inl rfl
  | c :: L, A => by
    rcases rd_wa_cd (s := s) (L := L) (A := rd_ready (rd_sw A  12 c 11) c) with h | h
    · have e : (rd_ready (rd_sw A  12 c 11) c) 4 s = upd (A 4) c 0 s := rfl
      rw [e] at h
      by_cases y : s = c
      · subst y
        rw [rd_us] at h
        exact Or.inr h
      · rw [rd_un y] at h
        exact Or.inl h
    · exact Or.inr h
