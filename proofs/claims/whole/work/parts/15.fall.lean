/-! a fall -/
theorem rd_nf_pop {n : Nat} {dp fk fv : Nat → Int32} {t d c : Nat} (ht : t < n) (hd : dp t = nI (d + 1)) (h8 : d < 8) (hU : rd_vU n dp fk fv) (h1 : fk (8 * t + d) = 1) (hv : fv (8 * t + d) = nI c) : rd_nf n (upd dp t (nI d)) fk fv c := by
  intro s hs l hl a b
  have hl' : l < (dp s).toNatClampNeg := by
    by_cases y : s = t
    · subst y
      rw [rd_us, nI_clamp (by omega)] at hl
      rw [hd, nI_clamp (by omega)]; omega
    · rw [rd_un y] at hl; exact hl
  have z := hU s hs t ht l hl' d (by rw [hd, nI_clamp (by omega)]; omega) a h1 (b.trans hv.symm)
  rw [z.1, rd_us, nI_clamp (by omega)] at hl
  omega
theorem rd_xl_tk {post : Int32 → SX → Prop} {A : rd_St} {rl : Int32} {ra qa ql : Nat → Int32} {t d n : Nat} (hn : n ≤ 8) (hk : A 26 0 = nI n) (ht : t < 8) (hd : A 18 t = nI d) (h8 : d < 8) (h0 : A 19 (8 * t + d) = 0) {mb0 : Nat → Int32} (H : post (-1) (rd_tX (rd_sa A  10 (rd_re n (A 9) mb0 t d)) rl ra qa ql)) : ∀ (e k : Nat) (mb : Nat → Int32), k + e = n → (∀ u, mb u = if u < k ∧ A 9 u = nI t ∧ mb0 u = nI d then -1 else mb0 u) → wX_takeFrame_41 post (nI t) (nI (8 * t + d)) rl ((rd_sa A  10 mb) 25 0) ((rd_sa A  10 mb) 26 0) ((rd_sa A  10 mb) 27 0) ((rd_sa A  10 mb) 28 0) ((rd_sa A  10 mb) 29 0) ((rd_sa A  10 mb) 30 0) ((rd_sa A  10 mb) 31 0) (e + 1) (nI k) ((rd_sa A  10 mb) 0) ((rd_sa A  10 mb) 1) ((rd_sa A  10 mb) 2) ((rd_sa A  10 mb) 3) ((rd_sa A  10 mb) 4) ((rd_sa A  10 mb) 5) ((rd_sa A  10 mb) 6) ((rd_sa A  10 mb) 7) ((rd_sa A  10 mb) 8) ((rd_sa A  10 mb) 9) ((rd_sa A  10 mb) 10) ((rd_sa A  10 mb) 11) ((rd_sa A  10 mb) 12) ((rd_sa A  10 mb) 13) ((rd_sa A  10 mb) 14) ((rd_sa A  10 mb) 15) ((rd_sa A  10 mb) 16) ((rd_sa A  10 mb) 17) ((rd_sa A  10 mb) 18) ((rd_sa A  10 mb) 19) ((rd_sa A  10 mb) 20) qa ql ra ((rd_sa A  10 mb) 21) ((rd_sa A  10 mb) 22) ((rd_sa A  10 mb) 32) ((rd_sa A  10 mb) 23)
  | 0, k, mb, h1, h2 => by
    have e : k = n := by omega
    subst e
    have em : mb = rd_re k (A 9) mb0 t d := by
      funext u
      rw [h2 u]
      rfl
    subst em
    exact br_t (by show A 26 0 ≤ nI k; rw [hk]; exact nI_le (Nat.le_refl _) (by omega)) H
  | e + 1, k, mb, h1, h2 => by
    have ck : (nI k).toNatClampNeg = k := nI_clamp (by omega)
    have ct : (nI t).toNatClampNeg = t := nI_clamp (by omega)
    have cd : (nI (8 * t + d)).toNatClampNeg = 8 * t + d := nI_clamp (by omega)
    have i8 : vp_in (nI k) 8 := vp_in_nI (by omega) (by omega)
    have i8t : vp_in (nI t) 8 := vp_in_nI (by omega) (by omega)
    have emk : mb k = mb0 k := by rw [h2 k, if_neg (fun q => by omega)]
    have next : ¬ (A 9 k = nI t ∧ mb0 k = nI d) → wX_takeFrame_41 post (nI t) (nI (8 * t + d)) rl ((rd_sa A  10 mb) 25 0) ((rd_sa A  10 mb) 26 0) ((rd_sa A  10 mb) 27 0) ((rd_sa A  10 mb) 28 0) ((rd_sa A  10 mb) 29 0) ((rd_sa A  10 mb) 30 0) ((rd_sa A  10 mb) 31 0) (e + 1) (nI (k + 1)) ((rd_sa A  10 mb) 0) ((rd_sa A  10 mb) 1) ((rd_sa A  10 mb) 2) ((rd_sa A  10 mb) 3) ((rd_sa A  10 mb) 4) ((rd_sa A  10 mb) 5) ((rd_sa A  10 mb) 6) ((rd_sa A  10 mb) 7) ((rd_sa A  10 mb) 8) ((rd_sa A  10 mb) 9) ((rd_sa A  10 mb) 10) ((rd_sa A  10 mb) 11) ((rd_sa A  10 mb) 12) ((rd_sa A  10 mb) 13) ((rd_sa A  10 mb) 14) ((rd_sa A  10 mb) 15) ((rd_sa A  10 mb) 16) ((rd_sa A  10 mb) 17) ((rd_sa A  10 mb) 18) ((rd_sa A  10 mb) 19) ((rd_sa A  10 mb) 20) qa ql ra ((rd_sa A  10 mb) 21) ((rd_sa A  10 mb) 22) ((rd_sa A  10 mb) 32) ((rd_sa A  10 mb) 23) := fun z =>
      rd_xl_tk hn hk ht hd h8 h0 H e (k + 1) mb (by omega) (fun u => by
        rw [h2 u]
        by_cases y : A 9 u = nI t ∧ mb0 u = nI d
        · by_cases x : u < k
          · rw [if_pos ⟨x, y⟩, if_pos ⟨by omega, y⟩]
          · have : u ≠ k := fun q => z (q ▸ y)
            rw [if_neg (fun q => x q.1), if_neg (fun q => by omega)]
        · rw [if_neg (fun q => y q.2), if_neg (fun q => y q.2)])
    refine br_f (by show ¬ A 26 0 ≤ nI k; rw [hk]; exact nI_ge (by omega) (by omega)) ⟨vp_in_nI (by omega) (by omega), br_t (by rw [cd]; exact h0) ⟨i8, ?_⟩⟩
    by_cases e1 : A 9 k = nI t
    · refine br_t (by rw [ck]; exact e1) ⟨i8, i8t, ?_⟩
      by_cases e2 : mb0 k = nI d
      · refine br_t (show mb (nI k).toNatClampNeg = A 18 (nI t).toNatClampNeg by rw [ck, ct, emk, hd]; exact e2) ⟨i8, nm_r (e' := upd mb k (-1)) (by rw [ck]; rfl) (nm_r (nI_1 k) (rd_xl_tk hn hk ht hd h8 h0 H e (k + 1) (upd mb k (-1)) (by omega) (fun u => ?_)))⟩
        by_cases y : u = k
        · subst y
          rw [rd_us, if_pos ⟨by omega, e1, e2⟩]
        · rw [rd_un y, h2 u]
          by_cases z : A 9 u = nI t ∧ mb0 u = nI d
          · by_cases x : u < k
            · rw [if_pos ⟨x, z⟩, if_pos ⟨by omega, z⟩]
            · rw [if_neg (fun q => x q.1), if_neg (fun q => by omega)]
          · rw [if_neg (fun q => z q.2), if_neg (fun q => z q.2)]
      · exact br_f (show ¬ mb (nI k).toNatClampNeg = A 18 (nI t).toNatClampNeg by rw [ck, ct, emk, hd]; exact e2) (nm_r (nI_1 k) (next (fun z => e2 z.2)))
    · exact br_f (by rw [ck]; exact e1) (nm_r (nI_1 k) (next (fun z => e1 z.1)))
theorem rd_xl_tk2 {post : Int32 → SX → Prop} {A : rd_St} {rl : Int32} {ra qa ql : Nat → Int32} {t d n : Nat} (hn : n ≤ 8) (hk : A 26 0 = nI n) (ht : t < 8) (h8 : d < 8) (h0 : A 19 (8 * t + d) ≠ 0) (H : post (-1) (rd_tX A rl ra qa ql)) : ∀ (e k : Nat), k + e = n → wX_takeFrame_41 post (nI t) (nI (8 * t + d)) rl (A 25 0) (A 26 0) (A 27 0) (A 28 0) (A 29 0) (A 30 0) (A 31 0) (e + 1) (nI k) (A 0) (A 1) (A 2) (A 3) (A 4) (A 5) (A 6) (A 7) (A 8) (A 9) (A 10) (A 11) (A 12) (A 13) (A 14) (A 15) (A 16) (A 17) (A 18) (A 19) (A 20) qa ql ra (A 21) (A 22) (A 32) (A 23)
  | 0, k, h1 => by
    have e : k = n := by omega
    subst e
    exact br_t (by rw [hk]; exact nI_le (Nat.le_refl _) (by omega)) H
  | e + 1, k, h1 => by
    have cd : (nI (8 * t + d)).toNatClampNeg = 8 * t + d := nI_clamp (by omega)
    exact br_f (by rw [hk]; exact nI_ge (by omega) (by omega)) ⟨vp_in_nI (by omega) (by omega), br_f (by rw [cd]; exact h0) (nm_r (nI_1 k) (rd_xl_tk2 hn hk ht h8 h0 H e (k + 1) (by omega)))⟩
theorem rd_x_take {post : Int32 → SX → Prop} {n : Nat} {A : rd_St} {w : List Nat} {Q : Nat → List Nat} {u : SX} {t d : Nat} (hu : rd_RX A w Q u) (hN : rd_vN n (A 26)) (ht : t < 8) (hd : A 18 t = nI (d + 1)) (h8 : d < 8) (H1 : A 19 (8 * t + d) = 1 → ∀ u', rd_RX (rd_sw A  18 t (nI d)) w Q u' → post (A 20 (8 * t + d)) u') (H0 : A 19 (8 * t + d) = 0 → ∀ u', rd_RX (rd_sw (rd_sa A  10 (rd_re n (A 9) (A 10) t d))  18 t (nI d)) w Q u' → post (-1) u') (H2 : A 19 (8 * t + d) ≠ 0 → A 19 (8 * t + d) ≠ 1 → ∀ u', rd_RX (rd_sw A  18 t (nI d)) w Q u' → post (-1) u') : wpX_takeFrame post u (nI t) := by
  obtain ⟨ra, qa, ql, rfl, hx⟩ := hu
  have ct : (nI t).toNatClampNeg = t := nI_clamp (by omega)
  have i8 : vp_in (nI t) 8 := vp_in_nI (by omega) (by omega)
  have i64 : vp_in (nI (8 * t + d)) 64 := vp_in_nI (by omega) (by omega)
  have cd : (nI (8 * t + d)).toNatClampNeg = 8 * t + d := nI_clamp (by omega)
  unfold wpX_takeFrame
  refine ⟨i8, i8, nm_r (e' := upd (A 18) t (nI d)) (by rw [ct, hd, nI_pred]) ⟨i8, nm_r (e' := nI (8 * t + d)) (by rw [ct, rd_us]; exact rd_ix t d 8 8 rfl) ⟨i64, ?_⟩⟩⟩
  by_cases h1 : A 19 (8 * t + d) = 1
  · refine br_t (by rw [cd]; exact h1) ⟨i64, ?_⟩
    rw [cd]
    exact H1 h1 _ (rd_RX_mk (A := rd_sw A  18 t (nI d)) hx)
  · refine br_f (by rw [cd]; exact h1) ?_
    by_cases h0 : A 19 (8 * t + d) = 0
    · refine ⟨n + 1, ?_⟩
      have g := rd_xl_tk (post := post) (A := rd_sw A  18 t (nI d)) (rl := nI w.length) (ra := ra) (qa := qa) (ql := ql) (mb0 := A 10) hN.2 hN.1 ht (d := d) rd_us h8 h0 (H0 h0 _ (rd_RX_mk (A := rd_sw (rd_sa A  10 (rd_re n (A 9) (A 10) t d))  18 t (nI d)) hx)) n 0 (A 10) (by omega) (fun u => by rw [if_neg (fun q => by omega)])
      exact g
    · exact ⟨n + 1, rd_xl_tk2 (A := rd_sw A  18 t (nI d)) hN.2 hN.1 ht h8 h0 (H2 h0 h1 _ (rd_RX_mk (A := rd_sw A  18 t (nI d)) hx)) n 0 (by omega)⟩
theorem rd_LV_last {a : Nat → Int32} {T : List Nat} {s : Nat} (h : rd_LV a 0 (T ++ [s])) : a T.length = nI s := by
  have := rd_LV_get (i := T.length) (x := s) h (by simp)
  rw [Nat.zero_add] at this
  exact this
/-- the stack of falling tasks, the latest last -/
def rd_stk (n : Nat) (A : rd_St) (S : List Nat) : Prop := S.Nodup ∧ (∀ s, s ∈ S ↔ (s < n ∧ A 4 s = 9)) ∧ rd_LV (A 32) 0 S ∧ rd_LV (A 33) 0 S
def rd_FT (n : Nat) (A B : rd_St) (w x : List Nat) : Prop := rd_stw A B ∧ rd_wl n A B ∧ rd_kp (fun s => A 4 s = 0) A B w x ∧ (∀ s, A 4 s = 7 ∨ A 4 s = 8 → B 4 s = 7 ∨ B 4 s = 8)
theorem rd_FT_rf (n : Nat) (A : rd_St) (w : List Nat) : rd_FT n A A w w := ⟨rd_stw_of (rd_sta_rf _), rd_wl_rf _ _, rd_kp_rf _ _ _, fun _ h => h⟩
theorem rd_FT_tr {n : Nat} {A B C : rd_St} {w x y : List Nat} (h : rd_FT n A B w x) (g : rd_FT n B C x y) : rd_FT n A C w y :=
  ⟨rd_stw_tr h.1 g.1, rd_wl_tr h.2.1 g.2.1, rd_kp_tr h.2.2.1 g.2.2.1 (fun t ht => by rw [(h.2.2.1 t ht).1]; exact ht), fun s z => g.2.2.2 s (h.2.2.2 s z)⟩
def rd_Xs (how : Int32) (A B : rd_St) (w x : List Nat) (Q R : Nat → List Nat) (S T : List Nat) : Prop := ∀ (post : SX → Prop) (f i : Nat) (ra qa ql : Nat → Int32), i < 1000 → rd_XL w Q ra qa ql → (∀ ra qa ql, rd_XL x R ra qa ql → wX_bringDown_17 post how f (nI T.length) (nI (i + 1)) (nI x.length) (B 25 0) (B 26 0) (B 27 0) (B 28 0) (B 29 0) (B 30 0) (B 31 0) (B 0) (B 1) (B 2) (B 3) (B 4) (B 5) (B 6) (B 7) (B 8) (B 9) (B 10) (B 11) (B 12) (B 13) (B 14) (B 15) (B 16) (B 17) (B 18) (B 19) (B 20) qa ql ra (B 21) (B 22) (B 32) (B 23)) → wX_bringDown_17 post how (f + 1) (nI S.length) (nI i) (nI w.length) (A 25 0) (A 26 0) (A 27 0) (A 28 0) (A 29 0) (A 30 0) (A 31 0) (A 0) (A 1) (A 2) (A 3) (A 4) (A 5) (A 6) (A 7) (A 8) (A 9) (A 10) (A 11) (A 12) (A 13) (A 14) (A 15) (A 16) (A 17) (A 18) (A 19) (A 20) qa ql ra (A 21) (A 22) (A 32) (A 23)
def rd_Ys (ex n D : Nat) (how : Int32) (A B : rd_St) (w x : List Nat) (Q R : Nat → List Nat) (S T : List Nat) : Prop := ∀ (post : SY → Prop) (f : Nat) (ra qa wq am rz ob fr st : Nat → Int32) (bl : Int32), rd_YL ex n D A w Q ra qa wq am rz ob fr st bl → (∀ ra qa wq am rz ob fr st bl, rd_YL ex n D B x R ra qa wq am rz ob fr st bl → wY_kill_20 post how f (nI T.length) (B 26 0) bl (nI x.length) (B 27 0) (B 28 0) (B 29 0) (B 25 0) (B 3) (B 0) (B 1) (B 2) st (B 5) (B 6) (B 11) (B 8) (B 7) rz (B 16) (B 18) (B 19) fr (B 9) ob (B 13) qa wq ra (B 33) am (B 21) (B 22)) → wY_kill_20 post how (f + 1) (nI S.length) (A 26 0) bl (nI w.length) (A 27 0) (A 28 0) (A 29 0) (A 25 0) (A 3) (A 0) (A 1) (A 2) st (A 5) (A 6) (A 11) (A 8) (A 7) rz (A 16) (A 18) (A 19) fr (A 9) ob (A 13) qa wq ra (A 33) am (A 21) (A 22)
/-- the last of the stack has no frames: it is completed -/
theorem rd_fs0 {ex n D : Nat} {how : Int32} {A : rd_St} {w : List Nat} {Q : Nat → List Nat} {T : List Nat} {s : Nat} (I : rd_Inv n 8 D A w Q) (hS : rd_stk n A (T ++ [s])) (hd : A 18 s = 0) (hex : ex < n → A 4 ex = 0) : ∃ B x R S2, rd_Inv n 8 D B x R ∧ rd_stk n B S2 ∧ rd_FT n A B w x ∧ rd_ph n B < rd_ph n A ∧ (∀ r, r ∈ T ++ [s] → r ∈ S2 ∨ (B 4 r = 7 ∨ B 4 r = 8)) ∧ rd_Xs how A B w x Q R (T ++ [s]) S2 ∧ rd_Ys ex n D how A B w x Q R (T ++ [s]) S2 := by
  have hn := I.vN.2
  obtain ⟨nd, hm, hfa, hdy⟩ := hS
  obtain ⟨hs, h9⟩ := (hm s).mp (by simp)
  have lT : (T ++ [s]).length = T.length + 1 := by simp
  have l8 : T.length + 1 ≤ 8 := by
    have := rd_pig n _ nd (fun x hx => ((hm x).mp hx).1)
    omega
  have sT : s ∉ T := by
    intro z
    rw [List.nodup_append] at nd
    exact nd.2.2 s z s (by simp) rfl
  have cs : (nI s).toNatClampNeg = s := nI_clamp (by omega)
  have i8 : vp_in (nI s) 8 := vp_in_nI (by omega) (by omega)
  have key : ∃ hw : Int32, (T = [] → hw = how) ∧ (T ≠ [] → hw = 14) := by
    by_cases z : T = []
    · exact ⟨how, fun _ => rfl, fun y => absurd z y⟩
    · exact ⟨14, fun y => absurd y z, fun _ => rfl⟩
  obtain ⟨hw, hw1, hw2⟩ := key
  obtain ⟨A1, w1, B, x, R, J, F, X1, X2, Y⟩ := rd_cs (ex := ex) I hs h9 hd hw hex
  have ff : B 32 = A 32 := F.1  32 (by decide) (by decide) (by decide) (by decide) (by decide) (by decide) (by decide)
  have fd : B 33 = A 33 := F.1  33 (by decide) (by decide) (by decide) (by decide) (by decide) (by decide) (by decide)
  have hT : rd_stk n B T := by
    refine ⟨(List.nodup_append.mp nd).1, fun r => ⟨fun hr => ?_, fun hr => ?_⟩, ?_, ?_⟩
    · have := (hm r).mp (by simp [hr])
      have rs : r ≠ s := fun e => sT (e ▸ hr)
      refine ⟨this.1, ?_⟩
      rw [(F.2.2.1 r ⟨Or.inr this.2, rs⟩).1]
      exact this.2
    · obtain ⟨a, b⟩ := F.2.2.2.1 r hr.2
      have := (hm r).mpr ⟨hr.1, a⟩
      rw [List.mem_append] at this
      rcases this with z | z
      · exact z
      · simp at z; exact absurd z b
    · rw [ff]; exact rd_LV_pre hfa
    · rw [fd]; exact rd_LV_pre hdy
  refine ⟨B, x, R, T, J, hT, ⟨rd_stw_of F.1, F.2.1, rd_kp_w F.2.2.1 (fun r z => ⟨Or.inl z, fun e => by rw [e, h9] at z; exact absurd z (by decide)⟩), F.2.2.2.2.1⟩, rd_ph_lt F.2.1 hs F.2.2.2.2.2.2, ?_, ?_, ?_⟩
  · intro r hr
    rw [List.mem_append] at hr
    rcases hr with z | z
    · exact Or.inl z
    · simp at z; rw [z]; exact Or.inr F.2.2.2.2.2.1
  · intro post f i ra qa ql hi hx H
    rw [lT]
    refine br_f (nI_ge (b := 1000) (by omega) (by omega)) (br_f (nI_nle (by omega) (by omega)) ⟨by rw [nI_pred]; exact vp_in_nI (by omega) (by omega), nm_r (e' := nI s) (by rw [nI_pred, nI_clamp (by omega)]; exact rd_LV_last hfa) ⟨i8, br_t (by rw [cs]; exact hd) (nm_r (e' := nI T.length) (rd_m1 T.length) ?_)⟩⟩)
    have fin : wX_bringDown_65 post (wX_bringDown_17 post how f) how (nI T.length) (nI i) (nI s) hw (nI s) (nI w.length) (A 25 0) (A 26 0) (A 27 0) (A 28 0) (A 29 0) (A 30 0) (A 31 0) (A 0) (A 1) (A 2) (A 3) (A 4) (A 5) (A 6) (A 7) (A 8) (A 9) (A 10) (A 11) (A 12) (A 13) (A 14) (A 15) (A 16) (A 17) (A 18) (A 19) (A 20) qa ql ra (A 21) (A 22) (A 32) (A 23) := by
      refine X1 _ _ (rd_RX_mk hx) ?_
      rintro u' ⟨ra1, qa1, ql1, rfl, hx1⟩
      refine X2 _ _ (rd_RX_mk hx1) ?_
      rintro u'' ⟨ra2, qa2, ql2, rfl, hx2⟩
      exact nm_r (nI_1 i) (H ra2 qa2 ql2 hx2)
    by_cases z : T = []
    · have e0 : nI T.length = 0 := by rw [z]; rfl
      rw [hw1 z] at fin
      exact br_t e0 fin
    · have e0 : T.length ≠ 0 := fun y => z (List.length_eq_zero_iff.mp y)
      rw [hw2 z] at fin
      exact br_f (nI_ne0 (by omega) (by omega)) fin
  · intro post f ra qa wq am rz ob fr st bl hy H
    rw [lT]
    refine br_f (nI_nle (by omega) (by omega)) ⟨by rw [nI_pred]; exact vp_in_nI (by omega) (by omega), nm_r (e' := nI s) (by rw [nI_pred, nI_clamp (by omega)]; exact rd_LV_last hdy) ⟨i8, br_t (by rw [cs]; exact hd) (nm_r (e' := nI T.length) (rd_m1 T.length) ?_)⟩⟩
    have fin : wY_kill_61 post (wY_kill_20 post how f) (nI T.length) how hw (nI s) (A 26 0) bl (nI w.length) (A 27 0) (A 28 0) (A 29 0) (A 25 0) (A 3) (A 0) (A 1) (A 2) st (A 5) (A 6) (A 11) (A 8) (A 7) rz (A 16) (A 18) (A 19) fr (A 9) ob (A 13) qa wq ra (A 33) am (A 21) (A 22) := by
      refine rd_y_cmp9 I hs h9 hd Y _ _ (rd_RY_mk hy) ?_
      rintro v' ⟨ra1, qa1, wq1, am1, rz1, ob1, fr1, st1, bl1, rfl, hy1⟩
      exact H ra1 qa1 wq1 am1 rz1 ob1 fr1 st1 bl1 hy1
    by_cases z : T = []
    · have e0 : nI T.length = 0 := by rw [z]; rfl
      rw [hw1 z] at fin
      exact br_t e0 fin
    · have e0 : T.length ≠ 0 := fun y => z (List.length_eq_zero_iff.mp y)
      rw [hw2 z] at fin
      exact br_f (nI_ne0 (by omega) (by omega)) fin
