/-! raising: the loop, in lockstep -/
theorem rd_rl {n D t c : Nat} (hc0 : 0 < c) (hc : c ≤ 14) : ∀ (d : Nat) (A : rd_St) (w : List Nat) (Q : Nat → List Nat), rd_Inv n 8 D A w Q → t < n → A 4 t = 0 → A 12 t = nI c → A 18 t = nI d → d ≤ 8 → (∀ s, s < n → A 4 s ≠ 9) → ∃ B x R, rd_Inv n 8 D B x R ∧ rd_RS n t A B w x ∧ rd_rX t c A B w x Q R d ∧ rd_rY n D t c A B w x Q R d := by
  intro d
  induction d with
  | zero =>
    intro A w Q I ht h0 hp hd h8 n9
    have hn := I.vN.2
    have ct : (nI t).toNatClampNeg = t := nI_clamp (by omega)
    have i8 : vp_in (nI t) 8 := vp_in_nI (by omega) (by omega)
    obtain ⟨B, x, R, J, F, X, Y⟩ := rd_bd0 (nI c) I ht h0 hd n9
    refine ⟨B, x, R, J, ⟨rd_stx_of F.1, rd_ph_lt F.2.1 ht F.2.2.2.2.2.2, F.2.2.2.1, fun z => ?_⟩, ?_, ?_⟩
    · rcases F.2.2.2.2.2.1 with y | y <;> rw [y] at z <;> exact absurd z (by decide)
    · intro post ra qa ql i f hi hf hx H
      obtain ⟨f', rfl⟩ : ∃ f', f = f' + 1 := ⟨f - 1, by omega⟩
      have P : wX_raise_151 post (nI t) (nI c) (nI w.length) (A 25 0) (A 26 0) (A 27 0) (A 28 0) (A 29 0) (A 30 0) (A 31 0) (A 0) (A 1) (A 2) (A 3) (A 4) (A 5) (A 6) (A 7) (A 8) (A 9) (A 10) (A 11) (A 12) (A 13) (A 14) (A 15) (A 16) (A 17) (A 18) (A 19) (A 20) qa ql ra (A 21) (A 22) (A 32) (A 23) := by
        refine X _ _ (rd_RX_mk hx) ?_
        rintro u' ⟨ra1, qa1, ql1, rfl, hx1⟩
        exact H _ (rd_RX_mk hx1)
      exact br_c (fun _ => P) (fun _ => ⟨i8, br_t (by rw [ct, hd]; exact nI_le (a := 0) (b := 0) (Nat.le_refl _) (by omega)) P⟩)
    · intro post ra qa wq am rz ob fr st bl f hf hy H
      obtain ⟨f', rfl⟩ : ∃ f', f = f' + 1 := ⟨f - 1, by omega⟩
      refine ⟨i8, br_t (by rw [ct, hd]; exact nI_le (a := 0) (b := 0) (Nat.le_refl _) (by omega)) ?_⟩
      refine Y t (Or.inl rfl) _ _ (rd_RY_mk hy) ?_
      rintro v' ⟨ra1, qa1, wq1, am1, rz1, ob1, fr1, st1, bl1, rfl, hy1⟩
      exact H _ (rd_RY_mk hy1)
  | succ d ih =>
    intro A w Q I ht h0 hp hd h8 n9
    have hn := I.vN.2
    have h8 : d < 8 := by omega
    have ct : (nI t).toNatClampNeg = t := nI_clamp (by omega)
    have i8 : vp_in (nI t) 8 := vp_in_nI (by omega) (by omega)
    have i64 : vp_in (nI (8 * t + d)) 64 := vp_in_nI (by omega) (by omega)
    have cd : (nI (8 * t + d)).toNatClampNeg = 8 * t + d := nI_clamp (by omega)
    have hds : d < (A 18 t).toNatClampNeg := by rw [hd, nI_clamp (by omega)]; omega
    have n6 : A 4 t ≠ 6 := by rw [h0]; decide
    have k7 : A 4 t ≠ 7 := by rw [h0]; decide
    have k8 : A 4 t ≠ 8 := by rw [h0]; decide
    have k9 : A 4 t ≠ 9 := by rw [h0]; decide
    have pe0 : A 12 t ≠ 0 := by rw [hp]; exact nI_ne0 hc0 (by omega)
    have wk1 : A 16 t = -1 := rd_wk0 I ht ⟨by rw [h0]; decide, by rw [h0]; decide, by rw [h0]; decide⟩
    have wl8 : w.length ≤ 8 := Nat.le_trans (rd_wlen I) hn
    have wx8 : ∀ x, x ∈ w → x < 8 := fun x hx => Nat.lt_of_lt_of_le ((I.vR.2 x).mp hx).1 hn
    have ed : A 18 (nI t).toNatClampNeg - 1 = nI d := by rw [ct, hd, nI_pred]
    by_cases hk : A 19 (8 * t + d) = 0 ∧ rd_lv n (A 9) (A 10) (A 4) t (nI d)
    · -- it waits at its block
      obtain ⟨hk, hl⟩ := hk
      have J := rd_i_leav I ht h0 h8 hd hk hl (fun z => absurd z pe0)
      have W : rd_W (rd_sw A  4 t 6) t < rd_W A t := by
        show rd_c (upd (A 4) t 6 t) (A 12 t) + 2 * (A 18 t).toNatClampNeg < rd_c (A 4 t) (A 12 t) + 2 * (A 18 t).toNatClampNeg
        rw [rd_us, h0, rd_c6, rd_c0 pe0]; omega
      have wl : rd_wl n A (rd_sw A  4 t 6) := by
        intro s hs
        by_cases e : s = t
        · rw [e]; exact Nat.le_of_lt W
        · show rd_c (upd (A 4) t 6 s) (A 12 s) + 2 * (A 18 s).toNatClampNeg ≤ rd_c (A 4 s) (A 12 s) + 2 * (A 18 s).toNatClampNeg
          rw [rd_un e]; exact Nat.le_refl _
      refine ⟨_, _, Q, J, ⟨rd_stx_sw (by simp), rd_ph_lt wl ht W, fun s hs z => ?_, fun z => ?_⟩, ?_, ?_⟩
      · have z : upd (A 4) t 6 s = 9 := z
        by_cases e : s = t
        · rw [e, rd_us] at z; exact absurd z (by decide)
        · rw [rd_un e] at z; exact n9 s hs z
      · have z : upd (A 4) t 6 t = 0 := z
        rw [rd_us] at z; exact absurd z (by decide)
      · intro post ra qa ql i f hi hf hx H
        obtain ⟨f', rfl⟩ : ∃ f', f = f' + 1 := ⟨f - 1, by omega⟩
        refine rd_rx_hd hn ht hd h8 post ra qa ql i f' (by omega) I.vN (fun _ _ => ?_) (fun z => absurd hl (z hk))
        refine rd_x_waitAs (rd_RX_mk hx) (by omega) wl8 wx8 ?_
        rintro u' ⟨ra1, qa1, ql1, rfl, hx1⟩
        exact H _ (rd_RX_mk hx1)
      · intro post ra qa wq am rz ob fr st bl f hf hy H
        obtain ⟨f', rfl⟩ : ∃ f', f = f' + 1 := ⟨f - 1, by omega⟩
        refine rd_ry_hd I ht h0 hd h8 post f' hy (fun _ _ => ?_) (fun z => absurd hl (z hk))
        refine rd_y_rest hy.r (by omega) wl8 wx8 (fun ra' gr => ?_)
        rw [rd_sw_eq (A := A) (k :=  16) wk1]
        refine ⟨i8, nm_r (e' := upd rz t (nI c)) (by rw [ct]) ?_⟩
        exact H _ (rd_RY_mk (A := rd_sw A  4 t 6) ⟨gr, hy.y2, hy.y3, rd_y4_8 hn (rd_y4_cd hy.y4 (Or.inr ⟨k7, k8, k9⟩)) hp, hy.y5, hy.y6, hy.y7, rd_y8_cd hy.y8 (by decide) k9 k8, rd_y9_u hy.y9 rfl, hy.y10⟩)
    · have hk' : A 19 (8 * t + d) = 0 → ¬ rd_lv n (A 9) (A 10) (A 4) t (nI d) := fun a b => hk ⟨a, b⟩
      have hb : A 19 (8 * t + d) ≠ 0 ∨ ¬ rd_lv n (A 9) (A 10) (A 4) t (nI d) := by
        by_cases z : A 19 (8 * t + d) = 0
        · exact Or.inr (hk' z)
        · exact Or.inl z
      have I1 := rd_i_pop I ht hd h8 n6 hb
      have wl1 := rd_wl_pop (n := n) hd h8
      by_cases k2 : A 19 (8 * t + d) = 2
      · -- a handler
        obtain ⟨p, hp20, ep⟩ : ∃ p, p ≤ 20 ∧ A 20 (8 * t + d) = nI p := by
          rcases I.vF t ht d hds with z | ⟨z, _⟩ | ⟨_, z⟩
          · rw [z] at k2; exact absurd k2 (by decide)
          · rw [z] at k2; exact absurd k2 (by decide)
          · exact z
        have J : rd_Inv n 8 D (rd_sw (rd_sw (rd_sw (rd_sw A  18 t (nI d))  12 t 0)  5 t (nI p))  6 t (nI c)) w Q := rd_i_xs (rd_i_pl (p := p) (rd_i_pe (c := 0) I1 ht (by omega) (Or.inl h0)) ht (by omega) (Or.inl h0))
        have W : rd_W (rd_sw (rd_sw (rd_sw (rd_sw A  18 t (nI d))  12 t 0)  5 t (nI p))  6 t (nI c)) t < rd_W A t := by
          show rd_c (A 4 t) (upd (A 12) t 0 t) + 2 * (upd (A 18) t (nI d) t).toNatClampNeg < rd_c (A 4 t) (A 12 t) + 2 * (A 18 t).toNatClampNeg
          rw [rd_us, rd_us, h0, rd_c00, rd_c0 pe0, hd, nI_clamp (by omega), nI_clamp (by omega)]; omega
        have wl : rd_wl n A (rd_sw (rd_sw (rd_sw (rd_sw A  18 t (nI d))  12 t 0)  5 t (nI p))  6 t (nI c)) := by
          intro s hs
          by_cases e : s = t
          · rw [e]; exact Nat.le_of_lt W
          · show rd_c (A 4 s) (upd (A 12) t 0 s) + 2 * (upd (A 18) t (nI d) s).toNatClampNeg ≤ rd_c (A 4 s) (A 12 s) + 2 * (A 18 s).toNatClampNeg
            rw [rd_un e, rd_un e]; exact Nat.le_refl _
        refine ⟨_, w, Q, J, ⟨rd_stx_tr (rd_stx_tr (rd_stx_tr (rd_stx_sw (by simp)) (rd_stx_sw (by simp))) (rd_stx_sw (by simp))) (rd_stx_sw (by simp)), rd_ph_lt wl ht W, n9, fun _ => ⟨rd_us, id⟩⟩, ?_, ?_⟩
        · intro post ra qa ql i f hi hf hx H
          obtain ⟨f', rfl⟩ : ∃ f', f = f' + 1 := ⟨f - 1, by omega⟩
          refine rd_rx_hd hn ht hd h8 post ra qa ql i f' (by omega) I.vN (fun a b => absurd b (hk' a)) (fun _ => ?_)
          exact ⟨i8, i8, nm_r (e' := upd (A 18) t (nI d)) (by rw [ct, hd, nI_pred]) ⟨i64, br_t (by rw [cd]; exact k2) ⟨i8, nm_r (e' := upd (A 12) t 0) (by rw [ct]) ⟨i64, i8, nm_r (e' := upd (A 5) t (nI p)) (by rw [ct, cd, ep]) ⟨i8, nm_r (e' := upd (A 6) t (nI c)) (by rw [ct]) (H _ (rd_RX_mk (A := rd_sw (rd_sw (rd_sw (rd_sw A  18 t (nI d))  12 t 0)  5 t (nI p))  6 t (nI c)) hx))⟩⟩⟩⟩⟩
        · intro post ra qa wq am rz ob fr st bl f hf hy H
          obtain ⟨f', rfl⟩ : ∃ f', f = f' + 1 := ⟨f - 1, by omega⟩
          refine rd_ry_hd I ht h0 hd h8 post f' hy (fun a b => absurd b (hk' a)) (fun _ => ?_)
          have efr : fr (8 * t + d) = nI p := (hy.y5 t ht d hds (by rw [k2]; decide)).trans ep
          have hy1 := rd_YL_pop hy hd h8
          have rz0 : rz t = 0 := by
            have := hy.y4 t ht k7 k8 k9
            rw [if_pos rfl] at this
            exact this
          refine ⟨i8, i8, nm_r (e' := upd (A 18) t (nI d)) (by rw [ct, hd, nI_pred]) (br_t k2 ⟨i8, nm_r (e' := upd (A 5) t (nI p)) (by rw [ct, efr]) ⟨i8, nm_r (e' := upd (A 6) t (nI c)) (by rw [ct]) (H _ (rd_RY_mk (A := rd_sw (rd_sw (rd_sw (rd_sw A  18 t (nI d))  12 t 0)  5 t (nI p))  6 t (nI c)) ⟨hy1.r, hy1.y2, hy1.y3, ?_, hy1.y5, hy1.y6, hy1.y7, hy1.y8, hy1.y9, hy1.y10⟩))⟩⟩)⟩
          intro u hu a b e
          show rz u = if u = 8 then 0 else upd (A 12) t 0 u
          rw [if_neg (by omega)]
          by_cases z : u = t
          · rw [z, rd_us]; exact rz0
          · rw [rd_un z]; exact rd_y4_n hy.y4 hu z a b e
      · by_cases k1 : A 19 (8 * t + d) = 1
        · -- a meeting
          obtain ⟨r, hr, ev, r2⟩ : ∃ r, r < n ∧ A 20 (8 * t + d) = nI r ∧ A 4 r = 2 := by
            rcases I.vF t ht d hds with z | ⟨_, z⟩ | ⟨z, _⟩
            · rw [z] at k1; exact absurd k1 (by decide)
            · exact z
            · exact absurd z k2
          have rt : r ≠ t := fun e => by rw [e, h0] at r2; exact absurd r2 (by decide)
          have cr : (nI r).toNatClampNeg = r := nI_clamp (by omega)
          have ir : vp_in (nI r) 8 := vp_in_nI (by omega) (by omega)
          have q0 : A 4 r ≠ 0 := by rw [r2]; decide
          have q1 : A 4 r ≠ 1 := by rw [r2]; decide
          have q7 : A 4 r ≠ 7 := by rw [r2]; decide
          have q8 : A 4 r ≠ 8 := by rw [r2]; decide
          have q9 : A 4 r ≠ 9 := by rw [r2]; decide
          have nf := rd_nf_pop ht hd h8 I.vU k1 ev
          -- the release, whatever becomes of the caller
          have rel : ∃ B x R, rd_Inv n 8 D B x R ∧ rd_stx A B ∧ rd_wl n A B ∧ (w.head? = some t → x.head? = some t) ∧ (∀ s, s < n → B 4 s ≠ 9) ∧ B 4 t = 0 ∧ B 12 t = nI c ∧ B 18 t = nI d ∧
              (∀ (post : SX → Prop) (u : SX), rd_RX (rd_sw A  18 t (nI d)) w Q u → (∀ u', rd_RX B x R u' → post u') → wpX_failMeeting post u (nI r) (nI c)) ∧
              (∀ (post : SY → Prop) (v : SY), rd_RY t n D (rd_sw A  18 t (nI d)) w Q v → (∀ v', rd_RY t n D B x R v' → post v') → wpY_release post v (nI r) (nI c) (A 5 r)) := by
            by_cases hdm : A 13 r = 0
            · have I2 := rd_i_rp (x := c) I1 hr q0 q8 (rd_vQ_no I.vQ q1) nf hc
              have wl2 : rd_wl n (rd_sw A  18 t (nI d)) (rd_ready (rd_sw (rd_sw A  18 t (nI d))  12 r (nI c)) r) := rd_wl_rp (A := rd_sw A  18 t (nI d)) (Or.inr (Or.inl r2))
              have wlt : w.length < 8 := Nat.lt_of_lt_of_le (rd_wlen' I hr q0) hn
              refine ⟨_, _, Q, I2, rd_stx_tr (rd_stx_sw (by simp)) (rd_stx_tr (rd_stx_sw (by simp)) (rd_stx_of (rd_stw_of rd_sta_ready))), rd_wl_tr wl1 wl2, rd_hd_app, fun s hs z => ?_, (rd_un (fun e => rt e.symm)).trans h0, (rd_un (fun e => rt e.symm)).trans hp, rd_us, ?_, ?_⟩
              · have z : upd (A 4) r 0 s = 9 := z
                by_cases e : s = r
                · rw [e, rd_us] at z; exact absurd z (by decide)
                · rw [rd_un e] at z; exact n9 s hs z
              · rintro post u ⟨ra, qa, ql, rfl, hx⟩ H
                unfold wpX_failMeeting
                refine ⟨ir, br_t (by rw [cr]; exact hdm) ⟨ir, nm_r (e' := upd (A 12) r (nI c)) (by rw [cr]; rfl) ?_⟩⟩
                refine rd_x_makeReady (rd_RX_mk (A := rd_sw (rd_sw A  18 t (nI d))  12 r (nI c)) hx) (by omega) wlt ?_
                rintro u' ⟨ra1, qa1, ql1, rfl, hx1⟩
                exact H _ (rd_RX_mk hx1)
              · rintro post v ⟨ra, qa, wq, am, rz, ob, fr, st, bl, rfl, hy⟩ H
                unfold wpY_release
                refine ⟨ir, br_t (by rw [cr]; exact hdm) ⟨ir, nm_r (e' := upd rz r (nI c)) (by rw [cr]) ⟨ir, nm_r (e' := A 5) (by rw [cr]; exact rd_ue rfl) ?_⟩⟩⟩
                refine rd_y_wake (A := rd_sw (rd_sw A  18 t (nI d))  12 r (nI c)) (rd_RY_mk (ex := t) (D := D) (Q := Q) ⟨hy.r, hy.y2, hy.y3, rd_y4_pe hy.y4 rt, hy.y5, hy.y6, hy.y7, hy.y8, hy.y9, hy.y10⟩) hn hr wlt q7 q8 q9 ?_
                rintro v' ⟨ra1, qa1, wq1, am1, rz1, ob1, fr1, st1, bl1, rfl, hy1⟩
                exact H _ (rd_RY_mk hy1)
            · obtain ⟨B, x, R, J, F, X, Y⟩ := rd_bd (ex := t) (t := r) 14 I1 hr q7 q8 nf n9 (fun _ => ⟨h0, fun e => rt e.symm⟩)
              have kt := F.2.2.1 t ⟨h0, fun e => rt e.symm⟩
              refine ⟨B, x, R, J, rd_stx_tr (rd_stx_sw (by simp)) (rd_stx_of F.1), rd_wl_tr wl1 F.2.1, kt.2.2.2.2, F.2.2.2.1, kt.1.trans h0, kt.2.2.1.trans hp, kt.2.2.2.1.trans rd_us, ?_, ?_⟩
              · rintro post u ⟨ra, qa, ql, rfl, hx⟩ H
                unfold wpX_failMeeting
                refine ⟨ir, br_f (by rw [cr]; exact hdm) ?_⟩
                refine X _ _ (rd_RX_mk (A := rd_sw A  18 t (nI d)) hx) ?_
                rintro u' ⟨ra1, qa1, ql1, rfl, hx1⟩
                exact H _ (rd_RX_mk hx1)
              · rintro post v ⟨ra, qa, wq, am, rz, ob, fr, st, bl, rfl, hy⟩ H
                unfold wpY_release
                refine ⟨ir, br_f (by rw [cr]; exact hdm) ?_⟩
                refine Y _ _ (rd_RY_mk (A := rd_sw A  18 t (nI d)) hy) ?_
                rintro v' ⟨ra1, qa1, wq1, am1, rz1, ob1, fr1, st1, bl1, rfl, hy1⟩
                exact H _ (rd_RY_mk hy1)
          obtain ⟨B, x, R, J, s1, s2, s3, s4, s5, s6, s7, X, Y⟩ := rel
          obtain ⟨B', x', R', J', S', X', Y'⟩ := ih B x R J ht s5 s6 s7 (by omega) s4
          refine ⟨B', x', R', J', rd_RS_tr s1 s2 s3 S', ?_, ?_⟩
          · intro post ra qa ql i f hi hf hx H
            obtain ⟨f', rfl⟩ : ∃ f', f = f' + 1 := ⟨f - 1, by omega⟩
            refine rd_rx_hd hn ht hd h8 post ra qa ql i f' (by omega) I.vN (fun a b => absurd b (hk' a)) (fun _ => ?_)
            refine ⟨i8, i8, nm_r (e' := upd (A 18) t (nI d)) (by rw [ct, hd, nI_pred]) ⟨i64, br_f (by rw [cd]; exact k2) ⟨i64, br_t (by rw [cd]; exact k1) ⟨i64, ?_⟩⟩⟩⟩
            rw [cd, ev]
            refine X _ _ (rd_RX_mk (A := rd_sw A  18 t (nI d)) hx) ?_
            rintro u' ⟨ra1, qa1, ql1, rfl, hx1⟩
            exact nm_r (nI_1 i) (X' post ra1 qa1 ql1 (i + 1) f' (by omega) (by omega) hx1 H)
          · intro post ra qa wq am rz ob fr st bl f hf hy H
            obtain ⟨f', rfl⟩ : ∃ f', f = f' + 1 := ⟨f - 1, by omega⟩
            refine rd_ry_hd I ht h0 hd h8 post f' hy (fun a b => absurd b (hk' a)) (fun _ => ?_)
            have efr : fr (8 * t + d) = nI r := (hy.y5 t ht d hds (by rw [k1]; decide)).trans ev
            rw [efr]
            refine ⟨i8, i8, nm_r (e' := upd (A 18) t (nI d)) (by rw [ct, hd, nI_pred]) (br_f k2 (br_t k1 ⟨ir, ?_⟩))⟩
            rw [cr]
            refine Y _ _ (rd_RY_mk (A := rd_sw A  18 t (nI d)) (rd_YL_pop hy hd h8)) ?_
            rintro v' ⟨ra1, qa1, wq1, am1, rz1, ob1, fr1, st1, bl1, rfl, hy1⟩
            exact Y' post ra1 qa1 wq1 am1 rz1 ob1 fr1 st1 bl1 f' (by omega) hy1 H
        · -- a block that goes
          obtain ⟨B', x', R', J', S', X', Y'⟩ := ih (rd_sw A  18 t (nI d)) w Q I1 ht h0 hp rd_us (by omega) n9
          refine ⟨B', x', R', J', rd_RS_tr (rd_stx_sw (by simp)) wl1 id S', ?_, ?_⟩
          · intro post ra qa ql i f hi hf hx H
            obtain ⟨f', rfl⟩ : ∃ f', f = f' + 1 := ⟨f - 1, by omega⟩
            refine rd_rx_hd hn ht hd h8 post ra qa ql i f' (by omega) I.vN (fun a b => absurd b (hk' a)) (fun _ => ?_)
            exact ⟨i8, i8, nm_r (e' := upd (A 18) t (nI d)) (by rw [ct, hd, nI_pred]) ⟨i64, br_f (by rw [cd]; exact k2) ⟨i64, br_f (by rw [cd]; exact k1) (nm_r (nI_1 i) (X' post ra qa ql (i + 1) f' (by omega) (by omega) hx H))⟩⟩⟩
          · intro post ra qa wq am rz ob fr st bl f hf hy H
            obtain ⟨f', rfl⟩ : ∃ f', f = f' + 1 := ⟨f - 1, by omega⟩
            refine rd_ry_hd I ht h0 hd h8 post f' hy (fun a b => absurd b (hk' a)) (fun _ => ?_)
            exact ⟨i8, i8, nm_r (e' := upd (A 18) t (nI d)) (by rw [ct, hd, nI_pred]) (br_f k2 (br_f k1 (Y' post ra qa wq am rz ob fr st bl f' (by omega) (rd_YL_pop hy hd h8) H)))⟩
/-- raise: the component's, from the exception kept, and the reference's, whatever it kept -/
theorem rd_raise {n D t c : Nat} {A : rd_St} {w : List Nat} {Q : Nat → List Nat} (hc0 : 0 < c) (hc : c ≤ 14) (I : rd_Inv n 8 D A w Q) (ht : t < n) (h0 : A 4 t = 0) (hp : A 12 t = nI c) (n9 : ∀ s, s < n → A 4 s ≠ 9) : ∃ B x R, rd_Inv n 8 D B x R ∧ rd_RS n t A B w x ∧
    (∀ (post : SX → Prop) (u : SX), rd_RX A w Q u → (∀ u', rd_RX B x R u' → post u') → wpX_raise post u (nI t)) ∧
    (∀ (post : SY → Prop) (ra qa wq am rz ob fr st : Nat → Int32) (bl : Int32), (∃ ex, (ex = t ∨ ex = 8) ∧ rd_YL ex n D A w Q ra qa wq am rz ob fr st bl) → (∀ v', rd_RY 8 n D B x R v' → post v') → wpY_raise post (rd_tY A (nI w.length) ra qa wq am rz ob fr st bl) (nI t) (nI c)) := by
  have hn := I.vN.2
  have ct : (nI t).toNatClampNeg = t := nI_clamp (by omega)
  have i8 : vp_in (nI t) 8 := vp_in_nI (by omega) (by omega)
  obtain ⟨d, hd, ed, _⟩ := rd_dpos I ht
  obtain ⟨B, x, R, J, S, X, Y⟩ := rd_rl hc0 hc d A w Q I ht h0 hp ed hd n9
  refine ⟨B, x, R, J, S, ?_, ?_⟩
  · rintro post u ⟨ra, qa, ql, rfl, hx⟩ H
    unfold wpX_raise
    exact ⟨i8, nm_r (e' := nI c) (by rw [ct]; exact hp) ⟨_, X post ra qa ql 0 9 (by omega) (by omega) hx H⟩⟩
  · rintro post ra qa wq am rz ob fr st bl ⟨ex, hex, hy⟩ H
    unfold wpY_raise
    refine ⟨i8, nm_r (e' := upd rz t 0) (by rw [ct]) ⟨_, Y post ra qa wq am (upd rz t 0) ob fr st bl 9 (by omega) ⟨hy.r, hy.y2, hy.y3, ?_, hy.y5, hy.y6, hy.y7, hy.y8, hy.y9, hy.y10⟩ H⟩⟩
    intro u hu a b c'
    by_cases e : u = t
    · rw [e, rd_us, if_pos rfl]
    · rw [rd_un e, if_neg e]
      refine rd_y4_n hy.y4 hu ?_ a b c'
      rcases hex with z | z
      · rw [z]; exact e
      · omega
