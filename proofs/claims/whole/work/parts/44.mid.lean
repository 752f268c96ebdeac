/-! the main loop: in the midst of a turn, and at its head -/
theorem rd_mu_dn {most n m D : Nat} {A B : rd_St} {e : Nat} {x : List Nat} {R : Nat → List Nat} (J : rd_Inv m e (D + 1) B x R) (hD : D < most) : rd_mu most m (D + 1) B < rd_mu most n D A := by
  have h1 := rd_ph_bd J
  unfold rd_mu
  have h2 : (most - D) * 161 = (most - (D + 1)) * 161 + 161 := by
    have : most - D = (most - (D + 1)) + 1 := by omega
    rw [this, Nat.add_mul]
  omega
theorem rd_mid {most mu n D t k : Nat} {A0 A : rd_St} {w : List Nat} {Q : Nat → List Nat} (hmost : most ≤ 500) (IM : rd_IM most mu) (ID : rd_ID most mu) (hmu : rd_mu most n D A ≤ mu) (hD : D ≤ most) (I : rd_Inv n 8 D A w Q) (n9 : ∀ s, s < n → A 4 s ≠ 9) (hit : A 31 0 ≠ 0) (hdt : A 30 0 = nI k) (hk : k < 3) (ht : t < n) (h0 : A 4 t = 0) (hp : A 12 t = 0) (hw : w.head? = some t) (hb : rd_bt A0 A) : rd_MD most n D t k A0 A w Q := by
  have hn := I.vN.2
  have ct : (nI t).toNatClampNeg = t := nI_clamp (by omega)
  have i8 : vp_in (nI t) 8 := vp_in_nI (by omega) (by omega)
  by_cases full : D = most
  · -- no instruction is left
    refine ⟨2, n, D, A, w, Q, I, n9, ?_, ?_⟩
    · intro post ra qa ql i f hi hf hx H
      obtain ⟨f', rfl⟩ : ∃ f', f = f' + 1 := ⟨f - 1, by omega⟩
      exact rd_x_pass hb I ht h0 hw (by omega) hx (fun _ => ⟨fun y => absurd y (by rw [I.vD.1, full]; exact nI_nlt (Nat.le_refl _) (by omega)), fun _ => H _ (rd_RX_mk hx)⟩) (fun y => absurd hp y)
    · intro post ra qa wq am rz ob fr st bl f hf hy H
      have e0 : st (nI t).toNatClampNeg = 0 := by rw [ct, hy.y9 t, h0]; rfl
      have e4 : 4 - k = (3 - k) + 1 := by omega
      rw [e4]
      exact br_f (nI_ge (b := 3) hk (by omega)) ⟨i8, br_t e0 (br_t (by rw [I.vD.1, full]) (br_t rfl (H _ (rd_RY_mk hy))))⟩
  · have hDm : D < most := by omega
    obtain ⟨b, p, L, hat⟩ := rd_at_of I ht
    obtain ⟨g1, g2, g3, g4, g5, g6⟩ := id hat
    obtain ⟨v1, v2, v3, v4⟩ := I.vD
    have C : rd_C n D t p b (rd_sw (rd_sw A  28 0 (nI (D + 1)))  30 0 (nI (k + 1))) w Q := ⟨rd_i_dn I (by omega), ht, h0, hp, n9, g3, g4, g1, g2, by omega, v3, v4⟩
    -- the instruction's outcome, whichever it is
    have out : ∃ (a c a' c' : Int32) , (p < L → a' = A 1 (20 * b + p) ∧ c' = A 2 (20 * b + p)) → True := ⟨0, 0, 0, 0, fun _ => trivial⟩
    sorry
