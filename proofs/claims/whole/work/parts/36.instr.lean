/-! an instruction, whichever it is -/
theorem rd_instr {n D t p b' : Nat} {A : rd_St} {w : List Nat} {Q : Nat → List Nat} (C : rd_C n D t p b' A w Q) (hp20 : p < 20) : rd_O1 n D t p (A 0 (20 * b' + p)) (A 1 (20 * b' + p)) (A 2 (20 * b' + p)) (A 1 (20 * b' + p)) (A 2 (20 * b' + p)) A w Q ∨ rd_O2 n D t p (A 0 (20 * b' + p)) (A 1 (20 * b' + p)) (A 2 (20 * b' + p)) (A 1 (20 * b' + p)) (A 2 (20 * b' + p)) A w Q := by
  have hbo := C.2.2.2.2.2.2.2.2.1
  obtain ⟨⟨o, ho, eo⟩, f1, f2, f3, f4, f5, f6, f7, f8⟩ := C.1.vG.2 (20 * b' + p) (by omega)
  rw [eo] at f1 f2 f3 f4 f5 f6 f7 f8 ⊢
  have cases : o = 0 ∨ o = 1 ∨ o = 2 ∨ o = 3 ∨ o = 4 ∨ o = 5 ∨ o = 6 ∨ o = 7 ∨ o = 8 ∨ o = 9 ∨ o = 10 ∨ o = 11 ∨ o = 12 ∨ o = 13 ∨ o = 14 ∨ o = 15 ∨ o = 16 ∨ o = 17 ∨ o = 18 ∨ o = 19 ∨ o = 20 ∨ o = 21 ∨ o = 22 ∨ o = 23 ∨ o = 24 ∨ o = 25 := by omega
  rcases cases with rfl | rfl | rfl | rfl | rfl | rfl | rfl | rfl | rfl | rfl | rfl | rfl | rfl | rfl | rfl | rfl | rfl | rfl | rfl | rfl | rfl | rfl | rfl | rfl | rfl | rfl
  · exact Or.inl (rd_op0 C hp20)
  · exact Or.inl (rd_op1 C hp20)
  · exact Or.inl (rd_op2 C hp20)
  · exact Or.inl (rd_op3 C hp20)
  · obtain ⟨j, h1, h2⟩ := f1 (by decide); exact Or.inl (rd_op4 C h1 h2)
  · obtain ⟨j, h1, h2⟩ := f1 (by decide); exact Or.inl (rd_op5 C hp20 h1 h2)
  · obtain ⟨j, h1, h2⟩ := f2 (by decide); exact rd_op6 C hp20 h1 h2
  · exact rd_op7 C hp20
  · exact rd_op8 C hp20
  · obtain ⟨⟨j, h1, h2⟩, i, h3, h4⟩ := f3 (by decide); exact rd_op9 C hp20 h1 h3 h2 h4
  · obtain ⟨j, h1, h2⟩ := f5 (by decide); exact Or.inl (rd_op10 C hp20 h1 h2)
  · obtain ⟨⟨j, h1, h2⟩, i, h3, h4⟩ := f3 (by decide); exact rd_op11 C hp20 h1 h3 h2 h4
  · obtain ⟨j, h1, h2⟩ := f5 (by decide); exact Or.inl (rd_op12 C hp20 h1 h2)
  · obtain ⟨j, h1, h2⟩ := f6 (by decide); exact rd_op13 C hp20 h1 h2
  · exact rd_op14 C hp20
  · exact rd_op15 C hp20
  · exact Or.inl (rd_op16 C hp20)
  · exact Or.inl (rd_op17 C hp20)
  · exact Or.inl (rd_op18 C hp20)
  · exact Or.inl (rd_op19 C hp20)
  · exact Or.inl (rd_op20 C hp20)
  · obtain ⟨j, h1, h2, h3⟩ := f8 (by decide); exact Or.inr (rd_op21 C h1 h2 h3)
  · obtain ⟨j, h1, h2⟩ := f1 (by decide); exact rd_op22 C hp20 h1 h2
  · exact rd_op23 C hp20
  · obtain ⟨j, h1, h2⟩ := f4 (by decide); exact Or.inl (rd_op24 C hp20 h1 h2)
  · exact rd_op25 C _ _ _ _
