/-! LAYER 3: one line more in the reference -/
theorem mR_add {G G' M M' : Mm} (hg : gLn G) (h : mR G M) (h40 : G' 4 0 = G 4 0 + 1) (hc : ∀ l, l < G 4 0 → G' 5 l = G 5 l ∧ G' 6 l = G 6 l ∧ G' 7 l = G 7 l ∧ G' 8 l = G 8 l ∧ G' 9 l = G 9 l) (h10 : ∀ l i, l < G 4 0 → i < 4 → G' 10 (l * 4 + i) = G 10 (l * 4 + i))
    (hs : mRs G' M') (h192 : M' 159 192 = G 4 0 + 1) (h160 : ∀ l, l < G 4 0 → M' 160 l = M 160 l) (h159 : ∀ j, j < 192 → (j < 8 * G 4 0 ∨ 8 * G 4 0 + 8 ≤ j) → M' 159 j = M 159 j)
    (hl : M' 160 (G 4 0) = G' 5 (G 4 0) ∧ M' 159 (8 * G 4 0 + 0) = G' 7 (G 4 0) ∧ M' 159 (8 * G 4 0 + 1) = G' 6 (G 4 0) ∧ M' 159 (8 * G 4 0 + 2) = G' 8 (G 4 0) ∧ M' 159 (8 * G 4 0 + 3) = G' 9 (G 4 0) ∧ mPt G' M' (G 4 0)) : mR G' M' := by
  have c0 := hg.1
  obtain ⟨r1, r2, r3, r4⟩ := h
  refine ⟨hs, by rw [h192, h40], fun l l0 l1 => ?_, fun l l0 l1 => ?_⟩
  · rw [h40] at l1
    by_cases e : l = G 4 0
    · rw [e]; exact hl
    · have lt : l < G 4 0 := by omega
      obtain ⟨a1, a2, a3, a4, a5, a6⟩ := r3 l l0 lt
      obtain ⟨b1, b2, b3, b4, b5⟩ := hc l lt
      have b8 := (hg.2.1 l l0 lt).2.2.2.1
      refine ⟨by rw [h160 l lt, b1]; exact a1, by rw [h159 _ (by omega) (by omega), b3]; exact a2, by rw [h159 _ (by omega) (by omega), b2]; exact a3, by rw [h159 _ (by omega) (by omega), b4]; exact a4, by rw [h159 _ (by omega) (by omega), b5]; exact a5, fun i i0 i1 => ?_⟩
      rw [b4] at i1
      rw [h159 _ (by omega) (by omega), h10 l i lt (by omega)]
      exact a6 i i0 i1
  · rw [h40] at l0
    have := r4 l (by omega) l1
    rw [h159 _ (by omega) (by omega), h159 _ (by omega) (by omega)]
    exact this
