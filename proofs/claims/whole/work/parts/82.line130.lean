/-! LAYER 3: a line of the reference, from its sort on -/
theorem gAL_c {G : Mm} {nm s fm : Int} : (∀ l, l < G 4 0 → (gAL G nm s fm) 5 l = G 5 l ∧ (gAL G nm s fm) 6 l = G 6 l ∧ (gAL G nm s fm) 7 l = G 7 l ∧ (gAL G nm s fm) 8 l = G 8 l ∧ (gAL G nm s fm) 9 l = G 9 l) ∧ (gAL G nm s fm) 10 = G 10 ∧ (gAL G nm s fm) 11 = G 11 ∧ (gAL G nm s fm) 5 (G 4 0) = nm ∧ (gAL G nm s fm) 6 (G 4 0) = fm ∧ (gAL G nm s fm) 7 (G 4 0) = s := by
  refine ⟨fun l hl => ?_, ?_, ?_, ?_, ?_, ?_⟩
  · unfold gAL
    refine ⟨?_, ?_, ?_, ?_, ?_⟩
    · rw [zUp_away (by decide), zUp_away (by decide), zUp_away (by decide), zUp_away (by decide), zUp_away (by decide), zUp_there (by omega)]
    · rw [zUp_away (by decide), zUp_away (by decide), zUp_away (by decide), zUp_there (by omega), zUp_away (by decide), zUp_away (by decide)]
    · rw [zUp_away (by decide), zUp_away (by decide), zUp_away (by decide), zUp_away (by decide), zUp_there (by omega), zUp_away (by decide)]
    · rw [zUp_away (by decide), zUp_away (by decide), zUp_there (by omega), zUp_away (by decide), zUp_away (by decide), zUp_away (by decide)]
    · rw [zUp_away (by decide), zUp_there (by omega), zUp_away (by decide), zUp_away (by decide), zUp_away (by decide), zUp_away (by decide)]
  · unfold gAL; rw [zUp_away (by decide), zUp_away (by decide), zUp_away (by decide), zUp_away (by decide), zUp_away (by decide), zUp_away (by decide)]
  · unfold gAL; rw [zUp_away (by decide), zUp_away (by decide), zUp_away (by decide), zUp_away (by decide), zUp_away (by decide), zUp_away (by decide)]
  · unfold gAL; rw [zUp_away (by decide), zUp_away (by decide), zUp_away (by decide), zUp_away (by decide), zUp_away (by decide), zUp_here]
  · unfold gAL; rw [zUp_away (by decide), zUp_away (by decide), zUp_away (by decide), zUp_here]
  · unfold gAL; rw [zUp_away (by decide), zUp_away (by decide), zUp_away (by decide), zUp_away (by decide), zUp_here]
/-- the leaf's line is whole -/
theorem mR_leaf {G M M' : Mm} {nm s : Int} (hg : gLn G) (h : mR G M) (h159 : ∀ j, j ≠ 192 → M' 159 j = (zUp (zUp M 159 (8 * G 4 0 + 0) s) 159 (8 * G 4 0 + 1) 0) 159 j) (h192 : M' 159 192 = G 4 0 + 1) (h160 : M' 160 = (zUp M 160 (G 4 0) nm) 160) (h161 : M' 161 = M 161) (hG : G 4 0 < 24) : mR (gAL G nm s 0) M' := by
  have c0 := hg.1
  obtain ⟨a1, a2, a3, a4, a5, a6⟩ := gAL_c (G := G) (nm := nm) (s := s) (fm := 0)
  have e40 : (gAL G nm s 0) 4 0 = G 4 0 + 1 := zUp_here
  have e41 : (gAL G nm s 0) 4 1 = G 4 1 := by unfold gAL; rw [zUp_there (by decide), zUp_away (by decide), zUp_away (by decide), zUp_away (by decide), zUp_away (by decide), zUp_away (by decide)]
  have e8 : (gAL G nm s 0) 8 (G 4 0) = 0 := by unfold gAL; rw [zUp_away (by decide), zUp_away (by decide), zUp_here]
  have e9 : (gAL G nm s 0) 9 (G 4 0) = 0 := by unfold gAL; rw [zUp_away (by decide), zUp_here]
  have z := h.2.2.2 (G 4 0) (Int.le_refl _) hG
  refine mR_add hg h e40 a1 (fun l i _ _ => by rw [a2]) ⟨by rw [e41, h159 193 (by decide), zUp_there (by omega), zUp_there (by omega)]; exact h.1.1, fun t t0 t1 => ?_⟩ h192 (fun l hl => by rw [h160, zUp_there (by omega)]) (fun j j1 j2 => by rw [h159 j (by omega), zUp_there (by omega), zUp_there (by omega)]) ⟨by rw [h160, zUp_here, a4], by rw [h159 _ (by omega), zUp_there (by omega), zUp_here, a6], by rw [h159 _ (by omega), zUp_here, a5], by rw [h159 _ (by omega), zUp_there (by omega), zUp_there (by omega), e8]; exact z.1, by rw [h159 _ (by omega), zUp_there (by omega), zUp_there (by omega), e9]; exact z.2, fun i i0 i1 => by rw [e8] at i1; omega⟩
  rw [e41] at t1
  rw [h161, a3]
  exact h.1.2 t t0 t1
