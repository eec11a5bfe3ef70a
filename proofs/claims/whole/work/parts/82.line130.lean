/-! LAYER 3: a line of the reference, from its sort on -/
theorem gAL_c {G : Mm} {nm s fm : Int} : (∀ l, l < G 4 0 → (gAL G nm s fm) 5 l = G 5 l ∧ (gAL G nm s fm) 6 l = G 6 l ∧ (gAL G nm s fm) 7 l = G 7 l ∧ (gAL G nm s fm) 8 l = G 8 l ∧ (gAL G nm s fm) 9 l = G 9 l) ∧ (gAL G nm s fm) 10 = G 10 ∧ (gAL G nm s fm) 11 = G 11 ∧ (gAL G nm s fm) 5 (G 4 0) = nm ∧ (gAL G nm s fm) 6 (G 4 0) = fm ∧ (gAL G nm s fm) 7 (G 4 0) = s := by
  refine ⟨fun l hl => ?_, ?_, ?_, ?_, ?_, ?_⟩
  · unfold gAL
    refine ⟨?_, ?_, ?_, ?_, ?_⟩
    · rw [zUp_away (by decide), zUp_away (by decide), zUp_away (by decide), zUp_away (by decide), zUp_away (by decide), zUp_there (by omega)]
    · rw [zUp_away (by decide), zUp_away (by decide), zUp_away (by decide), zUp_there (by omega), zUp_away (by decide), zUp_away (by decide)]
    · rw [zUp_away (by decide), zUp_away (by decide), zUp_away (by decide), zUp_away (by decide), zUp_there (by omega), zUp_away (by decide)]
    · rw [zUp_away (by decide), zUp_away (by decide), zUp_there (by omega), zUp_away (by decide), zUp_away (by decide), zUp_away (by decide)]
    · rw [zUp_away (by decide), zUp_there (by omega), zUp_away (by decide), zUp_away (by decide), zUp_away (by decide), zUp_away (by decide)]
  · unfold gAL; rw [zUp_away (by decide), zUp_away (by decide), zUp_away (by decide), zUp_away (by decide), zUp_away (by decide), zUp_away (by decide)]
  · unfold gAL; rw [zUp_away (by decide), zUp_away (by decide), zUp_away (by decide), zUp_away (by decide), zUp_away (by decide), zUp_away (by decide)]
  · unfold gAL; rw [zUp_away (by decide), zUp_away (by decide), zUp_away (by decide), zUp_away (by decide), zUp_away (by decide), zUp_here]
  · unfold gAL; rw [zUp_away (by decide), zUp_away (by decide), zUp_away (by decide), zUp_here]
  · unfold gAL; rw [zUp_away (by decide), zUp_away (by decide), zUp_away (by decide), zUp_away (by decide), zUp_here]
