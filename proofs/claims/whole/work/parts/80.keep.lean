/-! LAYER 3: reading what stands behind a line keeps the lines ahead of it -/
def gKp (G G' : Mm) : Prop := G' 4 0 = G 4 0 ∧ (∀ c, (c = 5 ∨ c = 6 ∨ c = 7) → G' c = G c) ∧ (∀ l, l ≠ G 4 0 - 1 → G' 8 l = G 8 l ∧ G' 9 l = G 9 l) ∧ (∀ l i, l < G 4 0 - 1 → i < 4 → 0 ≤ G 8 (G 4 0 - 1) → G' 10 (l * 4 + i) = G 10 (l * 4 + i))
theorem gKp_refl {G : Mm} : gKp G G := ⟨rfl, fun _ _ => rfl, fun _ _ => ⟨rfl, rfl⟩, fun _ _ _ _ _ => rfl⟩
theorem gKp_ab {G : Mm} {s : Int} : gKp G (gAB G s) := by
  refine ⟨?_, fun c hc => ?_, fun l hl => ?_, fun l i hl hi h8 => ?_⟩
  · unfold gAB; rw [zUp_away (by decide), zUp_away (by decide)]
  · unfold gAB; rw [zUp_away (by omega), zUp_away (by omega)]
  · unfold gAB; rw [zUp_there hl, zUp_away (by decide), zUp_away (by decide), zUp_away (by decide)]; exact ⟨rfl, rfl⟩
  · unfold gAB; rw [zUp_away (by decide), zUp_there (by omega)]
