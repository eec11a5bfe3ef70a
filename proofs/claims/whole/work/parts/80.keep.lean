/-! LAYER 3: reading what stands behind a line keeps the lines ahead of it -/
def gKp (G G' : Mm) : Prop := G' 4 0 = G 4 0 ∧ (∀ c, (c = 5 ∨ c = 6 ∨ c = 7) → G' c = G c) ∧ (∀ l, l ≠ G 4 0 - 1 → G' 8 l = G 8 l ∧ G' 9 l = G 9 l) ∧ (∀ l i, l < G 4 0 - 1 → i < 4 → 0 ≤ G 8 (G 4 0 - 1) → G' 10 (l * 4 + i) = G 10 (l * 4 + i))
theorem gKp_refl {G : Mm} : gKp G G := ⟨rfl, fun _ _ => rfl, fun _ _ => ⟨rfl, rfl⟩, fun _ _ _ _ _ => rfl⟩
theorem gKp_ab {G : Mm} {s : Int} : gKp G (gAB G s) := by
  refine ⟨?_, fun c hc => ?_, fun l hl => ?_, fun l i hl hi h8 => ?_⟩
  · unfold gAB; rw [zUp_away (by decide), zUp_away (by decide)]
  · unfold gAB; rw [zUp_away (by omega), zUp_away (by omega)]
  · unfold gAB; rw [zUp_there hl, zUp_away (by decide), zUp_away (by decide), zUp_away (by decide)]; exact ⟨rfl, rfl⟩
  · unfold gAB; rw [zUp_away (by decide), zUp_there (by omega)]
theorem gKp_sg {T : Int → Int} {n p : Int} {w : Bool} {G : Mm} (hg : gLn G) (hp : p ≤ n) (h : isNm T n p w) (h0 : 0 ≤ gSr T n p w G) : gKp G (gSg T n p G) := by
  obtain ⟨s1, s2, s3, s4⟩ := gSg_k hg hp h h0
  exact ⟨s2, fun c hc => s4 c (by omega) (by omega), fun l _ => ⟨by rw [s4 8 (by decide) (by decide)], by rw [s4 9 (by decide) (by decide)]⟩, fun l i _ _ _ => by rw [s4 10 (by decide) (by decide)]⟩
theorem gKp_trans {G G1 G2 : Mm} (h8 : 0 ≤ G1 8 (G 4 0 - 1)) (h : gKp G G1) (h' : gKp G1 G2) : gKp G G2 := by
  obtain ⟨a1, a2, a3, a4⟩ := h
  obtain ⟨b1, b2, b3, b4⟩ := h'
  rw [a1] at b1 b3 b4
  refine ⟨b1, fun c hc => by rw [b2 c hc, a2 c hc], fun l hl => ?_, fun l i hl hi q => ?_⟩
  · have x := b3 l hl
    have y := a3 l hl
    exact ⟨by rw [x.1, y.1], by rw [x.2, y.2]⟩
  · rw [b4 l i hl hi h8, a4 l i hl hi q]
