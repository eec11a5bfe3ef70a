/-! LAYER 3: reading what stands behind a line keeps the lines ahead of it -/
def gKp (G G' : Mm) : Prop := G' 4 0 = G 4 0 ∧ (∀ c, (c = 5 ∨ c = 6 ∨ c = 7) → G' c = G c) ∧ (∀ l, l ≠ G 4 0 - 1 → G' 8 l = G 8 l ∧ G' 9 l = G 9 l) ∧ (∀ l i, l < G 4 0 - 1 → i < 4 → 0 ≤ G 8 (G 4 0 - 1) → G' 10 (l * 4 + i) = G 10 (l * 4 + i))
theorem gKp_refl {G : Mm} : gKp G G := ⟨rfl, fun _ _ => rfl, fun _ _ => ⟨rfl, rfl⟩, fun _ _ _ _ _ => rfl⟩
theorem gKp_ab {G : Mm} {s : Int} : gKp G (gAB G s) := by
  refine ⟨?_, fun c hc => ?_, fun l hl => ?_, fun l i hl hi h8 => ?_⟩
  · unfold gAB; rw [zUp_away (by decide), zUp_away (by decide)]
  · unfold gAB; rw [zUp_away (by omega), zUp_away (by omega)]
  · unfold gAB; rw [zUp_there hl, zUp_away (by decide), zUp_away (by decide), zUp_away (by decide)]; exact ⟨rfl, rfl⟩
  · unfold gAB; rw [zUp_away (by decide), zUp_there (by omega)]
theorem gKp_sg {T : Int → Int} {n p : Int} {w : Bool} {G : Mm} (hg : gLn G) (hp : p ≤ n) (h : isNm T n p w) (h0 : 0 ≤ gSr T n p w G) : gKp G (gSg T n p G) := by
  obtain ⟨s1, s2, s3, s4⟩ := gSg_k hg hp h h0
  exact ⟨s2, fun c hc => s4 c (by omega) (by omega), fun l _ => ⟨by rw [s4 8 (by decide) (by decide)], by rw [s4 9 (by decide) (by decide)]⟩, fun l i _ _ _ => by rw [s4 10 (by decide) (by decide)]⟩
theorem gKp_trans {G G1 G2 : Mm} (h8 : 0 ≤ G1 8 (G 4 0 - 1)) (h : gKp G G1) (h' : gKp G1 G2) : gKp G G2 := by
  obtain ⟨a1, a2, a3, a4⟩ := h
  obtain ⟨b1, b2, b3, b4⟩ := h'
  rw [a1] at b1 b3 b4
  refine ⟨b1, fun c hc => by rw [b2 c hc, a2 c hc], fun l hl => ?_, fun l i hl hi q => ?_⟩
  · have x := b3 l hl
    have y := a3 l hl
    exact ⟨by rw [x.1, y.1], by rw [x.2, y.2]⟩
  · rw [b4 l i hl hi h8, a4 l i hl hi q]
theorem gBh_keep {T : Int → Int} {n : Int} : ∀ (f : Nat) (i : Int) (G : Mm) (p : Int) (w : Bool), i + f = 5 → 0 ≤ i → 1 ≤ f → gLn G → 1 ≤ G 4 0 → G 8 (G 4 0 - 1) = i → p ≤ n → (gBh T n f i G p w).1 = 0 → gLn (gBh T n f i G p w).2.2.1 ∧ gKp G (gBh T n f i G p w).2.2.1
  | 0, i, G, p, w, hf, hi, h1, hg, hl, h8, hp, h => absurd h1 (by decide)
  | f + 1, i, G, p, w, hf, hi, h1, hg, hl, h8, hp, h => by
    unfold gBh at h ⊢
    by_cases c1 : tKi T n p w = 3 ∧ tVa T n p = 59
    · rw [if_pos c1]
      exact ⟨hg, gKp_refl⟩
    · rw [if_neg c1] at h ⊢
      by_cases c2 : i = 4 ∧ isNm T n p w
      · rw [if_pos c2] at h
        exact absurd h (show ¬ ((4 : Int) = 0) by decide)
      · rw [if_neg c2] at h ⊢
        by_cases c3 : gSr T n p w G < 0
        · rw [if_pos c3] at h
          have h : -(gSr T n p w G) = 0 := h
          omega
        · rw [if_neg c3] at h ⊢
          have nm : isNm T n p w := by
            by_cases q : isNm T n p w
            · exact q
            · exfalso
              unfold gSr at c3
              rw [if_neg q] at c3
              omega
          have i3 : i ≤ 3 := by
            by_cases q : i = 4
            · exact absurd ⟨q, nm⟩ c2
            · omega
          have g0 : 0 ≤ gSr T n p w G := by omega
          obtain ⟨s1, s2, s3, s4⟩ := gSg_k hg hp nm g0
          have e8 : (gSg T n p G) 8 = G 8 := s4 8 (by decide) (by decide)
          have ab := gAB_k (s := gSr T n p w G) s1 (by rw [s2]; exact hl) ⟨g0, s3⟩ (by rw [e8, s2, h8]; exact i3)
          have k1 : gKp G (gAB (gSg T n p G) (gSr T n p w G)) := gKp_trans (by rw [e8, h8]; exact hi) (gKp_sg hg hp nm g0) gKp_ab
          have e40 : (gAB (gSg T n p G) (gSr T n p w G)) 4 0 = G 4 0 := k1.1
          have e8g : (gAB (gSg T n p G) (gSr T n p w G)) 8 (G 4 0 - 1) = i + 1 := by
            have := ab.2.2.1
            rw [s2, e8, h8] at this
            exact this
          by_cases c4 : tKi T n (tEn T n p) true = 3 ∧ tVa T n (tEn T n p) = 42
          · rw [if_pos c4]
            have st := gSt_k ab.1 (by rw [e40]; exact hl) (by rw [e40, e8g]; omega)
            rw [e40] at st
            refine ⟨st, gKp_trans (by rw [e8g]; omega) k1 ⟨rfl, fun c hc => zUp_away (by omega), fun l hl => ⟨rfl, ?_⟩, fun l i _ _ _ => rfl⟩⟩
            rw [e40] at hl
            show (zUp (gAB (gSg T n p G) (gSr T n p w G)) 9 (G 4 0 - 1) 1) 9 l = _
            rw [zUp_there hl]
          · rw [if_neg c4] at h ⊢
            have ih := gBh_keep (T := T) (n := n) f (i + 1) _ (tEn T n p) true (by omega) (by omega) (by omega) ab.1 (by rw [e40]; exact hl) (by rw [e40]; exact e8g) (tEn_s hp).2.1 h
            exact ⟨ih.1, gKp_trans (by rw [e8g]; omega) k1 ih.2⟩
