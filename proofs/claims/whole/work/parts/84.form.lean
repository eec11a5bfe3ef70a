/-! LAYER 3: a line of the reference, from its sort on: a form -/
theorem m_shut {d : Nat} {T : Int → Int} {n p x1 x2 x3 x5 : Int} {w : Bool} {M : Mm} {K : Kt} (hT : tpOk T n) (h : mTk T n p w M) (hb : M 154 6 = 0) (hc : ¬ (tKi T n p w = 3 ∧ tVa T n p = 59)) (hK : ∀ M', mFl T n M' 1 (tQ T n p) → nH M M' → K 0 M') : zWp (zSp (d + 4)) 166 K 188 [some (.inr (.inr 154)), some (.inl x1), some (.inl x2), some (.inr (.inl x3)), none, some (.inl x5)] [] M := by
  rw [fe_166_188]
  refine m_needsSign (d := d) hT h hb (by unfold sgn; decide) (fun M1 c1 c2 => absurd ⟨c1, c2⟩ hc) ?_
  intro M1 c f1 f2
  refine hK _ ?_ ?_
  · have := mFl_i (k := 1) (q := tQ T n p) f1
    exact ⟨by rw [zUp_away (by decide)]; exact this.1, by rw [zUp_away (by decide)]; exact this.2.1, p, w, mTk_fr (mTk_bad f1) (by rw [zUp_away (by decide)]) (by rw [zUp_away (by decide)]) (by rw [zUp_away (by decide)]) (by rw [zUp_away (by decide)])⟩
  · exact nH_trans (nH_of (nG_of f2)) (nH_trans nH_bad ⟨fun c _ b _ _ => zUp_away b, fun j _ => by rw [zUp_away (by decide)]⟩)
/-- the form's line is whole -/
theorem mR_form {G G2 M M1 M2 : Mm} {nm s : Int} (hg : gLn G) (hg2 : gLn G2) (h : mR G M) (hG : G 4 0 < 24) (hk : gKp (gAL G nm s 1) G2) (hs : mRs G2 M1) (hp : mPt G2 M1 (G 4 0)) (h8 : M1 159 (8 * G 4 0 + 2) = G2 8 (G 4 0)) (h9 : M1 159 (8 * G 4 0 + 3) = G2 9 (G 4 0)) (ho : ∀ j, j ≠ 193 → (j < 8 * G 4 0 + 2 ∨ 8 * G 4 0 + 8 ≤ j) → M1 159 j = (zUp (zUp M 159 (8 * G 4 0 + 0) s) 159 (8 * G 4 0 + 1) 1) 159 j) (h160 : M1 160 = (zUp M 160 (G 4 0) nm) 160)
    (f1 : M2 159 = (zUp M1 159 192 (M1 159 192 + 1)) 159) (f2 : M2 160 = M1 160) (f3 : M2 161 = M1 161) : mR G2 M2 := by
  have c0 := hg.1
  obtain ⟨a1, a2, a3, a4, a5, a6⟩ := gAL_c (G := G) (nm := nm) (s := s) (fm := 1)
  have e40 : (gAL G nm s 1) 4 0 = G 4 0 + 1 := zUp_here
  have e8 : (gAL G nm s 1) 8 (G 4 0) = 0 := by unfold gAL; rw [zUp_away (by decide), zUp_away (by decide), zUp_here]
  obtain ⟨k1, k2, k3, k4⟩ := hk
  rw [e40] at k1 k3 k4
  rw [show G 4 0 + 1 - 1 = G 4 0 by omega] at k3 k4
  have k5 : G2 5 = (gAL G nm s 1) 5 := k2 5 (.inl rfl)
  have k6 : G2 6 = (gAL G nm s 1) 6 := k2 6 (.inr (.inl rfl))
  have k7 : G2 7 = (gAL G nm s 1) 7 := k2 7 (.inr (.inr rfl))
  have h192 : M1 159 192 = G 4 0 := by
    rw [ho 192 (by decide) (.inr (by omega)), zUp_there (by omega), zUp_there (by omega)]
    exact h.2.1
  have o1 : ∀ j, j ≠ 193 → j ≠ 192 → (j < 8 * G 4 0 + 2 ∨ 8 * G 4 0 + 8 ≤ j) → M2 159 j = (zUp (zUp M 159 (8 * G 4 0 + 0) s) 159 (8 * G 4 0 + 1) 1) 159 j := fun j j1 j2 j3 => by rw [f1, zUp_there j2, ho j j1 j3]
  refine mR_add hg h k1 (fun l hl => ?_) (fun l i hl hi => ?_) ⟨by rw [f1, zUp_there (by decide)]; exact hs.1, fun t t0 t1 => by rw [f3]; exact hs.2 t t0 t1⟩ (by rw [f1, zUp_here, h192]) (fun l hl => by rw [f2, h160, zUp_there (by omega)]) (fun j j1 j2 => by rw [o1 j (by omega) (by omega) (by omega), zUp_there (by omega), zUp_there (by omega)]) ⟨by rw [f2, h160, zUp_here, k5, a4], by rw [o1 _ (by omega) (by omega) (by omega), zUp_there (by omega), zUp_here, k7, a6], by rw [o1 _ (by omega) (by omega) (by omega), zUp_here, k6, a5], by rw [f1, zUp_there (by omega)]; exact h8, by rw [f1, zUp_there (by omega)]; exact h9, ?_⟩
  · obtain ⟨b1, b2, b3, b4, b5⟩ := a1 l hl
    have kk := k3 l (by omega)
    exact ⟨by rw [k5, b1], by rw [k6, b2], by rw [k7, b3], by rw [kk.1, b4], by rw [kk.2, b5]⟩
  · rw [k4 l i hl hi (by rw [e8]; decide), a2]
  · intro i i0 i1
    have u := (hg2.2.1 (G 4 0) (by omega) (by omega)).2.2.2.1
    rw [f1, zUp_there (by omega)]
    exact hp i i0 i1
