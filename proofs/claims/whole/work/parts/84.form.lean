/-! LAYER 3: a line of the reference, from its sort on: a form -/
theorem m_shut {d : Nat} {T : Int → Int} {n p x1 x2 x3 x5 : Int} {w : Bool} {M : Mm} {K : Kt} (hT : tpOk T n) (h : mTk T n p w M) (hb : M 154 6 = 0) (hc : ¬ (tKi T n p w = 3 ∧ tVa T n p = 59)) (hK : ∀ M', mFl T n M' 1 (tQ T n p) → nH M M' → K 0 M') : zWp (zSp (d + 4)) 166 K 188 [some (.inr (.inr 154)), some (.inl x1), some (.inl x2), some (.inr (.inl x3)), none, some (.inl x5)] [] M := by
  rw [fe_166_188]
  refine m_needsSign (d := d) hT h hb (by unfold sgn; decide) (fun M1 c1 c2 => absurd ⟨c1, c2⟩ hc) ?_
  intro M1 c f1 f2
  refine hK _ ?_ ?_
  · have := mFl_i (k := 1) (q := tQ T n p) f1
    exact ⟨by rw [zUp_away (by decide)]; exact this.1, by rw [zUp_away (by decide)]; exact this.2.1, p, w, mTk_fr (mTk_bad f1) (by rw [zUp_away (by decide)]) (by rw [zUp_away (by decide)]) (by rw [zUp_away (by decide)]) (by rw [zUp_away (by decide)])⟩
  · exact nH_trans (nH_of (nG_of f2)) (nH_trans nH_bad ⟨fun c _ b _ _ => zUp_away b, fun j _ => by rw [zUp_away (by decide)]⟩)
