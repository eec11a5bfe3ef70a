/-! LAYER 3: a line of the reference, from its sort on: a leaf -/
theorem m_leaf {d : Nat} {T : Int → Int} {n p nm s x3 x5 : Int} {w : Bool} {M G : Mm} {K : Kt} (hT : tpOk T n) (hg : gLn G) (hG : G 4 0 < 24) (hr : mR G M) (h : mTk T n p w M) (hb : M 154 6 = 0) (hP : mPo T n K M (gCl T n (gAL G nm s 0) p w)) : zWp (zSp (d + 4)) 166 K 188 [some (.inr (.inr 154)), some (.inl 0), some (.inl (G 4 0)), some (.inr (.inl x3)), none, some (.inl x5)] [] (zUp (zUp (zUp M 160 (G 4 0) nm) 159 (8 * G 4 0 + 0) s) 159 (8 * G 4 0 + 1) 0) := by
  have c0 := hg.1
  have nq : nH M (zUp (zUp (zUp M 160 (G 4 0) nm) 159 (8 * G 4 0 + 0) s) 159 (8 * G 4 0 + 1) 0) := ⟨fun c _ b e _ => by rw [zUp_away b, zUp_away b, zUp_away e], fun j _ => by rw [zUp_away (by decide), zUp_away (by decide), zUp_away (by decide)]⟩
  refine m_close (d := d) (G := gAL G nm s 0) hT (mTk_fr h (by rw [zUp_away (by decide), zUp_away (by decide), zUp_away (by decide)]) (by rw [zUp_away (by decide), zUp_away (by decide), zUp_away (by decide)]) (by rw [zUp_away (by decide), zUp_away (by decide), zUp_away (by decide)]) (by rw [zUp_away (by decide), zUp_away (by decide), zUp_away (by decide)])) (by rw [zUp_away (by decide), zUp_away (by decide), zUp_away (by decide)]; exact hb) ?_ (mPo_q hP nq)
  intro M' f1 f2 f3
  have r2 := hr.2.1
  refine mR_leaf hg hr (fun j hj => ?_) ?_ ?_ ?_ hG
  · rw [f1, zUp_there hj, zUp_hit, zUp_hit, zUp_hit, zUp_hit, zUp_away (show (159 : Nat) ≠ 160 by decide)]
  · rw [f1, zUp_here, zUp_there (by omega), zUp_there (by omega), zUp_away (by decide), r2]
  · rw [f2, zUp_away (by decide), zUp_away (by decide)]
  · rw [f3, zUp_away (by decide), zUp_away (by decide), zUp_away (by decide)]
