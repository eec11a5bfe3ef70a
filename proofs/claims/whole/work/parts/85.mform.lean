/-! LAYER 3: a form's line, from its colon on, and a line from its sort on -/
theorem m_form {d : Nat} {T : Int → Int} {n p nm s x3 x5 : Int} {M G : Mm} {K : Kt} (hT : tpOk T n) (hg : gLn G) (hG : G 4 0 < 24) (hn : 0 ≤ nm ∧ nm < 1073741824) (hs : 0 ≤ s ∧ s < G 4 1) (hr : mR G M) (h : mTk T n p true M) (hb : M 154 6 = 0) (hP : mPo T n K M (gFm T n (gAL G nm s 1) p)) : zSp (d + 7) 165 [.inr (.inr 154), .inl (G 4 0)] (zUp (zUp (zUp M 160 (G 4 0) nm) 159 (8 * G 4 0 + 0) s) 159 (8 * G 4 0 + 1) 1) (fun _ M4 => zWp (zSp (d + 7)) 166 K 188 [some (.inr (.inr 154)), some (.inl 1), some (.inl (G 4 0)), some (.inr (.inl x3)), none, some (.inl x5)] [] M4) := by
  have c0 := hg.1
  obtain ⟨al1, al2, al3, al4, al5⟩ := gAL_k (nm := nm) (s := s) (fm := 1) hg hG hn hs (.inr rfl)
  obtain ⟨a1, a2, a3, a4, a5, a6⟩ := gAL_c (G := G) (nm := nm) (s := s) (fm := 1)
  have nq : nH M (zUp (zUp (zUp M 160 (G 4 0) nm) 159 (8 * G 4 0 + 0) s) 159 (8 * G 4 0 + 1) 1) := ⟨fun c _ b e _ => by rw [zUp_away b, zUp_away b, zUp_away e], fun j _ => by rw [zUp_away (by decide), zUp_away (by decide), zUp_away (by decide)]⟩
  have hP := mPo_q hP nq
  have hw : ∃ Mw, Mw = zUp (zUp (zUp M 160 (G 4 0) nm) 159 (8 * G 4 0 + 0) s) 159 (8 * G 4 0 + 1) 1 := ⟨_, rfl⟩
  obtain ⟨Mw, hw⟩ := hw
  have w154 : Mw 154 = M 154 := by rw [hw, zUp_away (by decide), zUp_away (by decide), zUp_away (by decide)]
  have w161 : Mw 161 = M 161 := by rw [hw, zUp_away (by decide), zUp_away (by decide), zUp_away (by decide)]
  have w160 : Mw 160 = (zUp M 160 (G 4 0) nm) 160 := by rw [hw, zUp_away (by decide), zUp_away (by decide)]
  have w159 : Mw 159 = (zUp (zUp M 159 (8 * G 4 0 + 0) s) 159 (8 * G 4 0 + 1) 1) 159 := by
    funext j
    rw [hw, zUp_hit, zUp_hit, zUp_hit, zUp_hit, zUp_away (show (159 : Nat) ≠ 160 by decide)]
  have wt : mTk T n p true Mw := by
    rw [hw]
    exact mTk_fr h (by rw [zUp_away (by decide), zUp_away (by decide), zUp_away (by decide)]) (by rw [zUp_away (by decide), zUp_away (by decide), zUp_away (by decide)]) (by rw [zUp_away (by decide), zUp_away (by decide), zUp_away (by decide)]) (by rw [zUp_away (by decide), zUp_away (by decide), zUp_away (by decide)])
  rw [← hw] at hP ⊢
  have wb : Mw 154 6 = 0 := by rw [w154]; exact hb
  unfold gFm at hP
  rw [me_165]
  refine m_needsSign (d := d + 2) hT wt wb (by unfold sgn; decide) ?_ ?_
  · intro M1 u1 u2 f1 f2
    rw [if_pos ⟨u1, u2⟩] at hP
    have n1 : nH Mw M1 := nH_of (nG_of f2)
    have b1 : M1 154 6 = 0 := by rw [nF_bad f2]; exact wb
    have e159 : M1 159 = Mw 159 := f2.1 159 (by decide)
    have e161 : M1 161 = Mw 161 := f2.1 161 (by decide)
    have pe := (tEn_s (T := T) (n := n) (p := p) h.2.1.2).2.1
    refine m_behind_l (d := d) hT (l := G 4 0) (by omega) 5 M1 (gAL G nm s 1) 0 (tEn T n p) false none (by omega) (by omega) (by omega) al1 (by omega) (by omega) al4 al5 ⟨by rw [al3, e159, w159, zUp_there (by omega), zUp_there (by omega)]; exact hr.1.1, fun t t0 t1 => ?_⟩ (fun i i0 i1 => by rw [al4] at i1; omega) f1 b1 ?_ ?_ ?_
    · rw [al3] at t1
      rw [e161, w161, a3]
      exact hr.1.2 t t0 t1
    · intro M2 g1 g2 g3
      rw [if_neg (by omega)] at hP
      refine m_unclose (d := d + 5) g2 (by decide) ?_
      intro M3 k1 k2
      refine hP.1 M3 (by omega) ?_ (nH_trans n1 (nH_trans g3 k2))
      rw [g1]
      exact k1
    · intro M2 p' w' g1 g2 g3 g4 g5 g6
      rw [if_neg (by omega)] at hP
      refine m_shut (d := d + 3) hT g2 g5 g3 ?_
      intro M3 k1 k2
      refine hP.1 M3 (by omega) ?_ (nH_trans n1 (nH_trans g6 k2))
      rw [g1, g4]
      exact k1
    · intro M2 g1 g2 g3 g4 g5 g6 g7 g8 g9 g10
      rw [if_pos g1] at hP
      obtain ⟨q1, q2⟩ := gBh_keep (T := T) (n := n) 5 0 (gAL G nm s 1) (tEn T n p) false (by omega) (by omega) (by omega) al1 (by omega) (by rw [al2, show G 4 0 + 1 - 1 = G 4 0 by omega]; exact al4) pe g1
      refine m_close (d := d + 3) hT g2 g3 ?_ (mPo_q hP (nH_trans n1 g10))
      intro M3 k1 k2 k3
      refine mR_form hg q1 hr hG q2 g4 g5 g6 g7 (fun j j1 j2 => by rw [g8 j j1 j2, e159, w159]) (by rw [g9, f2.1 160 (by decide), w160]) k1 k2 k3
  · intro M1 u f1 f2
    rw [if_neg u] at hP
    have n1 : nH Mw M1 := nH_of (nG_of f2)
    rw [fe_165_10]
    refine m_unfine (by rw [zUp_there (by decide), zUp_here]; decide) ?_
    refine zC_i (by decide) ⟨fun _ => ?_, fun q => absurd rfl q⟩
    refine m_beh84 (by omega) (.inl rfl) ?_
    refine m_unclose (d := d + 5) (T := T) (n := n) (k := 1) (q := tQ T n p) ?_ (by decide) ?_
    · have y := mFl_i (k := 1) (q := tQ T n p) f1
      exact ⟨by rw [zUp_away (by decide), zUp_away (by decide)]; exact y.1, by rw [zUp_away (by decide), zUp_away (by decide)]; exact y.2.1, p, true, mTk_fr (mTk_bad f1) (by rw [zUp_away (by decide), zUp_away (by decide)]) (by rw [zUp_away (by decide), zUp_away (by decide)]) (by rw [zUp_away (by decide), zUp_away (by decide)]) (by rw [zUp_away (by decide), zUp_away (by decide)])⟩
    · intro M3 k1 k2
      exact hP.1 M3 (show (1 : Int) ≠ 0 by decide) k1 (nH_trans n1 (nH_trans nH_bad (nH_trans ⟨fun c _ b _ _ => by rw [zUp_away b, zUp_away b], fun j _ => by rw [zUp_away (by decide), zUp_away (by decide)]⟩ k2)))
