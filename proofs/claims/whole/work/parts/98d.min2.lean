/-! LAYER 3: an input's text, read by the reference: turns -/
theorem m_go51 {d : Nat} {T : Int → Int} {n p fm : Int} {w : Bool} {G M : Mm} {L : List Tr} {K : Kt} (hT : tpOk T n) (hg : gLn G) (hx : mG G M) (hL : lOk G L) (hl : fm = 1 → L.length < 12) (hf : fm = 0 ∨ fm = 1) (h : mTk T n p w M) (hb : M 154 6 = 0) (hi : mIn L M) (hP : mPI T n K M (gNo T n G L fm p w)) : zWp (zSp (d + 6)) 180 K 51 [some (.inr (.inr 154)), some (.inl fm), none, none, none, none] [] M := by
  have c0 := hg.1
  have pn := h.2.1.2
  have l2 := hL.2.1
  have l3 := hL.2.2
  have nn := lsz_nn L
  unfold gNo at hP
  rw [fe_180_51]
  refine m_name (d := d + 1) hT h hb ?_ ?_
  · intro M1 k1 k2 f1 f2 f3
    have nm : isNm T n p w := ⟨k1, k2⟩
    rw [if_pos nm] at hP
    have hP := mPI_q hP (nJ_of f2)
    have vb := tVa_1 pn k1
    have b1 : M1 154 6 = 0 := by rw [nG_bad f2]; exact hb
    have x1 := mG_I hx (nJ_of f2)
    have i1 := mIn_G hi f2
    have lf := gLf_s (v := tVa T n p) hg
    refine m_fine b1 (zC_i (by decide) ⟨fun z => absurd z (by decide), fun _ => ?_⟩)
    refine m_lineOf hg x1 (zr64 (by omega) (by omega)) ?_
    have badf : ∀ k : Int, 1 ≤ k ∧ k ≤ 5 → 1 ≤ (zUp (zUp M1 154 6 k) 154 7 (tQ T n p)) 154 6 ∧ (zUp (zUp M1 154 6 k) 154 7 (tQ T n p)) 154 6 ≤ 5 := fun k hk => by rw [zUp_there (by decide), zUp_here]; exact hk
    rw [fe_180_72]
    refine m_fine b1 (zC_i (by decide) ⟨fun z => absurd z (by decide), fun _ => zC_i (zr (by omega) (by omega)) ⟨fun c2 => ?_, fun c2 => ?_⟩⟩)
    · rw [if_neg c2] at hP
      rw [fe_180_96]
      refine m_fine b1 (zC_i (by decide) ⟨fun z => absurd z (by decide), fun _ => ?_⟩)
      rw [me_174, i1.2.1]
      refine zC_i (by decide) (zC_i (zr (by omega) (by omega)) ⟨fun c3 => ?_, fun c3 => ?_⟩)
      · rw [if_neg c3] at hP
        rw [fe_180_124]
        refine m_fine b1 (zC_i (by decide) ⟨fun z => absurd z (by decide), fun _ => ?_⟩)
        rw [f3]
        refine m_stands (d := d + 2) hg x1 hL i1 (by omega) (by omega) hf b1 (fun c4 => ?_) (fun c4 => ?_)
        · rw [if_pos c4] at hP
          -- the node is added
          have add : ∀ M2 : Mm, M2 154 = M1 154 → M2 155 = M1 155 → M2 165 = M1 165 → M2 166 = M1 166 → (∀ j, (L.length : Int) ≤ j → M2 167 j = M1 167 j) → nJ M1 M2 → mFs M2 1 L → zWp (zSp (d + 6)) 180 K 172 [some (.inr (.inr 154)), some (.inl fm), some (.inr (.inl (tVa T n p))), none, some (.inl (gLf G (tVa T n p))), none] [] M2 := by
            intro M2 e154 e155 e165 e166 e167 nq fs
            have e322 : M2 165 322 = lsz L := by rw [e165]; exact i1.2.1
            rw [fe_180_172, me_178, e322, zUp_there (show (322 : Int) ≠ 322 + 81 + lsz L by omega), zUp_there (show (322 : Int) ≠ 322 + 1 + lsz L by omega), e322]
            refine zC_i (by decide) (zC_i (zs (by omega) (by omega)) (zC_i (zs (by omega) (by omega)) (zC_i (by decide) (zC_i (by decide) ?_))))
            have y165 : ∀ i, (zUp (zUp (zUp M2 165 (322 + 1 + lsz L) (gLf G (tVa T n p))) 165 (322 + 81 + lsz L) 1) 165 322 (lsz L + 1)) 165 i = if i = 322 then lsz L + 1 else if i = 322 + 81 + lsz L then 1 else if i = 322 + 1 + lsz L then gLf G (tVa T n p) else M2 165 i := fun i => by rw [zUp_hit, zUp_hit, zUp_hit]
            have yc : ∀ c, c ≠ 165 → (zUp (zUp (zUp M2 165 (322 + 1 + lsz L) (gLf G (tVa T n p))) 165 (322 + 81 + lsz L) 1) 165 322 (lsz L + 1)) c = M2 c := fun c hc => by rw [zUp_away hc, zUp_away hc, zUp_away hc]
            generalize hM3 : (zUp (zUp (zUp M2 165 (322 + 1 + lsz L) (gLf G (tVa T n p))) 165 (322 + 81 + lsz L) 1) 165 322 (lsz L + 1)) = M3 at y165 yc ⊢
            have ad : mAd (gLf G (tVa T n p)) L M3 := by
              refine ⟨by rw [yc 154 (by decide), e154]; exact i1.1, by rw [y165, if_pos rfl], by rw [y165, if_neg (by omega), if_neg (by omega), if_pos rfl], by rw [y165, if_neg (by omega), if_pos rfl], mFs_fr L 1 (fun i i0 i1 => ⟨?_, ?_⟩) (fun j _ _ => ⟨by rw [yc 166 (by decide)], by rw [yc 167 (by decide)]⟩) fs⟩
              · rw [y165, if_neg (by omega), if_neg (by omega), if_neg (by omega)]
              · rw [y165, if_neg (by omega), if_neg (by omega), if_neg (by omega)]
            have nq3 : nJ M1 M3 := nJ_trans nq ⟨fun c _ h5 _ _ => yc c h5, fun i hi => by rw [y165, if_neg (by omega), if_neg (by omega), if_neg (by omega)], fun j _ => by rw [yc 154 (by decide)]⟩
            have t3 : mTk T n (tEn T n p) true M3 := mTk_fr f1 (by rw [yc 155 (by decide), e155]) (by rw [yc 154 (by decide), e154]) (by rw [yc 154 (by decide), e154]) (by rw [yc 154 (by decide), e154])
            have b3 : M3 154 6 = 0 := by rw [yc 154 (by decide), e154]; exact b1
            have d3 : M3 154 28 = L.length := ad.1
            refine zC_i (zr (by omega) (by omega)) ⟨fun c5 => ?_, fun c5 => ?_⟩
            · have e5 : fm = 1 := by omega
              have hl := hl e5
              rw [d3]
              have sm : zSm (L.length : Int) 16 = true := zs (by omega) (by omega)
              refine zC_i sm (zC_i sm ?_)
              rw [e5] at hP
              refine hP.2 _ rfl (mAd_form (by omega) ad (by rw [zUp_here]) (fun j => ?_) (fun j => ?_) (by rw [zUp_away (by decide), zUp_away (by decide), zUp_away (by decide)])) (mTk_fr t3 (by rw [zUp_away (by decide), zUp_away (by decide), zUp_away (by decide)]) (by rw [zUp_there (by decide), zUp_away (by decide), zUp_away (by decide)]) (by rw [zUp_there (by decide), zUp_away (by decide), zUp_away (by decide)]) (by rw [zUp_there (by decide), zUp_away (by decide), zUp_away (by decide)])) (by rw [zUp_there (by decide), zUp_away (by decide), zUp_away (by decide)]; exact b3) (nJ_trans nq3 ⟨fun c h1 h2 h3 h4 => by rw [zUp_away h1, zUp_away h4, zUp_away h3], fun i _ => by rw [zUp_away (by decide), zUp_away (by decide), zUp_away (by decide)], fun j hj => by rw [zUp_there (by omega), zUp_away (by decide), zUp_away (by decide)]⟩)
              · rw [zUp_away (by decide), zUp_away (by decide), zUp_hit]
              · rw [zUp_away (by decide), zUp_hit, zUp_away (show (167 : Nat) ≠ 166 by decide)]
            · have e5 : fm = 0 := by omega
              rw [e5] at hP
              exact hP.2 _ rfl (mAd_leaf (by omega) ad) t3 b3 nq3
          rw [fe_180_142]
          refine m_fine b1 (zC_i (by decide) ⟨fun _ => ?_, fun z => absurd (by decide) z⟩)
          rw [i1.1]
          refine zC_i (zr (by omega) (by omega)) ⟨fun c5 => ?_, fun c5 => ?_⟩
          · have eL : L = [] := by
              match L, c5 with
              | [], _ => rfl
              | f :: R, c5 =>
                have c5 : ((R.length + 1 : Nat) : Int) ≤ 0 := c5
                omega
            exact add M1 rfl rfl rfl rfl (fun _ _ => rfl) nJ_refl (by rw [eL]; trivial)
          · obtain ⟨f, R, eL, eh, tv, b1', b2, b3, b4⟩ := hdT_b hL (by omega)
            have eR : (L.length : Int) - 1 = R.length := by
              rw [eL]
              show ((R.length + 1 : Nat) : Int) - 1 = _
              omega
            have i3 : mFs M1 0 (f :: R) := by rw [← eL]; exact i1.2.2
            obtain ⟨a1, a2, a3, a4⟩ := i3
            rw [eR, a2]
            have sm : zSm (R.length : Int) 16 = true := zs (by omega) (by omega)
            refine zC_i sm (zC_i sm ?_)
            refine add _ (zUp_away (by decide)) (zUp_away (by decide)) (zUp_away (by decide)) (zUp_away (by decide)) (fun j hj => zUp_there (by omega)) ⟨fun c _ _ _ h4 => zUp_away h4, fun i _ => by rw [zUp_away (by decide)], fun j _ => by rw [zUp_away (by decide)]⟩ ?_
            rw [eL]
            refine ⟨fun k k0 k1 => by rw [zUp_away (by decide)]; exact a1 k k0 k1, by rw [zUp_here]; omega, by rw [zUp_away (by decide)]; exact a3, mFs_fr R 1 (fun i _ _ => ⟨by rw [zUp_away (by decide)], by rw [zUp_away (by decide)]⟩) (fun j j0 j1 => ⟨by rw [zUp_away (by decide)], by rw [zUp_there (by omega)]⟩) a4⟩
        · rw [if_neg c4] at hP
          exact m_un142 (badf 5 (by decide)) (hP.1 _ (show (5 : Int) ≠ 0 by decide) (mFl_i f1) nJ_bad)
      · rw [if_pos (Decidable.not_not.mp c3)] at hP
        rw [f3]
        exact m_fail b1 (m_un124 (badf 4 (by decide)) (hP.1 _ (show (4 : Int) ≠ 0 by decide) (mFl_i f1) nJ_bad))
    · rw [if_pos (Decidable.not_not.mp c2)] at hP
      rw [f3]
      exact m_fail b1 (m_un96' (badf 3 (by decide)) (hP.1 _ (show (3 : Int) ≠ 0 by decide) (mFl_i f1) nJ_bad))
  · intro M1 nm f1 f2 f3
    rw [if_neg nm] at hP
    have hP := mPI_q hP (nJ_of f2)
    have bb : 1 ≤ (zUp (zUp M1 154 6 1) 154 7 (tQ T n p)) 154 6 ∧ (zUp (zUp M1 154 6 1) 154 7 (tQ T n p)) 154 6 ≤ 5 := by rw [zUp_there (by decide), zUp_here]; decide
    exact m_unfine bb (zC_i (by decide) ⟨fun _ => m_un72 bb (hP.1 _ (show (1 : Int) ≠ 0 by decide) (mFl_i f1) nJ_bad), fun z => absurd rfl z⟩)
theorem m_node180 {d : Nat} {T : Int → Int} {n p : Int} {w : Bool} {G M : Mm} {L : List Tr} {K : Kt} (hT : tpOk T n) (hg : gLn G) (hx : mG G M) (hL : lOk G L) (h : mTk T n p w M) (hb : M 154 6 = 0) (hi : mIn L M) (hP : mPI T n K M (gNdI T n G L p w)) : zSp (d + 7) 180 [.inr (.inr 154)] M K := by
  have l3 := hL.2.2
  have l2 := hL.2.1
  have nn := lsz_nn L
  unfold gNdI at hP
  rw [me_180]
  refine m_isSign (d := d + 4) hT h (by unfold sgn; decide) ?_
  intro M1 f1 f4 f2
  have b1 : M1 154 6 = 0 := by rw [nF_bad f2]; exact hb
  have n1 : nJ M M1 := nJ_of (nG_of f2)
  have x1 := mG_I hx n1
  have i1 := mIn_G hi (nG_of f2)
  by_cases c : tKi T n p w = 3 ∧ tVa T n p = 40
  · rw [fl_t c]
    rw [if_pos c] at hP
    refine zC_i (by decide) ⟨fun z => absurd z (by decide), fun _ => ?_⟩
    have bad : (L.length : Int) = 12 ∨ lsz L = 80 → zWp (zSp (d + 6)) 180 K 32 [some (.inr (.inr 154)), some (.inl 1), none, none, none, none] [] M1 := by
      intro c2
      rw [if_pos c2] at hP
      rw [fe_180_32]
      refine m_next hT f1 ?_
      intro M2 g1 g4 g2 g3
      have nf := nx_nF g2 g3
      refine m_fail (by rw [nF_bad nf]; exact b1) ?_
      rw [fe_180_41]
      have sg := mTk_sign (mTk_bad (k := 4) (q := tQ T n p) g1) (by rw [zUp_there (by decide), zUp_there (by decide)]; exact g4) c.1
      refine m_un51 (d := d + 1) hT (k := 4) (q := tQ T n p) ⟨by rw [zUp_there (by decide), zUp_there (by decide), zUp_here], by rw [zUp_there (by decide), zUp_here], _, _, sg.1⟩ (by decide) ?_
      intro M3 k1 k2
      exact hP.1 M3 (show (4 : Int) ≠ 0 by decide) k1 (nJ_trans n1 (nJ_trans (nJ_of (nG_of nf)) (nJ_trans nJ_bad (nJ_trans (nJ_of (nG_of sg.2)) k2))))
    rw [i1.1]
    refine zC_i (zr (by omega) (by omega)) ⟨fun q => bad (.inl q), fun q => ?_⟩
    rw [me_174, i1.2.1]
    refine zC_i (by decide) (zC_i (zr (by omega) (by omega)) ⟨fun q2 => ?_, fun q2 => bad (.inr (Decidable.not_not.mp q2))⟩)
    rw [if_neg (by omega)] at hP
    rw [fe_180_41]
    have sg := mTk_sign f1 f4 c.1
    have n2 := nJ_of (nG_of sg.2)
    exact m_go51 hT hg (mG_I x1 n2) hL (fun _ => by omega) (.inr rfl) sg.1 (by rw [nF_bad sg.2]; exact b1) (mIn_G i1 (nG_of sg.2)) (mPI_q hP (nJ_trans n1 n2))
  · rw [fl_f c]
    rw [if_neg c] at hP
    refine zC_i (by decide) ⟨fun _ => ?_, fun z => absurd rfl z⟩
    exact m_go51 hT hg x1 hL (fun e => absurd e (by decide)) (.inl rfl) f1 b1 i1 (mPI_q hP n1)
theorem mFs_close {M M' : Mm} {L : List Tr} (hl : 0 < (L.length : Int)) (hz : lsz L ≤ 80) (h : mIn L M) (f1 : M' 154 28 = L.length - 1) (f2 : ∀ f R, L = f :: R → ∀ i, M' 165 i = if i = 322 + 81 + lsz R then tSz f else M 165 i) (f3 : M' 166 = M 166) (f4 : M' 167 = M 167) : mSt (gCs L).1 M' (gCs L).2 := by
  obtain ⟨h1, h2, h3⟩ := h
  match L, hl, hz, h1, h2, h3, f1, f2 with
  | [], hl, _, _, _, _, _, _ => exact absurd hl (by decide)
  | [f], hl, hz, h1, h2, ⟨a1, a2, a3, a4⟩, f1, f2 =>
    have q := tSz_pos f
    have f2 := f2 f [] rfl
    have e0 : lsz [] = 0 := rfl
    have h2 : M 165 322 = tSz f + lsz [] := h2
    have hz : tSz f + lsz [] ≤ 80 := hz
    refine ⟨by rw [f1]; rfl, ?_, fun k k0 k1 => ?_⟩
    · rw [f2, if_neg (by omega), h2]
      omega
    · have x := a1 k k0 k1
      rw [show lsz [] + k = k by omega] at x
      refine ⟨?_, ?_⟩
      · rw [f2, if_neg (by omega)]; exact x.1
      · by_cases c : k = 0
        · rw [c, f2, if_pos (by omega), tSub_0]
        · rw [f2, if_neg (by omega)]; exact x.2 c
  | f :: g :: R, hl, hz, h1, h2, ⟨a1, a2, a3, b1, b2, b3, b4⟩, f1, f2 =>
    have qf := tSz_pos f
    have qg := tSz_pos g
    have nr := lsz_nn R
    have f2 := f2 f (g :: R) rfl
    have hs : lsz (g :: R) = tSz g + lsz R := rfl
    have h2 : M 165 322 = tSz f + (tSz g + lsz R) := h2
    have hz : tSz f + (tSz g + lsz R) ≤ 80 := hz
    refine ⟨?_, ?_, fun k k0 k1 => ?_, ?_, ?_, mFs_fr R 1 (fun i i0 i1 => ⟨by rw [f2, if_neg (by omega)], by rw [f2, if_neg (by omega)]⟩) (fun j _ _ => ⟨by rw [f3], by rw [f4]⟩) b4⟩
    · rw [f1]
      show ((R.length + 1 + 1 : Nat) : Int) - 1 = ((R.length + 1 : Nat) : Int)
      omega
    · rw [f2, if_neg (by omega), h2]
      show tSz f + (tSz g + lsz R) = (tSz g + tSz f) + lsz R
      omega
    · have k1 : k < tSz g + tSz f := k1
      by_cases c : k < tSz g
      · have x := b1 k k0 c
        rw [f2, if_neg (by omega), f2, if_neg (by omega)]
        by_cases c0 : k = 0
        · rw [c0, tSub_0] at x ⊢
          exact ⟨x.1, fun z => absurd rfl z⟩
        · rw [tSub_f c0 c]
          exact ⟨x.1, fun _ => x.2 c0⟩
      · rw [tSub_s (by omega)]
        have x := a1 (k - tSz g) (by omega) (by omega)
        rw [show lsz (g :: R) + (k - tSz g) = lsz R + k by omega] at x
        refine ⟨by rw [f2, if_neg (by omega)]; exact x.1, fun _ => ?_⟩
        by_cases c0 : k - tSz g = 0
        · rw [c0, tSub_0, f2, if_pos (by omega)]
        · rw [f2, if_neg (by omega)]; exact x.2 c0
    · rw [f4, b2, tKd_op]
      omega
    · rw [f3]; exact b3
theorem m_close181 {d : Nat} {T : Int → Int} {n p : Int} {w : Bool} {G M : Mm} {L : List Tr} {K : Kt} (hT : tpOk T n) (hg : gLn G) (hx : mG G M) (hL : lOk G L) (hl : 0 < (L.length : Int)) (h : mTk T n p w M) (hb : M 154 6 = 0) (hk : tKi T n p w = 3 ∧ tVa T n p = 41) (hi : mIn L M) (hP : mPI T n K M (if gNeed G (tNm (hdT L)) ≤ tKd (hdT L) then (0, 0, (gCs L).1, (gCs L).2, tEn T n p, false) else (5, tQ T n p, L, none, p, w))) : zSp (d + 5) 181 [.inr (.inr 154)] M K := by
  obtain ⟨f, R, eL, eh, tv, b1, b2, b3, b4⟩ := hdT_b hL hl
  have l3 := hL.2.2
  have nm := tVal_nm f tv
  have nb := gNeed_b hg nm.1 nm.2
  have eR : (L.length : Int) - 1 = R.length := by
    rw [eL]
    show ((R.length + 1 : Nat) : Int) - 1 = _
    omega
  have i3 : mFs M 0 (f :: R) := by rw [← eL]; exact hi.2.2
  obtain ⟨a1, a2, a3, a4⟩ := i3
  have n0 := (a1 0 (by omega) (by omega)).1
  rw [show lsz R + 0 = lsz R by omega, tSub_0] at n0
  rw [eh] at hP
  have sm : zSm (R.length : Int) 16 = true := zs (by omega) (by omega)
  rw [me_181, hi.1, eR, a3]
  refine zC_i sm ?_
  rw [me_175, n0]
  refine zC_i (zs (by omega) (by omega)) ?_
  rw [hi.1, eR, a2]
  refine zC_i sm ?_
  refine m_fixed hg hx nm.1 nm.2 ?_
  refine zC_i (zr (by omega) (by omega)) (zC_i (zr (by omega) (by omega)) ⟨fun c => ?_, fun c => ?_⟩)
  · rw [if_pos (by omega)] at hP
    rw [fe_181_47]
    refine m_takesSign (d := d + 1) hT h hb (by unfold sgn; decide) ?_ ?_
    · intro M1 k1 k2 f1 f2
      have e28 : M1 154 28 = L.length := by rw [f2.2 28 (by decide) (by decide) (by decide) (by decide)]; exact hi.1
      have e166 : M1 166 = M 166 := f2.1 166 (by decide)
      have e165 : M1 165 = M 165 := f2.1 165 (by decide)
      rw [e28, eR, e166, a3]
      refine zC_i (by decide) ⟨fun _ => zC_i sm ?_, fun z => absurd (by decide) z⟩
      have e322 : (zUp M1 154 28 (R.length : Int)) 165 322 = lsz L := by rw [zUp_away (by decide), e165]; exact hi.2.1
      rw [me_174, e322, zUp_here, zUp_away (show (166 : Nat) ≠ 154 by decide), e166, a3]
      refine zC_i (by decide) (zC_i sm (zC_i (zs (by omega) (by omega)) ?_))
      have hs : lsz L - lsz R = tSz f := by
        rw [eL]
        show tSz f + lsz R - lsz R = tSz f
        omega
      rw [hs]
      refine hP.2 _ rfl (mFs_close hl hL.2.1 hi (by rw [zUp_away (by decide), zUp_here]; omega) (fun f' R' e i => ?_) (by rw [zUp_away (by decide), zUp_away (by decide)]; exact e166) (by rw [zUp_away (by decide), zUp_away (by decide)]; exact f2.1 167 (by decide))) (mTk_fr f1 (by rw [zUp_away (by decide), zUp_away (by decide)]) (by rw [zUp_away (by decide), zUp_there (by decide)]) (by rw [zUp_away (by decide), zUp_there (by decide)]) (by rw [zUp_away (by decide), zUp_there (by decide)])) (by rw [zUp_away (by decide), zUp_there (by decide), nF_bad f2]; exact hb) ?_
      · rw [eL] at e
        injection e with e1 e2
        rw [← e1, ← e2, zUp_hit, zUp_away (show (165 : Nat) ≠ 154 by decide), e165, show (322 + 81 + lsz R : Int) = 403 + lsz R by omega]
      · refine nJ_trans (nJ_of (nG_of f2)) ⟨fun c h1 h2 _ _ => by rw [zUp_away h2, zUp_away h1], fun i hi => by rw [zUp_there (by omega), zUp_away (by decide)], fun j hj => by rw [zUp_away (by decide), zUp_there (by omega)]⟩
    · intro M1 u f1 f2
      exact absurd hk u
  · rw [if_neg (by omega)] at hP
    refine m_next hT h ?_
    intro M1 f1 f4 f2 f3
    have nf := nx_nF f2 f3
    refine m_fail (by rw [nF_bad nf]; exact hb) ?_
    have bb : 1 ≤ (zUp (zUp M1 154 6 5) 154 7 (tQ T n p)) 154 6 ∧ (zUp (zUp M1 154 6 5) 154 7 (tQ T n p)) 154 6 ≤ 5 := by rw [zUp_there (by decide), zUp_here]; decide
    rw [fe_181_47, me_153]
    refine m_unfine bb (zC_i (by decide) ⟨fun _ => zC_i (by decide) ⟨fun z => absurd rfl z, fun _ => ?_⟩, fun z => absurd rfl z⟩)
    exact hP.1 _ (show (5 : Int) ≠ 0 by decide) (mFl_i f1) (nJ_trans (nJ_of (nG_of nf)) nJ_bad)
theorem m_turns {d : Nat} {T : Int → Int} {n : Int} {G : Mm} {K : Kt} (hT : tpOk T n) (hg : gLn G) : ∀ (f : Nat) (M : Mm) (L : List Tr) (p : Int) (w : Bool) (x1 : Int), x1 + f = 1000 → 0 ≤ x1 → lOk G L → ((x1 = 0 ∧ L = []) ∨ (1 ≤ L.length ∧ x1 + 1 ≤ p)) → mIn L M → mTk T n p w M → M 154 6 = 0 → mG G M →
    (∀ M', 1 ≤ (gIn T n G f L p w).1 ∧ (gIn T n G f L p w).1 ≤ 5 → mFl T n M' (gIn T n G f L p w).1 (gIn T n G f L p w).2.1 → nJ M M' → zWp (zSp (d + 8)) 182 K 83 [some (.inr (.inr 154))] [] M') →
    (∀ M' t, (gIn T n G f L p w).1 = 0 → (gIn T n G f L p w).2.2.1 = some t → mDn t M' → mTk T n (gIn T n G f L p w).2.2.2.1 (gIn T n G f L p w).2.2.2.2 M' → M' 154 6 = 0 → nJ M M' → zWp (zSp (d + 8)) 182 K 83 [some (.inr (.inr 154))] [] M') →
    zWp (zSp (d + 8)) 182 K 42 [some (.inr (.inr 154))] [] M
  | 0, M, L, p, w, x1, hf, h0, hL, hs, hi, h, hb, hx, hK0, hK1 => by
    have hn := hT.1
    have pn := h.2.1
    rcases hs with hs | hs <;> omega
  | f + 1, M, L, p, w, x1, hf, h0, hL, hs, hi, h, hb, hx, hK0, hK1 => by
    have hn := hT.1
    have pn := h.2.1
    have l3 := hL.2.2
    have tk := gTu_k (T := T) (L := L) (w := w) hg pn.2 hL
    unfold gIn at hK0 hK1
    have post : mPI T n (fun _ M' => zWp (zSp (d + 8)) 182 K 69 [some (.inr (.inr 154))] [] M') M (gTu T n G L p w) := by
      refine ⟨fun M' e fl q => ?_, fun M' e a b b6 q => ?_⟩
      · rw [if_neg (fun z => e z.1)] at hK0
        have eb := tk.elim (fun u => absurd u.1 e) (fun u => u)
        show zWp (zSp (d + 8)) 182 K 69 _ [] _
        rw [fe_182_69]
        exact m_unfine (by rw [fl.1]; exact eb) (zC_i (by decide) ⟨fun _ => hK0 M' eb fl q, fun z => absurd rfl z⟩)
      · show zWp (zSp (d + 8)) 182 K 69 _ [] M'
        rw [fe_182_69]
        refine m_fine b6 (zC_i (by decide) ⟨fun z => absurd z (by decide), fun _ => ?_⟩)
        rcases tk with ⟨t1, t2, t3, t4⟩ | t
        · by_cases c : (gTu T n G L p w).2.2.2.1 = none
          · rw [if_pos ⟨e, c⟩] at hK0 hK1
            rw [c] at a t2
            have hl := t2.2
            have lk := t2.1.2.2
            have a1 : M' 154 28 = ((gTu T n G L p w).2.2.1.length : Int) := a.1
            rw [a1]
            refine zC_i (zr (by omega) (by omega)) ⟨fun _ => ?_, fun z => absurd (by omega) z⟩
            have pp : x1 + 1 + 1 ≤ (gTu T n G L p w).2.2.2.2.1 := by
              rcases hs with hs | hs
              · have := t4 hs.2 c
                omega
              · omega
            exact m_turns hT hg f M' _ _ _ (x1 + 1) (by omega) (by omega) t2.1 (.inr ⟨hl, pp⟩) a b b6 (mG_I hx q) (fun M2 e1 e2 e3 => hK0 M2 e1 e2 (nJ_trans q e3)) (fun M2 t e1 e2 e3 e4 e5 e6 => hK1 M2 t e1 e2 e3 e4 e5 (nJ_trans q e6))
          · rw [if_neg (fun z => c z.2)] at hK1
            match hd : (gTu T n G L p w).2.2.2.1, c, a with
            | none, c, _ => exact absurd rfl c
            | some t, _, a =>
              have a1 : M' 154 28 = 0 := a.1
              rw [a1]
              exact zC_i (by decide) ⟨fun z => absurd z (by decide), fun _ => hK1 M' t e hd a b b6 q⟩
        · omega
    rw [fe_182_42, hi.1]
    unfold gTu at post
    refine zC_i (zr (by omega) (by omega)) ⟨fun z => ?_, fun z => ?_⟩
    · rw [if_neg (fun y => by omega)] at post
      rw [fe_182_65]
      exact m_node180 (d := d + 1) hT hg hx hL h hb hi post
    · refine m_isSign (d := d + 6) hT h (by unfold sgn; decide) ?_
      intro M1 f1 f4 f2
      have b1 : M1 154 6 = 0 := by rw [nF_bad f2]; exact hb
      have n1 : nJ M M1 := nJ_of (nG_of f2)
      have x1' := mG_I hx n1
      have i1 := mIn_G hi (nG_of f2)
      have post := mPI_q post n1
      by_cases c : tKi T n p w = 3 ∧ tVa T n p = 41
      · rw [fl_t c]
        rw [if_pos ⟨by omega, c.1, c.2⟩] at post
        exact zC_i (by decide) ⟨fun y => absurd y (by decide), fun _ => m_close181 (d := d + 3) hT hg x1' hL (by omega) f1 b1 c i1 post⟩
      · rw [fl_f c]
        rw [if_neg (fun y => c y.2)] at post
        refine zC_i (by decide) ⟨fun _ => ?_, fun y => absurd rfl y⟩
        rw [fe_182_65]
        exact m_node180 (d := d + 1) hT hg x1' hL f1 b1 i1 post
def nK (M M' : Mm) : Prop := (∀ c, c ≠ 154 → c ≠ 165 → c ≠ 166 → c ≠ 167 → M' c = M c) ∧ (∀ i, (i < 322 ∨ 483 ≤ i) → M' 165 i = M 165 i) ∧ (∀ j, (13 < j ∧ j ≠ 28) → M' 154 j = M 154 j) ∧ M' 154 2 = 0
/-- the reference's reading of an input, up to where it takes it over -/
theorem m_input182 {d : Nat} {T : Int → Int} {n : Int} {G M : Mm} {K : Kt} (hT : tpOk T n) (hg : gLn G) (hx : mG G M) (h2 : M 154 2 = n) (h155 : ∀ i, 0 ≤ i → i < n → M 155 i = T i) (h4 : G 4 0 ≠ 0)
    (hK0 : ∀ M' k q, gIf T n G k q → M' 154 8 = k → M' 154 9 = q → nK M M' → K (-1) M')
    (hK1 : ∀ M' t, (gIn T n G 1000 [] 0 false).1 = 0 → tKi T n (gIn T n G 1000 [] 0 false).2.2.2.1 (gIn T n G 1000 [] 0 false).2.2.2.2 = 0 → (gIn T n G 1000 [] 0 false).2.2.1 = some t → mDn t M' → M' 154 8 = 0 → M' 154 9 = -1 → nK M M' → zSp (d + 8) 183 [.inr (.inr 154)] M' (fun _ M2 => zSp (d + 8) 177 [.inr (.inr 154), .inl 0, .inl 322] M2 (fun _ M3 => zSp (d + 8) 209 [.inr (.inr 154)] M3 (fun _ M4 => zSp (d + 8) 174 [.inr (.inr 154), .inl 0] M4 (fun z5 M5 => K z5 M5))))) : zSp (d + 9) 182 [.inr (.inr 154)] M K := by
  have hn := hT.1
  have c0 := hg.1
  rw [me_182, hx.1]
  refine zC_i (zr (by omega) (by omega)) ⟨fun _ => ?_, fun z => absurd h4 z⟩
  rw [me_142]
  have h20 : (zUp M 154 0 0) 154 2 = n := by rw [zUp_there (by decide)]; exact h2
  rw [h20]
  have y : ∀ j, (zUp (zUp (zUp (zUp (zUp (zUp (zUp (zUp (zUp M 154 0 0) 154 3 n) 154 2 0) 154 4 0) 154 5 (-1)) 154 6 0) 154 7 (-1)) 165 322 0) 154 28 0) 154 j = if j = 28 then 0 else if j = 7 then -1 else if j = 6 then 0 else if j = 5 then -1 else if j = 4 then 0 else if j = 2 then 0 else if j = 3 then n else if j = 0 then 0 else M 154 j := fun j => by
    rw [zUp_hit, zUp_away (show (154 : Nat) ≠ 165 by decide), zUp_hit, zUp_hit, zUp_hit, zUp_hit, zUp_hit, zUp_hit, zUp_hit]
  have yc : ∀ c, c ≠ 154 → c ≠ 165 → (zUp (zUp (zUp (zUp (zUp (zUp (zUp (zUp (zUp M 154 0 0) 154 3 n) 154 2 0) 154 4 0) 154 5 (-1)) 154 6 0) 154 7 (-1)) 165 322 0) 154 28 0) c = M c := fun c a b => by rw [zUp_away a, zUp_away b, zUp_away a, zUp_away a, zUp_away a, zUp_away a, zUp_away a, zUp_away a, zUp_away a]
  have y5 : ∀ i, (zUp (zUp (zUp (zUp (zUp (zUp (zUp (zUp (zUp M 154 0 0) 154 3 n) 154 2 0) 154 4 0) 154 5 (-1)) 154 6 0) 154 7 (-1)) 165 322 0) 154 28 0) 165 i = if i = 322 then 0 else M 165 i := fun i => by rw [zUp_away (by decide), zUp_hit, zUp_away (by decide), zUp_away (by decide), zUp_away (by decide), zUp_away (by decide), zUp_away (by decide), zUp_away (by decide), zUp_away (by decide)]
  generalize (zUp (zUp (zUp (zUp (zUp (zUp (zUp (zUp (zUp M 154 0 0) 154 3 n) 154 2 0) 154 4 0) 154 5 (-1)) 154 6 0) 154 7 (-1)) 165 322 0) 154 28 0) = M1 at y yc y5 ⊢
  have t0 : mTk T n 0 false M1 := ⟨⟨by rw [y]; rfl, fun i i0 i1 => by rw [yc 155 (by decide) (by decide)]; exact h155 i i0 i1⟩, ⟨by omega, by omega⟩, ⟨by rw [y]; exact Int.le_refl 0, by rw [y]; show (0 : Int) ≤ n; omega, by rw [y]; rfl⟩, ⟨by rw [y]; exact Int.le_refl (-1), fun q => absurd q (by decide), fun _ => by rw [y]; show (-1 : Int) < 0; decide⟩⟩
  have x1 : mG G M1 := mG_fr hx (yc 156 (by decide) (by decide)) (yc 157 (by decide) (by decide)) (yc 158 (by decide) (by decide)) (yc 162 (by decide) (by decide)) (yc 163 (by decide) (by decide))
  have kq : ∀ {M' : Mm}, nJ M1 M' → nK M M' := fun q => by
    refine ⟨fun c a b e f => by rw [q.1 c a b e f, yc c a b], fun i hi => by rw [q.2.1 i hi, y5, if_neg (by omega)], fun j hj => ?_, by rw [q.2.2 2 (by omega), y]; rfl⟩
    rw [q.2.2 j (by omega), y, if_neg (by omega), if_neg (by omega), if_neg (by omega), if_neg (by omega), if_neg (by omega), if_neg (by omega), if_neg (by omega), if_neg (by omega)]
  have kr : ∀ {M' : Mm} {a b : Int}, nK M M' → nK M (zUp (zUp M' 154 8 a) 154 9 b) := fun q => ⟨fun c a b e f => by rw [zUp_away a, zUp_away a, q.1 c a b e f], fun i hi => by rw [zUp_away (by decide), zUp_away (by decide), q.2.1 i hi], fun j hj => by rw [zUp_there (by omega), zUp_there (by omega), q.2.2.1 j hj], by rw [zUp_there (by decide), zUp_there (by decide)]; exact q.2.2.2⟩
  have bad101 : ∀ (M' : Mm) (k q : Int), 1 ≤ k ∧ k ≤ 5 → gIf T n G k q → nK M M' → M' 154 6 = k → M' 154 7 = q → zWp (zSp (d + 8)) 182 K 101 [some (.inr (.inr 154))] [] M' := by
    intro M' k q kb hh nq g3 g4
    rw [fe_182_101]
    refine m_unRead kb g3 g4 ?_
    exact zC_i (by decide) ⟨fun z => absurd rfl z, fun _ => hK0 _ k q hh (by rw [zUp_there (by decide), zUp_here]) zUp_here (kr nq)⟩
  refine m_turns (d := d) hT hg 1000 M1 [] 0 false 0 (by omega) (by omega) ⟨fun f hf => absurd hf (by simp), by decide, by decide⟩ (.inl ⟨rfl, rfl⟩) ⟨by rw [y]; rfl, by rw [y5]; rfl, trivial⟩ t0 (by rw [y]; rfl) x1 ?_ ?_
  · intro M2 e fl q
    rw [fe_182_83]
    refine m_unfine (by rw [fl.1]; exact e) (zC_i (by decide) ⟨fun _ => ?_, fun z => absurd rfl z⟩)
    exact bad101 M2 _ _ e (.inl ⟨e, rfl, rfl⟩) (kq q) fl.1 fl.2.1
  · intro M2 t e1 e2 e3 e4 e5 q
    rw [fe_182_83]
    refine m_fine e5 (zC_i (by decide) ⟨fun z => absurd z (by decide), fun _ => ?_⟩)
    refine m_isOver (d := d + 6) hT e4 ?_
    intro M3 f1 f2
    have n3 : nJ M1 M3 := nJ_trans q (nJ_of (nG_of f2))
    have b3 : M3 154 6 = 0 := by rw [nF_bad f2]; exact e5
    by_cases c : tKi T n (gIn T n G 1000 [] 0 false).2.2.2.1 (gIn T n G 1000 [] 0 false).2.2.2.2 = 0
    · rw [fl_t c]
      refine zC_i (by decide) ⟨fun _ => ?_, fun z => absurd (by decide) z⟩
      rw [fe_182_101]
      refine m_isRead b3 (zC_i (by decide) ⟨fun _ => ?_, fun z => absurd (by decide) z⟩)
      refine hK1 _ t e1 c e2 ⟨by rw [zUp_there (by decide), zUp_there (by decide), f2.2 28 (by decide) (by decide) (by decide) (by decide)]; exact e3.1, by rw [zUp_away (by decide), zUp_away (by decide), f2.1 165 (by decide)]; exact e3.2.1, fun k k0 k1 => by rw [zUp_away (by decide), zUp_away (by decide), f2.1 165 (by decide)]; exact e3.2.2 k k0 k1⟩ (by rw [zUp_there (by decide), zUp_here]) zUp_here (kr (kq n3))
    · rw [fl_f c]
      refine zC_i (by decide) ⟨fun z => absurd rfl z, fun _ => ?_⟩
      refine m_unlike (d := d + 6) hT f1 b3 ?_
      intro M4 g1 g2
      refine bad101 _ 1 _ (by decide) (.inr ⟨e1, c, rfl, rfl⟩) (kq (nJ_trans n3 (nJ_trans (nJ_of (nG_of g2)) nJ_bad))) (by rw [zUp_there (by decide), zUp_here]) zUp_here
