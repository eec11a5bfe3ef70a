/-! LAYER 3: an input's text, read by the reference -/
theorem m_ofL {d : Nat} {M G : Mm} {K : Kt} {l a : Int} (hg : gLn G) (h0 : 0 ≤ l) (h1 : l < G 4 0) (ha : 0 ≤ a ∧ a < 8) (hK : K (M 156 (8 * l + a)) M) : zSp (d + 1) 170 [.inr (.inr 154), .inl l, .inl a] M K := by
  have c0 := hg.1
  rw [me_170]
  exact zC_i (zs (by omega) (by omega)) hK
theorem m_sop {d : Nat} {M G : Mm} {K : Kt} {l q : Int} (hg : gLn G) (hx : mG G M) (h0 : 0 ≤ l) (h1 : l < G 4 0) (hq : 0 ≤ q ∧ q ≤ 80) (hK : K (gSP G l q) M) : zSp (d + 3) 173 [.inr (.inr 154), .inl l, .inl q] M K := by
  have c0 := hg.1
  have nb := gNeed_b hg h0 h1
  obtain ⟨_, _, _, c3, c4, c5⟩ := hg.2.1 l h0 h1
  obtain ⟨_, _, _, x4, x5, x6⟩ := hx.2.2.1 l h0 h1
  unfold gSP at hK
  rw [me_173]
  refine m_fixed hg hx h0 h1 ?_
  refine zC_i (zr (by omega) (by omega)) (zC_i (zr (by omega) (by omega)) ⟨fun c => ?_, fun c => ?_⟩)
  · rw [if_pos c] at hK
    refine m_ofL hg h0 h1 (by decide) ?_
    rw [x5]
    refine zC_i (zr (by omega) (by omega)) ⟨fun e => ?_, fun e => ?_⟩
    · rw [if_pos (by omega)] at hK; exact hK
    · rw [if_neg (by omega)] at hK
      refine m_ofL hg h0 h1 (by decide) ?_
      rw [x4]
      refine m_ofL hg h0 h1 (by omega) ?_
      rw [show 8 * l + (4 + G 8 l - 1) = 8 * l + (4 + (G 8 l - 1)) by omega, x6 _ (by omega) (by omega)]
      exact hK
  · rw [if_neg c] at hK
    refine m_ofL hg h0 h1 (by omega) ?_
    rw [x6 _ (by omega) (by omega)]
    exact hK
def mFs (M : Mm) : Int → List Tr → Prop
  | _, [] => True
  | e, f :: L => (∀ k, 0 ≤ k → k < tSz f → M 165 (322 + 1 + (lsz L + k)) = tNm (tSub f k) ∧ (k ≠ 0 → M 165 (322 + 81 + (lsz L + k)) = tSz (tSub f k))) ∧ M 167 (L.length : Int) = tKd f + e ∧ M 166 (L.length : Int) = lsz L ∧ mFs M 1 L
theorem mFs_fr {M M' : Mm} : ∀ (L : List Tr) (e : Int), (∀ i, 0 ≤ i → i < lsz L → M' 165 (322 + 1 + i) = M 165 (322 + 1 + i) ∧ M' 165 (322 + 81 + i) = M 165 (322 + 81 + i)) → (∀ j, 0 ≤ j → j < (L.length : Int) → M' 166 j = M 166 j ∧ M' 167 j = M 167 j) → mFs M e L → mFs M' e L
  | [], _, _, _, _ => trivial
  | f :: L, e, h1, h2, ⟨a1, a2, a3, a4⟩ => by
    have nn := lsz_nn L
    have q := tSz_pos f
    have hl : lsz (f :: L) = tSz f + lsz L := rfl
    have hn : ((f :: L).length : Int) = L.length + 1 := by show ((L.length + 1 : Nat) : Int) = _; omega
    have y := h2 (L.length : Int) (by omega) (by omega)
    refine ⟨fun k k0 k1 => ?_, by rw [y.2]; exact a2, by rw [y.1]; exact a3, mFs_fr L 1 (fun i i0 i1 => h1 i i0 (by omega)) (fun j j0 j1 => h2 j j0 (by omega)) a4⟩
    have x := h1 (lsz L + k) (by omega) (by omega)
    rw [x.1, x.2]; exact a1 k k0 k1
def mIn (L : List Tr) (M : Mm) : Prop := M 154 28 = (L.length : Int) ∧ M 165 322 = lsz L ∧ mFs M 0 L
def mDn (t : Tr) (M : Mm) : Prop := M 154 28 = 0 ∧ M 165 322 = tSz t ∧ ∀ k, 0 ≤ k → k < tSz t → M 165 (322 + 1 + k) = tNm (tSub t k) ∧ M 165 (322 + 81 + k) = tSz (tSub t k)
def mSt (L : List Tr) (M : Mm) : Option Tr → Prop
  | none => mIn L M
  | some t => mDn t M
/-- a node was added -/
def mAd (l : Int) (L : List Tr) (M : Mm) : Prop := M 154 28 = (L.length : Int) ∧ M 165 322 = lsz L + 1 ∧ M 165 (322 + 1 + lsz L) = l ∧ M 165 (322 + 81 + lsz L) = 1 ∧ mFs M 1 L
/-- what the reference changes when it reads an input -/
def nJ (M M' : Mm) : Prop := (∀ c, c ≠ 154 → c ≠ 165 → c ≠ 166 → c ≠ 167 → M' c = M c) ∧ (∀ i, (i < 322 ∨ 483 ≤ i) → M' 165 i = M 165 i) ∧ (∀ j, (j < 4 ∨ (13 < j ∧ j ≠ 28) ∨ j = 8 ∨ j = 9) → M' 154 j = M 154 j)
theorem nJ_refl {M : Mm} : nJ M M := ⟨fun _ _ _ _ _ => rfl, fun _ _ => rfl, fun _ _ => rfl⟩
theorem nJ_trans {M M' M'' : Mm} (h : nJ M M') (h' : nJ M' M'') : nJ M M'' := ⟨fun c a b e f => by rw [h'.1 c a b e f, h.1 c a b e f], fun i hi => by rw [h'.2.1 i hi, h.2.1 i hi], fun j hj => by rw [h'.2.2 j hj, h.2.2 j hj]⟩
theorem nJ_of {M M' : Mm} (h : nG M M') : nJ M M' := ⟨fun c a _ _ _ => h.1 c a, fun i _ => by rw [h.1 165 (by decide)], fun j hj => h.2 j (by omega) (by omega) (by omega) (by omega) (by omega) (by omega)⟩
theorem nJ_bad {M : Mm} {k q : Int} : nJ M (zUp (zUp M 154 6 k) 154 7 q) := ⟨fun c a _ _ _ => by rw [zUp_away a, zUp_away a], fun i _ => by rw [zUp_away (by decide), zUp_away (by decide)], fun j hj => by rw [zUp_there (by omega), zUp_there (by omega)]⟩
theorem mG_I {G M M' : Mm} (h : mG G M) (q : nJ M M') : mG G M' := mG_fr h (q.1 156 (by decide) (by decide) (by decide) (by decide)) (q.1 157 (by decide) (by decide) (by decide) (by decide)) (q.1 158 (by decide) (by decide) (by decide) (by decide)) (q.1 162 (by decide) (by decide) (by decide) (by decide)) (q.1 163 (by decide) (by decide) (by decide) (by decide))
theorem mIn_G {L : List Tr} {M M' : Mm} (h : mIn L M) (f : nG M M') : mIn L M' := ⟨by rw [f.2 28 (by decide) (by decide) (by decide) (by decide) (by decide) (by decide)]; exact h.1, by rw [f.1 165 (by decide)]; exact h.2.1, mFs_fr L 0 (fun i _ _ => ⟨by rw [f.1 165 (by decide)], by rw [f.1 165 (by decide)]⟩) (fun j _ _ => ⟨by rw [f.1 166 (by decide)], by rw [f.1 167 (by decide)]⟩) h.2.2⟩
theorem mAd_leaf {l : Int} {L : List Tr} {M : Mm} (hl : 0 ≤ l) (h : mAd l L M) : mSt (gPut l 0 L).1 M (gPut l 0 L).2 := by
  obtain ⟨h1, h2, h3, h4, h5⟩ := h
  have e : ((l.toNat : Nat) : Int) = l := by omega
  unfold gPut
  rw [if_neg (by decide)]
  match L, h1, h2, h3, h4, h5 with
  | [], h1, h2, h3, h4, h5 =>
    refine ⟨h1, h2, fun k k0 k1 => ?_⟩
    have k1 : k < 1 := k1
    rw [show k = 0 by omega, tSub_0]
    exact ⟨by rw [show (0 : Int) = lsz [] from rfl, h3]; exact e.symm, h4⟩
  | f :: R, h1, h2, h3, h4, ⟨a1, a2, a3, a4⟩ =>
    have q := tSz_pos f
    have hs : lsz (f :: R) = tSz f + lsz R := rfl
    refine ⟨h1, ?_, fun k k0 k1 => ?_, ?_, a3, a4⟩
    · rw [h2]
      show tSz f + lsz R + 1 = tSz f + 1 + lsz R
      omega
    · have k1 : k < tSz f + 1 := k1
      by_cases c : k = tSz f
      · rw [tSub_s (by omega), show lsz R + k = lsz (f :: R) by omega, h3, h4, show k - tSz f = 0 by omega, tSub_0]
        exact ⟨e.symm, fun _ => rfl⟩
      · by_cases c0 : k = 0
        · rw [c0, tSub_0, tNm_op]
          have := (a1 0 (by omega) (by omega)).1
          rw [tSub_0] at this
          exact ⟨this, fun q => absurd rfl q⟩
        · rw [tSub_f c0 (by omega)]
          exact a1 k k0 (by omega)
    · rw [a2, tKd_op]; omega
theorem mAd_form {l : Int} {L : List Tr} {M M' : Mm} (hl : 0 ≤ l) (h : mAd l L M) (f1 : M' 154 28 = L.length + 1) (f2 : ∀ j, M' 166 j = if j = (L.length : Int) then lsz L else M 166 j) (f3 : ∀ j, M' 167 j = if j = (L.length : Int) then 0 else M 167 j) (f4 : M' 165 = M 165) : mSt (gPut l 1 L).1 M' (gPut l 1 L).2 := by
  obtain ⟨h1, h2, h3, h4, h5⟩ := h
  have e : ((l.toNat : Nat) : Int) = l := by omega
  unfold gPut
  rw [if_pos rfl]
  refine ⟨?_, ?_, fun k k0 k1 => ?_, ?_, ?_, mFs_fr L 1 (fun i _ _ => ⟨by rw [f4], by rw [f4]⟩) (fun j j0 j1 => ⟨by rw [f2, if_neg (by omega)], by rw [f3, if_neg (by omega)]⟩) h5⟩
  · rw [f1]
    show _ = ((L.length + 1 : Nat) : Int)
    omega
  · rw [f4, h2]
    show _ = 1 + lsz L
    omega
  · have k1 : k < 1 := k1
    rw [show k = 0 by omega, tSub_0, f4, show lsz L + 0 = lsz L by omega, h3]
    exact ⟨e.symm, fun q => absurd rfl q⟩
  · rw [f3, if_pos rfl]; rfl
  · rw [f2, if_pos rfl]
def mPI (T : Int → Int) (n : Int) (K : Kt) (M : Mm) (s : Sr) : Prop := (∀ M', s.1 ≠ 0 → mFl T n M' s.1 s.2.1 → nJ M M' → K 0 M') ∧ (∀ M', s.1 = 0 → mSt s.2.2.1 M' s.2.2.2.1 → mTk T n s.2.2.2.2.1 s.2.2.2.2.2 M' → M' 154 6 = 0 → nJ M M' → K 0 M')
theorem mPI_q {T : Int → Int} {n : Int} {K : Kt} {M M1 : Mm} {s : Sr} (h : mPI T n K M s) (q : nJ M M1) : mPI T n K M1 s := ⟨fun M' a b c => h.1 M' a b (nJ_trans q c), fun M' a b c e f => h.2 M' a b c e (nJ_trans q f)⟩
theorem m_stands {d : Nat} {G M : Mm} {L : List Tr} {K : Kt} {l fm q : Int} (hg : gLn G) (hx : mG G M) (hL : lOk G L) (hi : mIn L M) (h0 : 0 ≤ l) (h1 : l < G 4 0) (hf : fm = 0 ∨ fm = 1) (hb : M 154 6 = 0) (hK1 : G 6 l = fm ∧ G 7 l = gDue G L → K 0 M) (hK0 : ¬ (G 6 l = fm ∧ G 7 l = gDue G L) → K 0 (zUp (zUp M 154 6 5) 154 7 q)) : zSp (d + 4) 179 [.inr (.inr 154), .inl l, .inl fm, .inl q] M K := by
  have c0 := hg.1
  have l3 := hL.2.2
  obtain ⟨_, fb, sb, _⟩ := hg.2.1 l h0 h1
  obtain ⟨_, x2, x3, _⟩ := hx.2.2.1 l h0 h1
  have bad : ¬ (G 6 l = fm ∧ G 7 l = gDue G L) → ∀ x4 x5, zWp (zSp (d + 3)) 179 K 80 [some (.inr (.inr 154)), some (.inl l), some (.inl fm), some (.inl q), some (.inl x4), some (.inl x5)] [] M := by
    intro c x4 x5
    rw [fe_179_80]
    exact m_fail hb (hK0 c)
  have go : -1 ≤ gDue G L ∧ gDue G L < 6 → zWp (zSp (d + 3)) 179 K 61 [some (.inr (.inr 154)), some (.inl l), some (.inl fm), some (.inl q), some (.inl (G 6 l)), none] [.inl (gDue G L)] M := by
    intro db
    rw [fe_179_61]
    refine zC_i (zr (by omega) (by omega)) (zC_i (zr (by omega) (by omega)) ⟨fun c => bad (fun y => c y.1) _ _, fun c => ?_⟩)
    refine m_ofL hg h0 h1 (by decide) ?_
    rw [x2]
    exact zC_i (zr (by omega) (by omega)) (zC_i (zr (by omega) (by omega)) ⟨fun c2 => hK1 ⟨Decidable.not_not.mp c, c2.symm⟩, fun c2 => bad (fun y => c2 y.2.symm) _ _⟩)
  have mid : zWp (zSp (d + 3)) 179 K 15 [some (.inr (.inr 154)), some (.inl l), some (.inl fm), some (.inl q), none, none] [.inl (G 6 l)] M := by
    rw [fe_179_15, hi.1]
    refine zC_i (zr (by omega) (by omega)) ⟨fun c => ?_, fun c => ?_⟩
    · obtain ⟨f, R, eL, eh, tv, b1, b2, b3, b4⟩ := hdT_b hL (by omega)
      have eR : (L.length : Int) - 1 = R.length := by
        rw [eL]
        show ((R.length + 1 : Nat) : Int) - 1 = _
        omega
      have nm := tVal_nm f tv
      have i3 : mFs M 0 (f :: R) := by rw [← eL]; exact hi.2.2
      obtain ⟨a1, a2, a3, a4⟩ := i3
      have n0 := (a1 0 (by omega) (by omega)).1
      rw [show lsz R + 0 = lsz R by omega, tSub_0] at n0
      rw [eR, a3]
      refine zC_i (zs (by omega) (by omega)) ?_
      rw [me_175, n0]
      refine zC_i (zs (by omega) (by omega)) ?_
      rw [hi.1, eR, a2]
      refine zC_i (zs (by omega) (by omega)) ?_
      refine m_sop hg hx nm.1 nm.2 (by omega) ?_
      have e0 : gDue G L = gSP G (tNm f) (tKd f + 0) := by rw [eL, show tKd f + 0 = tKd f by omega]; rfl
      have g := go (by rw [eL]; exact gSP_b hg nm.1 nm.2 b3)
      rw [e0] at g
      exact g
    · have eL : L = [] := by
        match L, c with
        | [], _ => rfl
        | f :: R, c =>
          have c : ¬ ¬ (((R.length + 1 : Nat) : Int) = 0) := c
          omega
      have g := go (by rw [eL]; exact ⟨by show (-1 : Int) ≤ 0; decide, by show (0 : Int) < 6; decide⟩)
      have e0 : gDue G L = 0 := by rw [eL]; rfl
      rw [e0] at g
      exact g
  rw [me_179]
  refine m_ofL hg h0 h1 (by decide) ?_
  rw [x3]
  refine zC_i (zr (by omega) (by omega)) ⟨fun c => ?_, fun c => ?_⟩
  · rw [show G 6 l = 0 by omega] at mid
    exact mid
  · rw [show G 6 l = 1 by omega] at mid
    exact mid
-- behind a fault
theorem m_un142 {d : Nat} {M : Mm} {K : Kt} {x1 x2 x4 : Int} (h : 1 ≤ M 154 6 ∧ M 154 6 ≤ 5) (hK : K 0 M) : zWp (zSp (d + 1)) 180 K 142 [some (.inr (.inr 154)), some (.inl x1), some (.inr (.inl x2)), none, some (.inl x4), none] [] M := by
  rw [fe_180_142]
  exact m_unfine h (zC_i (by decide) ⟨fun z => absurd rfl z, fun _ => hK⟩)
theorem m_un124 {d : Nat} {M : Mm} {K : Kt} {x1 x2 x4 : Int} (h : 1 ≤ M 154 6 ∧ M 154 6 ≤ 5) (hK : K 0 M) : zWp (zSp (d + 1)) 180 K 124 [some (.inr (.inr 154)), some (.inl x1), some (.inr (.inl x2)), none, some (.inl x4), none] [] M := by
  rw [fe_180_124]
  exact m_unfine h (zC_i (by decide) ⟨fun _ => m_un142 h hK, fun z => absurd rfl z⟩)
theorem m_un96' {d : Nat} {M : Mm} {K : Kt} {x1 x2 x4 : Int} (h : 1 ≤ M 154 6 ∧ M 154 6 ≤ 5) (hK : K 0 M) : zWp (zSp (d + 1)) 180 K 96 [some (.inr (.inr 154)), some (.inl x1), some (.inr (.inl x2)), none, some (.inl x4), none] [] M := by
  rw [fe_180_96]
  exact m_unfine h (zC_i (by decide) ⟨fun _ => m_un124 h hK, fun z => absurd rfl z⟩)
theorem m_un72 {d : Nat} {M : Mm} {K : Kt} {x1 x2 y0 : Int} (h : 1 ≤ M 154 6 ∧ M 154 6 ≤ 5) (hK : K 0 M) : zWp (zSp (d + 1)) 180 K 72 [some (.inr (.inr 154)), some (.inl x1), some (.inr (.inl x2)), none, none, none] [.inl y0] M := by
  rw [fe_180_72]
  exact m_unfine h (zC_i (by decide) ⟨fun _ => m_un96' h hK, fun z => absurd rfl z⟩)
theorem m_un51 {d : Nat} {T : Int → Int} {n k q : Int} {M : Mm} {K : Kt} {x1 : Int} (hT : tpOk T n) (h : mFl T n M k q) (hk : 1 ≤ k ∧ k ≤ 5) (hK : ∀ M', mFl T n M' k q → nJ M M' → K 0 M') : zWp (zSp (d + 5)) 180 K 51 [some (.inr (.inr 154)), some (.inl x1), none, none, none, none] [] M := by
  obtain ⟨h1, h2, p, w, h3⟩ := h
  rw [fe_180_51]
  refine m_unname (d := d) hT h3 (by omega) ?_
  intro M1 f1 f2
  have b1 : M1 154 6 = k := by rw [nG_bad f2]; exact h1
  refine m_unfine (by omega) (zC_i (by decide) ⟨fun _ => m_un72 (by omega) ?_, fun z => absurd rfl z⟩)
  exact hK M1 ⟨b1, by rw [f2.2 7 (by decide) (by decide) (by decide) (by decide) (by decide) (by decide)]; exact h2, p, w, f1⟩ (nJ_of f2)
