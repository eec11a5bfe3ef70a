/-! LAYER 3: an input's text, read by the class -/
theorem gSP_b {G : Mm} {l q : Int} (hg : gLn G) (h0 : 0 ≤ l) (h1 : l < G 4 0) (hq : 0 ≤ q) : -1 ≤ gSP G l q ∧ gSP G l q < 6 := by
  have c0 := hg.1
  obtain ⟨_, _, _, c3, c4, c5⟩ := hg.2.1 l h0 h1
  unfold gSP gNeed
  by_cases c : G 8 l - G 9 l ≤ q
  · rw [if_pos c]
    by_cases e : G 9 l = 0
    · rw [if_pos e]; omega
    · rw [if_neg e]
      have := c5 (G 8 l - 1) (by omega) (by omega)
      omega
  · rw [if_neg c]
    have := c5 q hq (by omega)
    omega
theorem x_sop {d : Nat} {M G : Mm} {K : Kt} {l q : Int} (hg : gLn G) (hx : xG G M) (h0 : 0 ≤ l) (h1 : l < G 4 0) (hq : 0 ≤ q ∧ q ≤ 80) (hK : K (gSP G l q) M) : zSp (d + 2) 30 [.inr (.inr 4), .inl l, .inl q] M K := by
  have c0 := hg.1
  have nb := gNeed_b hg h0 h1
  obtain ⟨_, _, _, c3, c4, c5⟩ := hg.2.1 l h0 h1
  have e8 : M (4 + 4) = G 8 := hx 8 (by decide) (by decide)
  have e9 : M (4 + 5) = G 9 := hx 9 (by decide) (by decide)
  have e10 : M (4 + 6) = G 10 := hx 10 (by decide) (by decide)
  unfold gSP at hK
  rw [me_30]
  refine zC_i rfl (x_needed hg hx h0 h1 ?_)
  refine zC_i (zr (by omega) (by omega)) (zC_i (zr (by omega) (by omega)) ⟨fun c => ?_, fun c => ?_⟩)
  · rw [if_pos c] at hK
    rw [e9, e8]
    refine zC_i rfl (zC_i rfl (zC_i (zs h0 (show l < 24 by omega)) (zC_i (zr (by omega) (by omega)) ⟨fun e => ?_, fun e => ?_⟩)))
    · rw [if_pos e] at hK; exact hK
    · rw [if_neg e] at hK
      refine zC_i rfl (zC_i rfl (zC_i (zs h0 (show l < 24 by omega)) (zC_i rfl ?_)))
      rw [me_28, e10]
      exact zC_i rfl (zC_i rfl (zC_i (zs (by omega) (show l * 4 + (G 8 l - 1) < 96 by omega)) hK))
  · rw [if_neg c] at hK
    refine zC_i rfl ?_
    rw [me_28, e10]
    exact zC_i rfl (zC_i rfl (zC_i (zs (by omega) (show l * 4 + q < 96 by omega)) hK))
def xFs (M : Mm) : Int → List Tr → Prop
  | _, [] => True
  | e, f :: L => (∀ k, 0 ≤ k → k < tSz f → M 47 (lsz L + k) = tNm (tSub f k) ∧ (k ≠ 0 → M 48 (lsz L + k) = tKd (tSub f k))) ∧ M 48 (lsz L) = tKd f + e ∧ M 135 (L.length : Int) = lsz L ∧ xFs M 1 L
theorem xFs_fr {M M' : Mm} : ∀ (L : List Tr) (e : Int), (∀ i, 0 ≤ i → i < lsz L → M' 47 i = M 47 i ∧ M' 48 i = M 48 i) → (∀ j, 0 ≤ j → j < (L.length : Int) → M' 135 j = M 135 j) → xFs M e L → xFs M' e L
  | [], _, _, _, _ => trivial
  | f :: L, e, h1, h2, ⟨a1, a2, a3, a4⟩ => by
    have nn := lsz_nn L
    have q := tSz_pos f
    have hl : lsz (f :: L) = tSz f + lsz L := rfl
    have hn : ((f :: L).length : Int) = L.length + 1 := by show ((L.length + 1 : Nat) : Int) = _; omega
    refine ⟨fun k k0 k1 => ?_, ?_, ?_, xFs_fr L 1 (fun i i0 i1 => h1 i i0 (by omega)) (fun j j0 j1 => h2 j j0 (by omega)) a4⟩
    · have x := h1 (lsz L + k) (by omega) (by omega)
      rw [x.1, x.2]; exact a1 k k0 k1
    · rw [(h1 (lsz L) (by omega) (by omega)).2]; exact a2
    · rw [h2 _ (by omega) (by omega)]; exact a3
def xIn (L : List Tr) (M : Mm) : Prop := M 134 4 = (L.length : Int) ∧ M 46 1 = lsz L ∧ xFs M 0 L
def xDn (t : Tr) (M : Mm) : Prop := M 134 4 = 0 ∧ M 46 1 = tSz t ∧ ∀ k, 0 ≤ k → k < tSz t → M 47 k = tNm (tSub t k) ∧ M 48 k = tKd (tSub t k)
def xSt (L : List Tr) (M : Mm) : Option Tr → Prop
  | none => xIn L M
  | some t => xDn t M
/-- a node was added, its part told above -/
def xAd (l : Int) (L : List Tr) (M : Mm) : Prop := M 134 4 = (L.length : Int) ∧ M 46 1 = lsz L + 1 ∧ M 47 (lsz L) = l ∧ M 48 (lsz L) = 0 ∧ xFs M 1 L
/-- what the class changes when it reads an input -/
def xW (M M' : Mm) : Prop := (∀ c, c ≠ 2 → c ≠ 46 → c ≠ 47 → c ≠ 48 → c ≠ 134 → c ≠ 135 → M' c = M c) ∧ (∀ j, j ≠ 2 → j ≠ 3 → j ≠ 4 → j ≠ 5 → M' 2 j = M 2 j)
theorem xW_refl {M : Mm} : xW M M := ⟨fun _ _ _ _ _ _ _ => rfl, fun _ _ _ _ _ => rfl⟩
theorem xW_trans {M M' M'' : Mm} (h : xW M M') (h' : xW M' M'') : xW M M'' := ⟨fun c a b e f g i => by rw [h'.1 c a b e f g i, h.1 c a b e f g i], fun j a b c d => by rw [h'.2 j a b c d, h.2 j a b c d]⟩
theorem xW_of {M M' : Mm} (h : xF M M') : xW M M' := ⟨fun c a _ _ _ _ _ => h.1 c a, h.2⟩
theorem xG_W {G M M' : Mm} (h : xG G M) (w : xW M M') : xG G M' := xG_fr h fun c c1 c2 => w.1 c (by omega) (by omega) (by omega) (by omega) (by omega) (by omega)
theorem xIn_F {L : List Tr} {M M' : Mm} (h : xIn L M) (f : xF M M') : xIn L M' := ⟨by rw [f.1 134 (by decide)]; exact h.1, by rw [f.1 46 (by decide)]; exact h.2.1, xFs_fr L 0 (fun i _ _ => ⟨by rw [f.1 47 (by decide)], by rw [f.1 48 (by decide)]⟩) (fun j _ _ => by rw [f.1 135 (by decide)]) h.2.2⟩
theorem xAd_F {l : Int} {L : List Tr} {M M' : Mm} (h : xAd l L M) (f : xF M M') : xAd l L M' := ⟨by rw [f.1 134 (by decide)]; exact h.1, by rw [f.1 46 (by decide)]; exact h.2.1, by rw [f.1 47 (by decide)]; exact h.2.2.1, by rw [f.1 48 (by decide)]; exact h.2.2.2.1, xFs_fr L 1 (fun i _ _ => ⟨by rw [f.1 47 (by decide)], by rw [f.1 48 (by decide)]⟩) (fun j _ _ => by rw [f.1 135 (by decide)]) h.2.2.2.2⟩
theorem tNm_op {f s : Tr} : tNm (.op f s) = tNm f := rfl
theorem tKd_op {f s : Tr} : tKd (.op f s) = tKd f + 1 := rfl
theorem tSz_op {f s : Tr} : tSz (.op f s) = tSz f + tSz s := rfl
/-- the new node is a leaf -/
theorem xAd_leaf {l : Int} {L : List Tr} {M : Mm} (hl : 0 ≤ l) (h : xAd l L M) : xSt (gPut l 0 L).1 M (gPut l 0 L).2 := by
  obtain ⟨h1, h2, h3, h4, h5⟩ := h
  have e : ((l.toNat : Nat) : Int) = l := by omega
  unfold gPut
  rw [if_neg (by decide)]
  match L, h1, h2, h3, h4, h5 with
  | [], h1, h2, h3, h4, h5 =>
    refine ⟨h1, h2, fun k k0 k1 => ?_⟩
    have k1 : k < 1 := k1
    rw [show k = 0 by omega, tSub_0]
    exact ⟨by rw [show (0 : Int) = lsz [] from rfl, h3]; exact e.symm, h4⟩
  | f :: R, h1, h2, h3, h4, ⟨a1, a2, a3, a4⟩ =>
    have q := tSz_pos f
    have hs : lsz (f :: R) = tSz f + lsz R := rfl
    refine ⟨h1, ?_, fun k k0 k1 => ?_, ?_, a3, a4⟩
    · rw [h2]
      show tSz f + lsz R + 1 = tSz f + 1 + lsz R
      omega
    · have k1 : k < tSz f + 1 := k1
      by_cases c : k = tSz f
      · rw [tSub_s (by omega), show lsz R + k = lsz (f :: R) by omega, h3, h4, show k - tSz f = 0 by omega, tSub_0]
        exact ⟨e.symm, fun _ => rfl⟩
      · by_cases c0 : k = 0
        · rw [c0, tSub_0, tNm_op]
          have := (a1 0 (by omega) (by omega)).1
          rw [tSub_0] at this
          exact ⟨this, fun q => absurd rfl q⟩
        · rw [tSub_f c0 (by omega)]
          exact a1 k k0 (by omega)
    · rw [a2, tKd_op]; omega
/-- the new node is open -/
theorem xAd_form {l : Int} {L : List Tr} {M M' : Mm} (hl : 0 ≤ l) (h : xAd l L M) (f1 : M' 134 4 = L.length + 1) (f2 : ∀ j, M' 135 j = if j = (L.length : Int) then lsz L else M 135 j) (f3 : M' 46 = M 46) (f4 : M' 47 = M 47) (f5 : M' 48 = M 48) : xSt (gPut l 1 L).1 M' (gPut l 1 L).2 := by
  obtain ⟨h1, h2, h3, h4, h5⟩ := h
  have e : ((l.toNat : Nat) : Int) = l := by omega
  unfold gPut
  rw [if_pos rfl]
  refine ⟨?_, ?_, fun k k0 k1 => ?_, ?_, ?_, xFs_fr L 1 (fun i _ _ => ⟨by rw [f4], by rw [f5]⟩) (fun j j0 j1 => by rw [f2, if_neg (by omega)]) h5⟩
  · rw [f1]
    show _ = ((L.length + 1 : Nat) : Int)
    omega
  · rw [f3, h2]
    show _ = 1 + lsz L
    omega
  · have k1 : k < 1 := k1
    rw [show k = 0 by omega, tSub_0, f4, show lsz L + 0 = lsz L by omega, h3]
    exact ⟨e.symm, fun q => absurd rfl q⟩
  · rw [f5, h4]; rfl
  · rw [f2, if_pos rfl]
def xPI (T : Int → Int) (n : Int) (K : Kt) (M : Mm) (s : Sr) : Prop := (∀ M', s.1 ≠ 0 → xW M M' → K 0 (zUp (zUp M' 2 6 s.1) 2 7 s.2.1)) ∧ (∀ M', s.1 = 0 → xSt s.2.2.1 M' s.2.2.2.1 → xTk T n s.2.2.2.2.1 s.2.2.2.2.2 M' → xW M M' → K 1 M')
theorem xPI_q {T : Int → Int} {n : Int} {K : Kt} {M M1 : Mm} {s : Sr} (h : xPI T n K M s) (q : xW M M1) : xPI T n K M1 s := ⟨fun M' a b => h.1 M' a (xW_trans q b), fun M' a b c e => h.2 M' a b c (xW_trans q e)⟩
theorem hdT_b {G : Mm} {L : List Tr} (h : lOk G L) (hl : 0 < (L.length : Int)) : ∃ f R, L = f :: R ∧ hdT L = f ∧ tVal (G 4 0) f ∧ tKd f < tSz f ∧ tSz f + lsz R ≤ 80 ∧ 0 ≤ tKd f ∧ 0 ≤ lsz R := by
  match L, h, hl with
  | [], _, hl => exact absurd hl (by decide)
  | f :: R, h, _ =>
    have h2 : tSz f + lsz R ≤ 80 := h.2.1
    exact ⟨f, R, rfl, rfl, h.1 f (List.mem_cons_self ..), tKd_lt f, h2, tKd_nn f, lsz_nn R⟩
/-- the node above, by its place -/
def xAb (x3 : Int) (L : List Tr) : Prop := (x3 = -1 ∧ L = []) ∨ ∃ f R, L = f :: R ∧ x3 = lsz R
/-- what a name does: its fault, or the node is added -/
theorem x_name41 {d : Nat} {T : Int → Int} {n p fm : Int} {w : Bool} {G M : Mm} {L : List Tr} {K : Kt} (hT : tpOk T n) (hg : gLn G) (hx : xG G M) (hL : lOk G L) (hf : fm = 0 ∨ fm = 1) (h : xTk T n p w M) (hi : xIn L M)
    (hK0 : (gNo T n G L fm p w).1 ≠ 0 → K 0 (zUp (zUp M 2 6 (gNo T n G L fm p w).1) 2 7 (gNo T n G L fm p w).2.1))
    (hK1 : ∀ M', (gNo T n G L fm p w) = (0, 0, (gPut (gLf G (tVa T n p)) fm L).1, (gPut (gLf G (tVa T n p)) fm L).2, tEn T n p, true) → 0 ≤ gLf G (tVa T n p) → xAd (gLf G (tVa T n p)) L M' → xTk T n (tEn T n p) true M' → xW M M' → K 1 M') : zSp (d + 4) 41 [.inr (.inr 134), .inl fm] M K := by
  have c0 := hg.1
  have pn := h.2.2.2.2.2.2
  obtain ⟨i1, i2, i3⟩ := hi
  have l2 := hL.2.1
  have l3 := hL.2.2
  have nn := lsz_nn L
  have e6 : M 6 = G 6 := hx 6 (by decide) (by decide)
  have e7 : M 7 = G 7 := hx 7 (by decide) (by decide)
  unfold gNo at hK0 hK1
  rw [me_41]
  refine x_isName h ?_
  by_cases c1 : isNm T n p w
  · rw [fl_t c1]
    rw [if_pos c1] at hK0 hK1
    have vb := tVa_1 pn c1.1
    have v5 : M 2 5 = tVa T n p := h.2.2.2.2.1 (by rw [c1.1]; decide) (by rw [c1.1]; decide)
    refine zC_i (by decide) ⟨fun _ => ?_, fun q => absurd (by decide) q⟩
    rw [v5]
    refine x_lineOf hg hx (zr (by omega) (by omega)) ?_
    have lf := gLf_s (v := tVa T n p) hg
    refine zC_i (zr (by omega) (by omega)) ⟨fun c2 => ?_, fun c2 => ?_⟩
    · rw [if_neg c2] at hK0 hK1
      rw [i2]
      refine zC_i (zr (by omega) (by omega)) ⟨fun c3 => ?_, fun c3 => ?_⟩
      · rw [if_neg c3] at hK0 hK1
        rw [i1]
        have lb := (hg.2.1 _ (show 0 ≤ gLf G (tVa T n p) by omega) (by omega)).2.2.1
        have fb := (hg.2.1 _ (show 0 ≤ gLf G (tVa T n p) by omega) (by omega)).2.1
        -- what follows when the sort that is due is known
        have go : ∀ x3 : Int, xAb x3 L → -1 ≤ gDue G L ∧ gDue G L < 6 → zWp (zSp (d + 3)) 41 K 126 [some (.inr (.inr 134)), some (.inl fm), some (.inl (gLf G (tVa T n p))), some (.inl x3), none] [.inl (gDue G L)] M := by
          intro x3 hx3 db
          have bad : ¬ (G 6 (gLf G (tVa T n p)) = fm ∧ G 7 (gLf G (tVa T n p)) = gDue G L) → ∀ x4, zWp (zSp (d + 3)) 41 K 155 [some (.inr (.inr 134)), some (.inl fm), some (.inl (gLf G (tVa T n p))), some (.inl x3), some (.inl x4)] [] M := by
            intro c4 x4
            rw [if_neg c4] at hK0
            rw [fe_41_155]
            exact x_fail h (zC_i (by decide) (hK0 (show (5 : Int) ≠ 0 by decide)))
          -- the node is added
          have add : ∀ (M1 : Mm) (x4 : Int), G 6 (gLf G (tVa T n p)) = fm ∧ G 7 (gLf G (tVa T n p)) = gDue G L → (∀ c, c ≠ 48 → M1 c = M c) → (∀ i, lsz L ≤ i → M1 48 i = M 48 i) → xFs M1 1 L → zWp (zSp (d + 3)) 41 K 182 [some (.inr (.inr 134)), some (.inl fm), some (.inl (gLf G (tVa T n p))), some (.inl x3), some (.inl x4)] [] M1 := by
            intro M1 x4 c4 f1 f2 f3
            rw [if_pos c4] at hK1
            rw [fe_41_182]
            refine x_addNode (d := d + 2) (n := lsz L) (by unfold xT; decide) (by rw [f1 46 (by decide)]; exact i2) (by omega) ?_
            intro M2 g1 g2 g3 g4 g5
            have t2 : xTk T n p w M2 := xTk_fr h (fun j _ _ => by rw [g5 2 (by decide) (by decide) (by decide), f1 2 (by decide)]) (by rw [g5 3 (by decide) (by decide) (by decide), f1 3 (by decide)])
            refine x_adv (d := d) hT t2 ?_
            intro M3 k1 k2 k3
            have e : decide (tKi T n p w = 1 ∨ tKi T n p w = 2) = true := decide_eq_true_iff.mpr (.inl c1.1)
            rw [e] at k1
            have a2 : xAd (gLf G (tVa T n p)) L M2 := by
              refine ⟨by rw [g5 134 (by decide) (by decide) (by decide), f1 134 (by decide)]; exact i1, g1, by rw [show M2 47 = M2 (46 + 1) from rfl, g3, if_pos rfl], by rw [show M2 48 = M2 (46 + 2) from rfl, g4, if_pos rfl], xFs_fr L 1 (fun i i0 i1 => ⟨?_, ?_⟩) (fun j _ _ => by rw [g5 135 (by decide) (by decide) (by decide)]) f3⟩
              · rw [show M2 47 = M2 (46 + 1) from rfl, g3, if_neg (by omega)]
              · rw [show M2 48 = M2 (46 + 2) from rfl, g4, if_neg (by omega)]
            refine hK1 M3 rfl (by omega) (xAd_F a2 ⟨k3, k2⟩) k1 ⟨fun c h1 h2 h3 h4 h5 h6 => by rw [k3 c h1, g5 c h2 h3 h4, f1 c h4], fun j j1 j2 j3 j4 => by rw [k2 j j1 j2 j3 j4, g5 2 (by decide) (by decide) (by decide), f1 2 (by decide)]⟩
          rw [fe_41_126, e6, e7]
          refine zC_i (zs (by omega) (show gLf G (tVa T n p) < 24 by omega)) (zC_i (zr (by omega) (by omega)) (zC_i (zr (by omega) (by omega)) ⟨fun c4 => bad (fun q => c4 q.1) _, fun c4 => ?_⟩))
          refine zC_i (zs (by omega) (show gLf G (tVa T n p) < 24 by omega)) (zC_i (zr (by omega) (by omega)) (zC_i (zr (by omega) (by omega)) ⟨fun c5 => ?_, fun c5 => bad (fun q => c5 q.2) _⟩))
          have c45 : G 6 (gLf G (tVa T n p)) = fm ∧ G 7 (gLf G (tVa T n p)) = gDue G L := ⟨Decidable.not_not.mp c4, c5⟩
          rcases hx3 with ⟨e3, eL⟩ | ⟨f, R, eL, e3⟩
          · rw [e3] at add ⊢
            refine zC_i (by decide) ⟨fun _ => add M _ c45 (fun _ _ => rfl) (fun _ _ => rfl) (by rw [eL]; trivial), fun q => absurd rfl q⟩
          · have nr := lsz_nn R
            have qf := tSz_pos f
            have hs : lsz L = tSz f + lsz R := by rw [eL]; rfl
            have sm : zSm x3 80 = true := zs (by omega) (by omega)
            refine zC_i (zr (by omega) (by omega)) ⟨fun q => by omega, fun _ => zC_i sm (zC_i sm ?_)⟩
            refine add _ _ c45 (fun c hc => zUp_away hc) (fun i hi => zUp_there (by omega)) ?_
            rw [eL] at i3 ⊢
            obtain ⟨a1, a2, a3, a4⟩ := i3
            refine ⟨fun k k0 k1 => ?_, ?_, by rw [zUp_away (by decide)]; exact a3, xFs_fr R 1 (fun i i0 i1 => ⟨by rw [zUp_away (by decide)], by rw [zUp_there (by omega)]⟩) (fun j _ _ => by rw [zUp_away (by decide)]) a4⟩
            · have := a1 k k0 k1
              refine ⟨by rw [zUp_away (by decide)]; exact this.1, fun kn => ?_⟩
              rw [zUp_there (by omega)]
              exact this.2 kn
            · rw [e3, zUp_here, a2]; omega
        refine zC_i (zr (by omega) (by omega)) ⟨fun c4 => ?_, fun c4 => ?_⟩
        · have eL : L = [] := by
            match L, c4 with
            | [], _ => rfl
            | f :: R, c4 =>
              have c4 : ((R.length + 1 : Nat) : Int) ≤ 0 := c4
              omega
          rw [fe_41_91]
          refine zC_i (by decide) ⟨fun q => absurd rfl q, fun _ => ?_⟩
          have g := go (-1) (.inl ⟨rfl, eL⟩) (by rw [eL]; exact ⟨by show (-1 : Int) ≤ 0; decide, by show (0 : Int) < 6; decide⟩)
          have e0 : gDue G L = 0 := by rw [eL]; rfl
          rw [e0] at g
          exact g
        · obtain ⟨f, R, eL, eh, tv, b1, b2, b3, b4⟩ := hdT_b hL (by omega)
          have eR : (L.length : Int) - 1 = R.length := by
            rw [eL]
            show ((R.length + 1 : Nat) : Int) - 1 = _
            omega
          have nm := tVal_nm f tv
          refine zC_i (zs (by omega) (by omega)) ?_
          rw [eR]
          have i3' : xFs M 0 (f :: R) := by rw [← eL]; exact i3
          obtain ⟨a1, a2, a3, a4⟩ := i3'
          have n0 := (a1 0 (by omega) (by omega)).1
          rw [show lsz R + 0 = lsz R by omega, tSub_0] at n0
          rw [a3, fe_41_91, n0, a2]
          have sm : zSm (lsz R) 80 = true := zs b4 (by omega)
          refine zC_i (zr (by omega) (by omega)) ⟨fun _ => zC_i sm (zC_i sm ?_), fun q => absurd (by omega) q⟩
          refine x_sop hg hx nm.1 nm.2 (by omega) ?_
          have g := go (lsz R) (.inr ⟨f, R, eL, rfl⟩) (by rw [eL]; exact gSP_b hg nm.1 nm.2 b3)
          have e0 : gDue G L = gSP G (tNm f) (tKd f + 0) := by rw [eL, show tKd f + 0 = tKd f by omega]; rfl
          rw [e0] at g
          exact g
      · rw [if_pos (Decidable.not_not.mp c3)] at hK0
        exact x_fail h (zC_i (by decide) (hK0 (show (4 : Int) ≠ 0 by decide)))
    · rw [if_pos (Decidable.not_not.mp c2)] at hK0
      exact x_fail h (zC_i (by decide) (hK0 (show (3 : Int) ≠ 0 by decide)))
  · rw [fl_f c1]
    rw [if_neg c1] at hK0
    exact zC_i (by decide) ⟨fun q => absurd rfl q, fun _ => x_fail h (zC_i (by decide) (hK0 (show (1 : Int) ≠ 0 by decide)))⟩
