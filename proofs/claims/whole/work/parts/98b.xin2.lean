/-! LAYER 3: an input's text, read by the class: turns -/
theorem x_node40 {d : Nat} {T : Int → Int} {n p : Int} {w : Bool} {G M : Mm} {L : List Tr} {K : Kt} (hT : tpOk T n) (hg : gLn G) (hx : xG G M) (hL : lOk G L) (h : xTk T n p w M) (hi : xIn L M) (hP : xPI T n K M (gNdI T n G L p w)) : zSp (d + 5) 40 [.inr (.inr 134)] M K := by
  have l3 := hL.2.2
  have l2 := hL.2.1
  have nn := lsz_nn L
  unfold gNdI at hP
  rw [me_40]
  refine x_isSign hT h (by decide) ?_
  by_cases c : tKi T n p w = 3 ∧ tVa T n p = 40
  · rw [fl_t c]
    rw [if_pos c] at hP
    refine zC_i (by decide) ⟨fun q => absurd q (by decide), fun _ => ?_⟩
    have bad : (L.length : Int) = 12 ∨ lsz L = 80 → zWp (zSp (d + 4)) 40 K 35 [some (.inr (.inr 134)), some (.inl 1)] [] M := by
      intro c2
      rw [if_pos c2] at hP
      rw [fe_40_35]
      exact x_fail h (zC_i (by decide) (hP.1 M (show (4 : Int) ≠ 0 by decide) xW_refl))
    rw [hi.1, hi.2.1]
    refine zC_i (zr (by omega) (by omega)) ⟨fun q => bad (.inl q), fun q => zC_i (zr (by omega) (by omega)) ⟨fun q2 => ?_, fun q2 => bad (.inr (Decidable.not_not.mp q2))⟩⟩
    rw [if_neg (by omega)] at hP
    refine x_adv (d := d + 1) hT h ?_
    intro M1 f1 f2 f3
    have e : decide (tKi T n p w = 1 ∨ tKi T n p w = 2) = false := decide_eq_false_iff_not.mpr (by omega)
    rw [e] at f1
    have q1 : xF M M1 := ⟨f3, f2⟩
    rw [fe_40_51]
    have l4 : L.length < 12 := by omega
    refine x_name41 (d := d) hT hg (xG_W hx (xW_of q1)) hL (.inr rfl) f1 (xIn_F hi q1) ?_ ?_
    · intro e0
      exact zC_i (by decide) ⟨fun z => absurd rfl z, fun _ => hP.1 M1 e0 (xW_of q1)⟩
    · intro M2 e0 e1 e2 e3 e4
      refine zC_i (by decide) ⟨fun _ => zC_i (by decide) ⟨fun z => absurd z (by decide), fun _ => ?_⟩, fun z => absurd (by decide) z⟩
      rw [e0] at hP
      have a1 := e2.1
      have a2 := e2.2.1
      rw [a1, a2]
      refine zC_i (zs (by omega) (by omega)) (hP.2 _ rfl ?_ (xTk_fr e3 (fun j _ _ => by rw [zUp_away (by decide), zUp_away (by decide)]) (by rw [zUp_away (by decide), zUp_away (by decide)])) ?_)
      · refine xAd_form e1 e2 (by rw [zUp_here]) (fun j => ?_) (by rw [zUp_away (by decide), zUp_away (by decide)]) (by rw [zUp_away (by decide), zUp_away (by decide)]) (by rw [zUp_away (by decide), zUp_away (by decide)])
        rw [zUp_away (by decide), zUp_hit, show lsz L + 1 - 1 = lsz L by omega]
      · exact xW_trans (xW_trans (xW_of q1) e4) ⟨fun c _ _ _ _ h5 h6 => by rw [zUp_away h5, zUp_away h6], fun j _ _ _ _ => by rw [zUp_away (by decide), zUp_away (by decide)]⟩
  · rw [fl_f c]
    rw [if_neg c] at hP
    refine zC_i (by decide) ⟨fun _ => ?_, fun q => absurd rfl q⟩
    rw [fe_40_51]
    refine x_name41 (d := d) hT hg hx hL (.inl rfl) h hi ?_ ?_
    · intro e0
      exact zC_i (by decide) ⟨fun z => absurd rfl z, fun _ => hP.1 M e0 xW_refl⟩
    · intro M2 e0 e1 e2 e3 e4
      refine zC_i (by decide) ⟨fun _ => zC_i (by decide) ⟨fun _ => ?_, fun z => absurd rfl z⟩, fun z => absurd (by decide) z⟩
      rw [e0] at hP
      exact hP.2 M2 rfl (xAd_leaf e1 e2) e3 e4
theorem xFs_close {M M' : Mm} {L : List Tr} (hl : 0 < (L.length : Int)) (h : xIn L M) (f1 : M' 134 4 = L.length - 1) (f2 : M' 46 = M 46) (f3 : M' 47 = M 47) (f4 : M' 48 = M 48) (f5 : M' 135 = M 135) : xSt (gCs L).1 M' (gCs L).2 := by
  obtain ⟨h1, h2, h3⟩ := h
  match L, hl, h1, h2, h3, f1 with
  | [], hl, _, _, _, _ => exact absurd hl (by decide)
  | [f], hl, h1, h2, ⟨a1, a2, a3, a4⟩, f1 =>
    refine ⟨by rw [f1]; rfl, ?_, fun k k0 k1 => ?_⟩
    · rw [f2, h2]
      show tSz f + 0 = tSz f
      omega
    · rw [f3, f4]
      have x := a1 k k0 k1
      rw [show lsz [] + k = k by show 0 + k = k; omega] at x
      by_cases c : k = 0
      · rw [c, tSub_0] at x ⊢
        have a2 : M 48 0 = tKd f + 0 := a2
        exact ⟨x.1, by omega⟩
      · exact ⟨x.1, x.2 c⟩
  | f :: g :: R, hl, h1, h2, ⟨a1, a2, a3, b1, b2, b3, b4⟩, f1 =>
    have qf := tSz_pos f
    have qg := tSz_pos g
    have hs : lsz (g :: R) = tSz g + lsz R := rfl
    refine ⟨?_, ?_, fun k k0 k1 => ?_, ?_, ?_, xFs_fr R 1 (fun i _ _ => ⟨by rw [f3], by rw [f4]⟩) (fun j _ _ => by rw [f5]) b4⟩
    · rw [f1]
      show ((R.length + 1 + 1 : Nat) : Int) - 1 = ((R.length + 1 : Nat) : Int)
      omega
    · rw [f2, h2]
      show tSz f + (tSz g + lsz R) = (tSz g + tSz f) + lsz R
      omega
    · have k1 : k < tSz g + tSz f := k1
      rw [f3, f4]
      by_cases c : k < tSz g
      · have x := b1 k k0 c
        by_cases c0 : k = 0
        · rw [c0, tSub_0] at x ⊢
          exact ⟨x.1, fun z => absurd rfl z⟩
        · rw [tSub_f c0 c]
          exact ⟨x.1, fun _ => x.2 c0⟩
      · rw [tSub_s (by omega)]
        have x := a1 (k - tSz g) (by omega) (by omega)
        rw [show lsz (g :: R) + (k - tSz g) = lsz R + k by omega] at x
        refine ⟨x.1, fun _ => ?_⟩
        by_cases c0 : k - tSz g = 0
        · rw [c0, tSub_0, show lsz R + k = lsz (g :: R) by omega, a2]
          omega
        · exact x.2 c0
    · rw [f4, b2, tKd_op]
      omega
    · rw [f5]; exact b3
theorem x_close39 {d : Nat} {T : Int → Int} {n p : Int} {w : Bool} {G M : Mm} {L : List Tr} {K : Kt} (hT : tpOk T n) (hg : gLn G) (hx : xG G M) (hL : lOk G L) (hl : 0 < (L.length : Int)) (h : xTk T n p w M) (hk : tKi T n p w = 3) (hi : xIn L M) (hP : xPI T n K M (if gNeed G (tNm (hdT L)) ≤ tKd (hdT L) then (0, 0, (gCs L).1, (gCs L).2, tEn T n p, false) else (5, tQ T n p, L, none, p, w))) : zSp (d + 4) 39 [.inr (.inr 134)] M K := by
  obtain ⟨f, R, eL, eh, tv, b1, b2, b3, b4⟩ := hdT_b hL hl
  have l3 := hL.2.2
  have nm := tVal_nm f tv
  have nb := gNeed_b hg nm.1 nm.2
  have eR : (L.length : Int) - 1 = R.length := by
    rw [eL]
    show ((R.length + 1 : Nat) : Int) - 1 = _
    omega
  have i3 : xFs M 0 (f :: R) := by rw [← eL]; exact hi.2.2
  obtain ⟨a1, a2, a3, a4⟩ := i3
  have n0 := (a1 0 (by omega) (by omega)).1
  rw [show lsz R + 0 = lsz R by omega, tSub_0] at n0
  rw [eh] at hP
  have sm : zSm (lsz R) 80 = true := zs b4 (by omega)
  rw [me_39, hi.1, eR, a3, n0, a2]
  refine zC_i (zs (by omega) (by omega)) (zC_i sm (zC_i sm (x_needed hg hx nm.1 nm.2 ?_)))
  refine zC_i (zr (by omega) (by omega)) (zC_i (zr (by omega) (by omega)) ⟨fun c => ?_, fun c => ?_⟩)
  · rw [if_pos (by omega)] at hP
    rw [hi.1]
    have h1 : xTk T n p w (zUp M 134 4 ((L.length : Int) - 1)) := xTk_fr h (fun j _ _ => by rw [zUp_away (by decide)]) (by rw [zUp_away (by decide)])
    refine x_adv (d := d) hT h1 ?_
    intro M1 f1 f2 f3
    have e : decide (tKi T n p w = 1 ∨ tKi T n p w = 2) = false := decide_eq_false_iff_not.mpr (by omega)
    rw [e] at f1
    refine hP.2 M1 rfl (xFs_close hl hi (by rw [f3 134 (by decide), zUp_here]) (by rw [f3 46 (by decide), zUp_away (by decide)]) (by rw [f3 47 (by decide), zUp_away (by decide)]) (by rw [f3 48 (by decide), zUp_away (by decide)]) (by rw [f3 135 (by decide), zUp_away (by decide)])) f1 ⟨fun c h1 h2 h3 h4 h5 h6 => by rw [f3 c h1, zUp_away h5], fun j j1 j2 j3 j4 => by rw [f2 j j1 j2 j3 j4, zUp_away (by decide)]⟩
  · rw [if_neg (by omega)] at hP
    exact x_fail h (zC_i (by decide) (hP.1 M (show (5 : Int) ≠ 0 by decide) xW_refl))
theorem x_turns {d : Nat} {T : Int → Int} {n : Int} {G : Mm} {K : Kt} (hT : tpOk T n) (hg : gLn G) : ∀ (f : Nat) (M : Mm) (L : List Tr) (p : Int) (w : Bool) (x1 : Int) (u : Option Vl), x1 + f = 1000 → 0 ≤ x1 → lOk G L → ((x1 = 0 ∧ L = []) ∨ (1 ≤ L.length ∧ x1 + 1 ≤ p)) → xIn L M → xTk T n p w M → xG G M →
    (∀ M', 1 ≤ (gIn T n G f L p w).1 ∧ (gIn T n G f L p w).1 ≤ 5 → xW M M' → K 0 (zUp (zUp M' 2 6 (gIn T n G f L p w).1) 2 7 (gIn T n G f L p w).2.1)) →
    (∀ M' t x1 u, (gIn T n G f L p w).1 = 0 → (gIn T n G f L p w).2.2.1 = some t → tSz t ≤ 80 ∧ tVal (G 4 0) t → xDn t M' → xTk T n (gIn T n G f L p w).2.2.2.1 (gIn T n G f L p w).2.2.2.2 M' → xW M M' → zWp (zSp (d + 6)) 38 K 81 [some (.inr (.inr 134)), some (.inl x1), u] [] M') →
    zWp (zSp (d + 6)) 38 K 21 [some (.inr (.inr 134)), some (.inl x1), u] [] M
  | 0, M, L, p, w, x1, u, hf, h0, hL, hs, hi, h, hx, hK0, hK1 => by
    have hn := hT.1
    have pn := h.2.2.2.2.2.2
    rcases hs with hs | hs <;> omega
  | f + 1, M, L, p, w, x1, u, hf, h0, hL, hs, hi, h, hx, hK0, hK1 => by
    have hn := hT.1
    have pn := h.2.2.2.2.2.2
    have x9 : x1 < 1000 := by omega
    have l3 := hL.2.2
    have tk := gTu_k (T := T) (L := L) (w := w) hg pn hL
    unfold gIn at hK0 hK1
    -- behind a turn
    have post : xPI T n (fun z M' => zWp (zSp (d + 6)) 38 K 58 [some (.inr (.inr 134)), some (.inl x1), u] [.inl z] M') M (gTu T n G L p w) := by
      refine ⟨fun M' e q => ?_, fun M' e a b q => ?_⟩
      · rw [if_neg (fun z => e z.1)] at hK0
        show zWp (zSp (d + 6)) 38 K 58 _ [.inl 0] _
        rw [fe_38_58]
        refine zC_i (by decide) ⟨fun z => absurd rfl z, fun _ => hK0 M' (tk.elim (fun u => absurd u.1 e) (fun u => u)) q⟩
      · show zWp (zSp (d + 6)) 38 K 58 _ [.inl 1] M'
        rw [fe_38_58]
        rcases tk with ⟨t1, t2, t3, t4⟩ | t
        · by_cases c : (gTu T n G L p w).2.2.2.1 = none
          · rw [if_pos ⟨e, c⟩] at hK0 hK1
            rw [c] at a t2
            have hl := t2.2
            have lk := t2.1.2.2
            have a1 : M' 134 4 = ((gTu T n G L p w).2.2.1.length : Int) := a.1
            rw [a1]
            refine zC_i (by decide) ⟨fun _ => zC_i (zr (by omega) (by omega)) ⟨fun _ => ?_, fun z => absurd (by omega) z⟩, fun z => absurd (by decide) z⟩
            have pp : x1 + 1 + 1 ≤ (gTu T n G L p w).2.2.2.2.1 := by
              rcases hs with hs | hs
              · have := t4 hs.2 c
                have p0 := h.2.2.2.2.2.1
                omega
              · omega
            exact x_turns hT hg f M' _ _ _ (x1 + 1) _ (by omega) (by omega) t2.1 (.inr ⟨hl, pp⟩) a b (xG_W hx q) (fun M2 e1 e2 => hK0 M2 e1 (xW_trans q e2)) (fun M2 t y1 y2 e1 e2 e3 e4 e5 e6 => hK1 M2 t y1 y2 e1 e2 e3 e4 e5 (xW_trans q e6))
          · rw [if_neg (fun z => c z.2)] at hK1
            match hd : (gTu T n G L p w).2.2.2.1, c, a, t2 with
            | none, c, _, _ => exact absurd rfl c
            | some t, _, a, t2 =>
              have a1 : M' 134 4 = 0 := a.1
              rw [a1]
              exact zC_i (by decide) ⟨fun _ => zC_i (by decide) ⟨fun z => absurd rfl z, fun _ => hK1 M' t _ _ e hd t2 a b q⟩, fun z => absurd (by decide) z⟩
        · omega
    rw [fe_38_21, hi.1]
    unfold gTu at post
    refine zC_i (zr (by omega) (by omega)) ⟨fun z => absurd z (by omega), fun _ => zC_i (zr (by omega) (by omega)) ⟨fun z => ?_, fun z => ?_⟩⟩
    · rw [if_neg (fun y => by omega)] at post
      rw [fe_38_54]
      exact x_node40 (d := d + 1) hT hg hx hL h hi post
    · refine x_isSign hT h (by decide) ?_
      by_cases c : tKi T n p w = 3 ∧ tVa T n p = 41
      · rw [fl_t c]
        rw [if_pos ⟨by omega, c.1, c.2⟩] at post
        exact zC_i (by decide) ⟨fun y => absurd y (by decide), fun _ => x_close39 (d := d + 2) hT hg hx hL (by omega) h c.1 hi post⟩
      · rw [fl_f c]
        rw [if_neg (fun y => c y.2)] at post
        refine zC_i (by decide) ⟨fun _ => ?_, fun y => absurd rfl y⟩
        rw [fe_38_54]
        exact x_node40 (d := d + 1) hT hg hx hL h hi post
/-- faults of an input's text -/
def gIf (T : Int → Int) (n : Int) (G : Mm) (k q : Int) : Prop := ((1 ≤ (gIn T n G 1000 [] 0 false).1 ∧ (gIn T n G 1000 [] 0 false).1 ≤ 5) ∧ k = (gIn T n G 1000 [] 0 false).1 ∧ q = (gIn T n G 1000 [] 0 false).2.1) ∨ ((gIn T n G 1000 [] 0 false).1 = 0 ∧ tKi T n (gIn T n G 1000 [] 0 false).2.2.2.1 (gIn T n G 1000 [] 0 false).2.2.2.2 ≠ 0 ∧ k = 1 ∧ q = tQ T n (gIn T n G 1000 [] 0 false).2.2.2.1)
def gIt (T : Int → Int) (n : Int) (G : Mm) (t : Tr) : Prop := (gIn T n G 1000 [] 0 false).1 = 0 ∧ tKi T n (gIn T n G 1000 [] 0 false).2.2.2.1 (gIn T n G 1000 [] 0 false).2.2.2.2 = 0 ∧ (gIn T n G 1000 [] 0 false).2.2.1 = some t ∧ tSz t ≤ 80 ∧ tVal (G 4 0) t
def xV (M M' : Mm) : Prop := ∀ c, c ≠ 2 → c ≠ 46 → c ≠ 47 → c ≠ 48 → c ≠ 134 → c ≠ 135 → M' c = M c
theorem x_input38 {d : Nat} {T : Int → Int} {n : Int} {G M : Mm} {K : Kt} (hT : tpOk T n) (hg : gLn G) (hx : xG G M) (ht : xTp T n M)
    (hK0 : ∀ M' k q, gIf T n G k q → M' 2 6 = k → M' 2 7 = q → xV M M' → K 0 M')
    (hK1 : ∀ M' t, gIt T n G t → xDn t M' → M' 2 6 = 0 → M' 2 7 = -1 → xV M M' → K 1 M') : zSp (d + 7) 38 [.inr (.inr 134)] M K := by
  have hn := hT.1
  rw [me_38, me_79]
  refine zC_i rfl ?_
  refine x_start (d := d + 2) (T := T) (n := n) hT ⟨by rw [zUp_away (by decide), zUp_away (by decide)]; exact ht.1, fun i i0 i1 => by rw [zUp_away (by decide), zUp_away (by decide)]; exact ht.2 i i0 i1⟩ ?_
  intro M1 f1 f2 f3 f4
  have v1 : xV M M1 := fun c h1 h2 h3 h4 h5 h6 => by rw [f4 c h1, zUp_away h2, zUp_away h5]
  have vq : ∀ {M'}, xW M1 M' → xV M M' := fun q c h1 h2 h3 h4 h5 h6 => by rw [q.1 c h1 h2 h3 h4 h5 h6, v1 c h1 h2 h3 h4 h5 h6]
  refine x_turns (d := d) hT hg 1000 M1 [] 0 false 0 none (by omega) (by omega) ⟨fun f hf => absurd hf (by simp), by decide, by decide⟩ (.inl ⟨rfl, rfl⟩) ⟨by rw [f4 134 (by decide), zUp_away (by decide), zUp_here]; rfl, by rw [f4 46 (by decide), zUp_here]; rfl, trivial⟩ f1 (xG_fr hx fun c c1 c2 => v1 c (by omega) (by omega) (by omega) (by omega) (by omega) (by omega)) ?_ ?_
  · intro M2 e q
    exact hK0 _ _ _ (.inl ⟨e, rfl, rfl⟩) (by rw [zUp_there (by decide), zUp_here]) zUp_here (fun c h1 h2 h3 h4 h5 h6 => by rw [zUp_away h1, zUp_away h1, vq q c h1 h2 h3 h4 h5 h6])
  · intro M2 t x1 u e1 e2 e3 e4 e5 q
    have l6 : M2 2 6 = 0 := by rw [q.2 6 (by decide) (by decide) (by decide) (by decide)]; exact f2
    have l7 : M2 2 7 = -1 := by rw [q.2 7 (by decide) (by decide) (by decide) (by decide)]; exact f3
    rw [fe_38_81]
    refine x_isEnd e5 ?_
    by_cases c : tKi T n (gIn T n G 1000 [] 0 false).2.2.2.1 (gIn T n G 1000 [] 0 false).2.2.2.2 = 0
    · rw [fl_t c]
      exact zC_i (by decide) ⟨fun _ => hK1 M2 t ⟨e1, c, e2, e3⟩ e4 l6 l7 (vq q), fun z => absurd (by decide) z⟩
    · rw [fl_f c]
      refine zC_i (by decide) ⟨fun z => absurd rfl z, fun _ => x_fail e5 (zC_i (by decide) ⟨fun _ => ?_, fun z => absurd rfl z⟩)⟩
      exact hK0 _ _ _ (.inr ⟨e1, c, rfl, rfl⟩) (by rw [zUp_there (by decide), zUp_here]) zUp_here (fun c h1 h2 h3 h4 h5 h6 => by rw [zUp_away h1, zUp_away h1, vq q c h1 h2 h3 h4 h5 h6])
