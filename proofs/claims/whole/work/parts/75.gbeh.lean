/-! LAYER 3: the sorts behind a line's name, read by the class -/
def gAB (G : Mm) (s : Int) : Mm := zUp (zUp G 10 ((G 4 0 - 1) * 4 + G 8 (G 4 0 - 1)) s) 8 (G 4 0 - 1) (G 8 (G 4 0 - 1) + 1)
abbrev Gr : Type := Int × Int × Mm × Int × Bool
/-- fault (0: none), its place, the grammar, how far -/
def gBh (T : Int → Int) (n : Int) : Nat → Int → Mm → Int → Bool → Gr
  | 0, _, G, p, w => (0, 0, G, p, w)
  | f + 1, i, G, p, w => if tKi T n p w = 3 ∧ tVa T n p = 59 then (0, 0, G, p, w) else if i = 4 ∧ isNm T n p w then (4, tQ T n p, G, p, w) else if gSr T n p w G < 0 then (-(gSr T n p w G), tQ T n p, G, p, w)
    else if tKi T n (tEn T n p) true = 3 ∧ tVa T n (tEn T n p) = 42 then (0, 0, zUp (gAB (gSg T n p G) (gSr T n p w G)) 9 (G 4 0 - 1) 1, tEn T n (tEn T n p), false)
    else gBh T n f (i + 1) (gAB (gSg T n p G) (gSr T n p w G)) (tEn T n p) true
theorem gSg_k {T : Int → Int} {n p : Int} {w : Bool} {G : Mm} (hg : gLn G) (hp : p ≤ n) (h : isNm T n p w) (h0 : 0 ≤ gSr T n p w G) : gLn (gSg T n p G) ∧ (gSg T n p G) 4 0 = G 4 0 ∧ gSr T n p w G < (gSg T n p G) 4 1 ∧ (∀ c, c ≠ 4 → c ≠ 11 → gSg T n p G c = G c) := by
  have vb := tVa_1 hp h.1
  have c0 := hg.1
  have sf := gSf_s (v := tVa T n p) hg
  unfold gSr at *
  unfold gSg
  rw [if_pos h] at h0 ⊢
  by_cases q : gSf G (tVa T n p) = -1
  · rw [if_pos q] at h0 ⊢
    rw [if_pos q]
    by_cases q6 : G 4 1 = 6
    · rw [if_pos q6] at h0; omega
    · rw [if_neg q6]
      have e40 : (zUp (zUp G 11 (G 4 1) (tVa T n p)) 4 1 (G 4 1 + 1)) 4 0 = G 4 0 := by rw [zUp_there (by decide), zUp_away (by decide)]
      have e41 : (zUp (zUp G 11 (G 4 1) (tVa T n p)) 4 1 (G 4 1 + 1)) 4 1 = G 4 1 + 1 := zUp_here
      have ec : ∀ c, c ≠ 4 → c ≠ 11 → (zUp (zUp G 11 (G 4 1) (tVa T n p)) 4 1 (G 4 1 + 1)) c = G c := fun c c1 c2 => by rw [zUp_away c1, zUp_away c2]
      refine ⟨⟨by rw [e40, e41]; omega, fun l l0 l1 => ?_, fun s s0 s1 => ?_⟩, e40, by rw [e41]; omega, ec⟩
      · rw [e40] at l1
        rw [e41, ec 5 (by decide) (by decide), ec 6 (by decide) (by decide), ec 7 (by decide) (by decide), ec 8 (by decide) (by decide), ec 9 (by decide) (by decide), ec 10 (by decide) (by decide)]
        obtain ⟨a1, a2, a3, a4, a5, a6⟩ := hg.2.1 l l0 l1
        exact ⟨a1, a2, by omega, a4, a5, fun i i0 i1 => by have := a6 i i0 i1; omega⟩
      · rw [e41] at s1
        rw [zUp_away (by decide), zUp_hit]
        by_cases e : s = G 4 1
        · rw [if_pos e]; exact vb
        · rw [if_neg e]; exact hg.2.2 s s0 (by omega)
  · rw [if_neg q] at h0 ⊢
    rw [if_neg q]
    exact ⟨hg, rfl, by omega, fun _ _ _ => rfl⟩
theorem gAB_k {G : Mm} {s : Int} (hg : gLn G) (h1 : 1 ≤ G 4 0) (hs : 0 ≤ s ∧ s < G 4 1) (h8 : G 8 (G 4 0 - 1) ≤ 3) : gLn (gAB G s) ∧ (gAB G s) 4 = G 4 ∧ (gAB G s) 8 (G 4 0 - 1) = G 8 (G 4 0 - 1) + 1 ∧ (∀ c, c ≠ 8 → c ≠ 10 → gAB G s c = G c) := by
  have c0 := hg.1
  have e4 : (gAB G s) 4 = G 4 := by unfold gAB; rw [zUp_away (by decide), zUp_away (by decide)]
  have ec : ∀ c, c ≠ 8 → c ≠ 10 → gAB G s c = G c := fun c c1 c2 => by unfold gAB; rw [zUp_away c1, zUp_away c2]
  have e8 : (gAB G s) 8 (G 4 0 - 1) = G 8 (G 4 0 - 1) + 1 := zUp_here
  refine ⟨⟨by rw [e4]; exact c0, fun l l0 l1 => ?_, fun t t0 t1 => ?_⟩, e4, e8, ec⟩
  · rw [e4] at l1 ⊢
    rw [ec 5 (by decide) (by decide), ec 6 (by decide) (by decide), ec 7 (by decide) (by decide), ec 9 (by decide) (by decide)]
    obtain ⟨a1, a2, a3, a4, a5, a6⟩ := hg.2.1 l l0 l1
    have e10 : ∀ x, (gAB G s) 10 x = if x = (G 4 0 - 1) * 4 + G 8 (G 4 0 - 1) then s else G 10 x := fun x => by unfold gAB; rw [zUp_away (by decide), zUp_hit]
    have e8l : (gAB G s) 8 l = if l = G 4 0 - 1 then G 8 (G 4 0 - 1) + 1 else G 8 l := by unfold gAB; rw [zUp_hit, zUp_away (by decide)]
    have bl := (hg.2.1 (G 4 0 - 1) (by omega) (by omega)).2.2.2.1
    by_cases e : l = G 4 0 - 1
    · rw [e8l, if_pos e]
      refine ⟨a1, a2, a3, by omega, a5.imp id (fun q => ⟨q.1, by omega⟩), fun i i0 i1 => ?_⟩
      rw [e10]
      by_cases ei : l * 4 + i = (G 4 0 - 1) * 4 + G 8 (G 4 0 - 1)
      · rw [if_pos ei]; exact hs
      · rw [if_neg ei]
        exact a6 i i0 (by rw [e]; rw [e] at ei; omega)
    · rw [e8l, if_neg e]
      refine ⟨a1, a2, a3, a4, a5, fun i i0 i1 => ?_⟩
      rw [e10, if_neg (by omega)]
      exact a6 i i0 i1
  · rw [e4] at t1
    rw [ec 11 (by decide) (by decide)]
    exact hg.2.2 t t0 t1
theorem gSt_k {G : Mm} (hg : gLn G) (h1 : 1 ≤ G 4 0) (h8 : 1 ≤ G 8 (G 4 0 - 1)) : gLn (zUp G 9 (G 4 0 - 1) 1) := by
  refine ⟨hg.1, fun l l0 l1 => ?_, hg.2.2⟩
  obtain ⟨a1, a2, a3, a4, a5, a6⟩ := hg.2.1 l l0 l1
  refine ⟨a1, a2, a3, a4, ?_, a6⟩
  rw [zUp_hit]
  by_cases e : l = G 4 0 - 1
  · rw [if_pos e]
    exact .inr ⟨rfl, by rw [e]; exact h8⟩
  · rw [if_neg e]
    exact a5
theorem x_behind_l {d : Nat} {T : Int → Int} {n l : Int} {K : Kt} (hT : tpOk T n) : ∀ (f : Nat) (M G : Mm) (i p : Int) (w : Bool) (u : Option Vl), i + f = 5 → 0 ≤ i → 1 ≤ f → gLn G → 1 ≤ G 4 0 → l = G 4 0 - 1 → G 8 l = i → xR G M → xTk T n p w M →
    (∀ M' k q, (gBh T n f i G p w).1 = k → (gBh T n f i G p w).2.1 = q → (k = 1 ∨ k = 4) → xQ M (M') → K 0 (zUp (zUp M' 2 6 k) 2 7 q)) →
    (∀ M', (gBh T n f i G p w).1 = 0 → xR (gBh T n f i G p w).2.2.1 M' → xTk T n (gBh T n f i G p w).2.2.2.1 (gBh T n f i G p w).2.2.2.2 M' → xQ M M' → K 1 M') →
    zWp (zSp (d + 5)) 37 K 9 [some (.inr (.inr 2)), some (.inr (.inr 14)), some (.inl l), some (.inl i), u] [] M
  | 0, M, G, i, p, w, u, hf, hi, h1, hg, hl, el, h8, hx, h, hK0, hK1 => absurd h1 (by decide)
  | f + 1, M, G, i, p, w, u, hf, hi, h1, hg, hl, el, h8, hx, h, hK0, hK1 => by
    have c0 := hg.1
    have pn := h.2.2.2.2.2.2
    unfold gBh at hK0 hK1
    rw [fe_37_9]
    refine zC_i (zr (by omega) (by omega)) ⟨fun q => absurd q (by omega), fun _ => ?_⟩
    refine x_isSign (d := d + 4) hT h (by decide) ?_
    by_cases c1 : tKi T n p w = 3 ∧ tVa T n p = 59
    · rw [fl_t c1]
      rw [if_pos c1] at hK1
      exact zC_i (by decide) ⟨fun _ => hK1 M rfl hx h xQ_refl, fun q => absurd (by decide) q⟩
    · rw [fl_f c1]
      rw [if_neg c1] at hK0 hK1
      have go : ¬ (i = 4 ∧ isNm T n p w) → zWp (zSp (d + 5)) 37 K 41 [some (.inr (.inr 2)), some (.inr (.inr 14)), some (.inl l), some (.inl i), u] [] M := by
        intro c2
        rw [if_neg c2] at hK0 hK1
        rw [fe_37_41]
        refine x_readSort (d := d + 1) hT hg hx h ?_ ?_
        · intro k hk e
          rw [if_pos (by omega)] at hK0
          refine zC_i (by decide) ⟨fun q => absurd rfl q, fun _ => hK0 M k _ (by show -(gSr T n p w G) = k; omega) rfl hk xQ_refl⟩
        · intro M1 nm g0 f1 f2 f3
          obtain ⟨s1, s2, s3, s4⟩ := gSg_k hg pn nm g0
          have i3 : i ≤ 3 := by
            by_cases q : i = 4
            · exact absurd ⟨q, nm⟩ c2
            · omega
          rw [if_neg (by omega)] at hK0 hK1
          have e8 : (gSg T n p G) 8 = G 8 := s4 8 (by decide) (by decide)
          have ab := gAB_k (s := gSr T n p w G) s1 (by rw [s2]; exact hl) ⟨g0, s3⟩ (by rw [e8, s2, ← el, h8]; exact i3)
          have e14 : M1 14 0 = G 4 0 := by rw [f2 4 (by decide) (by decide), s2]
          have e18 : M1 18 = G 8 := by rw [f2 8 (by decide) (by decide), e8]
          refine zC_i (zr (by omega) (by have := s1.1; omega)) ⟨fun _ => ?_, fun q => absurd (by omega) q⟩
          rw [me_27, e14, ← el, show M1 (14 + 4) l = i by rw [show M1 (14 + 4) = G 8 from e18, h8]]
          refine zC_i rfl (zC_i (zr (by omega) (by omega)) ⟨fun q => absurd q (by omega), fun _ => zC_i rfl (zC_i rfl (zC_i (zs (by omega) (show l < 24 by omega)) (zC_i (zr (by omega) (by omega)) ⟨fun q => absurd q (by omega), fun _ => zC_i rfl (zC_i rfl (zC_i rfl (zC_i (zs (by omega) (show l < 24 by omega)) (zC_i rfl (zC_i (zs (by omega) (show l * 4 + i < 96 by omega)) (zC_i rfl (zC_i rfl (zC_i (zs (by omega) (show l < 24 by omega)) (zC_i rfl (zC_i (zs (by omega) (show l < 24 by omega)) ?_))))))))))⟩)))⟩)
          rw [zUp_away (show (14 + 4 : Nat) ≠ 14 + 6 by decide), show M1 (14 + 4) l = i by rw [show M1 (14 + 4) = G 8 from e18, h8]]
          have x2 : xR (gAB (gSg T n p G) (gSr T n p w G)) (zUp (zUp M1 (14 + 6) (l * 4 + i) (gSr T n p w G)) (14 + 4) l (i + 1)) := by
            unfold gAB
            rw [s2, ← el, e8, h8]
            exact xR_up (c := 8) (xR_up (c := 10) f2)
          have k2 : xTk T n (tEn T n p) true (zUp (zUp M1 (14 + 6) (l * 4 + i) (gSr T n p w G)) (14 + 4) l (i + 1)) := xTk_fr f1 (fun j _ _ => by rw [zUp_away (by decide), zUp_away (by decide)]) (by rw [zUp_away (by decide), zUp_away (by decide)])
          have q2 : xQ M (zUp (zUp M1 (14 + 6) (l * 4 + i) (gSr T n p w G)) (14 + 4) l (i + 1)) := xQ_trans f3 ⟨fun c c1 c2 => by rw [zUp_away (by omega), zUp_away (by omega)], fun j _ _ _ _ => by rw [zUp_away (by decide), zUp_away (by decide)]⟩
          generalize (zUp (zUp M1 (14 + 6) (l * 4 + i) (gSr T n p w G)) (14 + 4) l (i + 1)) = M2 at x2 k2 q2 ⊢
          refine x_isSign (d := d + 4) hT k2 (by decide) ?_
          by_cases c3 : tKi T n (tEn T n p) true = 3 ∧ tVa T n (tEn T n p) = 42
          · rw [fl_t c3]
            rw [if_pos c3] at hK1
            refine zC_i (by decide) ⟨fun q => absurd q (by decide), fun _ => zC_i (zs (by omega) (by omega)) ?_⟩
            refine x_adv (d := d + 2) hT (xTk_fr k2 (fun j _ _ => by rw [zUp_away (by decide)]) (by rw [zUp_away (by decide)])) ?_
            intro M3 g1 g2 g3
            have e : decide (tKi T n (tEn T n p) true = 1 ∨ tKi T n (tEn T n p) true = 2) = false := decide_eq_false_iff_not.mpr (by omega)
            rw [e] at g1
            refine hK1 M3 rfl ?_ g1 (xQ_trans q2 (xQ_trans ⟨fun c c1 c2 => zUp_away (by omega), fun j _ _ _ _ => by rw [zUp_away (by decide)]⟩ (xQ_of ⟨g3, g2⟩)))
            rw [← el]
            exact xR_fr (xR_up (c := 9) x2) (fun c c1 c2 => g3 c (by omega))
          · rw [fl_f c3]
            rw [if_neg c3] at hK0 hK1
            refine zC_i (by decide) ⟨fun _ => ?_, fun q => absurd rfl q⟩
            have e40 : (gAB (gSg T n p G) (gSr T n p w G)) 4 0 = G 4 0 := by rw [ab.2.1, s2]
            refine x_behind_l hT f M2 _ (i + 1) (tEn T n p) true _ (by omega) (by omega) (by omega) ab.1 (by rw [e40]; exact hl) (by rw [e40]; exact el) ?_ x2 k2 ?_ ?_
            · have := ab.2.2.1
              rw [s2, ← el, e8, h8] at this
              exact this
            · intro M3 k q a b c e
              exact hK0 M3 k q a b c (xQ_trans q2 e)
            · intro M3 a b c e
              exact hK1 M3 a b c (xQ_trans q2 e)
      refine zC_i (by decide) ⟨fun q => absurd rfl q, fun _ => zC_i (zr (by omega) (by omega)) ⟨fun q => go (fun e => q e.1), fun q => ?_⟩⟩
      have q := Decidable.not_not.mp q
      refine x_isName h ?_
      by_cases c2 : isNm T n p w
      · rw [fl_t c2]
        rw [if_pos ⟨q, c2⟩] at hK0
        exact zC_i (by decide) ⟨fun q => absurd q (by decide), fun _ => x_fail h (zC_i (by decide) (hK0 M 4 _ rfl rfl (.inr rfl) xQ_refl))⟩
      · rw [fl_f c2]
        exact zC_i (by decide) ⟨fun _ => go (fun e => c2 e.2), fun q => absurd rfl q⟩
