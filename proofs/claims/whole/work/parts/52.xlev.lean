/-! LAYER 3: reducing by levels: the class -/
theorem x_part_l {d : Nat} {G : Mm} {K : Kt} {B : List Bg} {vs bug n w why lev : Int} {R : List Int} (hg : gOk G) (hB : bCx (G 4 0) B) (hvs : 0 ≤ vs ∧ vs ≤ 9) (hb : 0 ≤ bug ∧ bug < 6) (hn : 1 ≤ n) (hl : n ≤ R.length) (hw : w = 1 ∨ (w = 0 ∧ 2 ≤ n)) (hlr : zR32 lev = true) : ∀ (m : Nat) (M : Mm) (i : Int) (S : Rs), i + m = n → 0 ≤ i → xRS G B vs bug M S → rsOk G B S → rOk G S.1 lev R → xRw M R →
    (∀ M', xRS G B vs bug M' (rPt G B vs bug n w why lev m i S R).2.1 → xRw M' (rPt G B vs bug n w why lev m i S R).2.2 → xFr M M' → ((rPt G B vs bug n w why lev m i S R).1 = 0 ∨ (rPt G B vs bug n w why lev m i S R).1 = 1) → K (rPt G B vs bug n w why lev m i S R).1 M') →
    zWp (zSp (d + 6)) 55 K 3 [some (.inr (.inr 150)), some (.inl n), some (.inl w), some (.inl why), some (.inl lev), some (.inl i)] [] M
  | 0, M, i, S, hi, h0, h, ho, hR, hrw, hK => by
    have r2 := hrw.2.1
    rw [fe_55_3]
    (repeat (first | (with_reducible refine zC_i ?hob ?_; case hob => first | assumption | decide | exact zr (by omega) (by omega) | exact zs (by omega) (by omega) | exact zd (by omega) (by omega)) | (with_reducible refine zIfT ?hob ?_; case hob => first | assumption | omega | decide) | (with_reducible refine zIfF ?hob ?_; case hob => first | assumption | omega | decide)))
    exact hK M h hrw xFr_refl (.inl rfl)
  | m + 1, M, i, S, hi, h0, h, ho, hR, hrw, hK => by
    have r2 := hrw.2.1
    have p := rPart (len := R.length) hn hl (i := i) (by omega)
    have ne := rPt_ne (R := R) hn hl (i := i) (w := w) (by omega) hw
    have rw' := rRw_ok hg (vs := vs) (bug := bug) (why := why) ho hR ne.1
    unfold rPt at hK
    rw [fe_55_3, hrw.1]
    (repeat (first | (with_reducible refine zC_i ?hob ?_; case hob => first | assumption | decide | exact zr (by omega) (by omega) | exact zs (by omega) (by omega) | exact zd (by omega) (by omega)) | (with_reducible refine zIfT ?hob ?_; case hob => first | assumption | omega | decide) | (with_reducible refine zIfF ?hob ?_; case hob => first | assumption | omega | decide)))
    refine x_partStart (by omega) (by omega) (by omega) ?_
    rw [hrw.1]
    refine x_partStart (by omega) (by omega) (by omega) ?_
    refine x_rowStep (d := d) hg hB hvs hb h ho hR hrw (zr (by omega) (by omega)) (zr (by omega) (by omega)) (by omega) ?_ ?_
    · intro M1 f1 f2 f3 f4
      have e : rRw G B vs bug S R (i * R.length / n) ((i + 1) * R.length / n) w why lev = (0, (rTk B vs bug S (bT G (rMk G S.1 (rSel (i * R.length / n) ((i + 1) * R.length / n) w R 0)) (tSub S.1 0) S.1) why lev).2, R) := by
        unfold rRw; rw [if_neg (by omega)]
      rw [e] at hK rw'
      rw [if_neg (show ¬ (0 : Int) = 1 by decide)] at hK
      obtain ⟨⟨w1, w2, w3, w4⟩, w5⟩ := rw'
      (repeat (first | (with_reducible refine zC_i ?hob ?_; case hob => first | assumption | decide | exact zr (by omega) (by omega) | exact zs (by omega) (by omega) | exact zd (by omega) (by omega)) | (with_reducible refine zIfT ?hob ?_; case hob => first | assumption | omega | decide) | (with_reducible refine zIfF ?hob ?_; case hob => first | assumption | omega | decide)))
      refine x_part_l hg hB hvs hb hn hl hw hlr m M1 (i + 1) _ (by omega) (by omega) f1 w1 w3 f2 ?_
      intro M' g1 g2 g3 g4
      exact hK M' g1 g2 (xFr_trans f3 g3) g4
    · intro M1 f1 f2 f3 f4 f5 f6 f7
      have e : rRw G B vs bug S R (i * R.length / n) ((i + 1) * R.length / n) w why lev = (1, (rTk B vs bug S (bT G (rMk G S.1 (rSel (i * R.length / n) ((i + 1) * R.length / n) w R 0)) (tSub S.1 0) S.1) why lev).2, (rNot (i * R.length / n) ((i + 1) * R.length / n) w R 0).map (bPos G (rMk G S.1 (rSel (i * R.length / n) ((i + 1) * R.length / n) w R 0)) (tSub S.1 0) S.1 0)) := by
        unfold rRw; rw [if_pos f7]
      rw [e] at hK
      rw [if_pos rfl] at hK
      (repeat (first | (with_reducible refine zC_i ?hob ?_; case hob => first | assumption | decide | exact zr (by omega) (by omega) | exact zs (by omega) (by omega) | exact zd (by omega) (by omega)) | (with_reducible refine zIfT ?hob ?_; case hob => first | assumption | omega | decide) | (with_reducible refine zIfF ?hob ?_; case hob => first | assumption | omega | decide)))
      rw [me_57]
      refine x_keep_l (n := R.length) (by omega) R M1 0 0 (by omega) (by omega) (by omega) f3 f2 (fun x hx => by have := hR.1 x hx; have := ho.1; omega) f4 f5 ?_
      intro M2 g1 g2 g3 g4 g5
      have len := rLen (fr := i * R.length / n) (to := (i + 1) * R.length / n) (w := w) R 0
      refine hK M2 (xRS_fr f1 (fun c hc => g5 c (by omega) (by omega)) (g2 3 (by decide)) (g2 4 (by decide))) ⟨?_, ?_, g3⟩ (fun c hc => by rw [g5 c (by omega) (by omega), f6 c hc]) (.inr rfl)
      · rw [g1, List.length_map]; omega
      · rw [List.length_map]; omega
theorem x_isPartTaken {d : Nat} {M G : Mm} {K : Kt} {B : List Bg} {vs bug n w why lev : Int} {S : Rs} {R : List Int} (hg : gOk G) (hB : bCx (G 4 0) B) (hvs : 0 ≤ vs ∧ vs ≤ 9) (hb : 0 ≤ bug ∧ bug < 6) (hn : 1 ≤ n) (hl : n ≤ R.length) (hw : w = 1 ∨ (w = 0 ∧ 2 ≤ n)) (hlr : zR32 lev = true) (h : xRS G B vs bug M S) (ho : rsOk G B S) (hR : rOk G S.1 lev R) (hrw : xRw M R)
    (hK : ∀ M', xRS G B vs bug M' (rPt G B vs bug n w why lev n.toNat 0 S R).2.1 → xRw M' (rPt G B vs bug n w why lev n.toNat 0 S R).2.2 → xFr M M' → ((rPt G B vs bug n w why lev n.toNat 0 S R).1 = 0 ∨ (rPt G B vs bug n w why lev n.toNat 0 S R).1 = 1) → K (rPt G B vs bug n w why lev n.toNat 0 S R).1 M') : zSp (d + 7) 55 [.inr (.inr 150), .inl n, .inl w, .inl why, .inl lev] M K := by
  rw [me_55]
  exact x_part_l hg hB hvs hb hn hl hw hlr n.toNat M 0 S (by omega) (by omega) h ho hR hrw hK
theorem x_halves_l {d : Nat} {G : Mm} {K : Kt} {B : List Bg} {vs bug lev : Int} (hg : gOk G) (hB : bCx (G 4 0) B) (hvs : 0 ≤ vs ∧ vs ≤ 9) (hb : 0 ≤ bug ∧ bug < 6) (hlr : zR32 lev = true) : ∀ (f : Nat) (M : Mm) (n x3 : Int) (S : Rs) (R : List Int), x3 + f = 100000 → 0 ≤ x3 → 2 ≤ n → n ≤ 80 → (2 ≤ (R.length : Int) → n ≤ R.length) → xRS G B vs bug M S → rsOk G B S → rOk G S.1 lev R → xRw M R →
    (∀ M', xRS G B vs bug M' (rHl G B vs bug lev f n S R) → xFr M M' → K 0 M') → zWp (zSp (d + 7)) 54 K 16 [some (.inr (.inr 150)), some (.inl lev), some (.inl n), some (.inl x3)] [] M
  | 0, M, n, x3, S, R, hf, hx3, hn, hn8, hl, h, ho, hR, hrw, hK => by
    rw [fe_54_16]
    (repeat (first | (with_reducible refine zC_i ?hob ?_; case hob => first | assumption | decide | exact zr (by omega) (by omega) | exact zs (by omega) (by omega) | exact zd (by omega) (by omega)) | (with_reducible refine zIfT ?hob ?_; case hob => first | assumption | omega | decide) | (with_reducible refine zIfF ?hob ?_; case hob => first | assumption | omega | decide)))
    exact hK M h xFr_refl
  | f + 1, M, n, x3, S, R, hf, hx3, hn, hn8, hl, h, ho, hR, hrw, hK => by
    have r2 := hrw.2.1
    unfold rHl at hK
    rw [fe_54_16, hrw.1]
    (repeat (first | (with_reducible refine zC_i ?hob ?_; case hob => first | assumption | decide | exact zr (by omega) (by omega) | exact zs (by omega) (by omega) | exact zd (by omega) (by omega)) | (with_reducible refine zIfT ?hob ?_; case hob => first | assumption | omega | decide) | (with_reducible refine zIfF ?hob ?_; case hob => first | assumption | omega | decide)))
    refine ⟨fun c => ?_, fun c => ?_⟩
    · rw [if_pos c] at hK
      exact hK M h xFr_refl
    rw [if_neg c] at hK
    have hl := hl (by omega)
    have r := (rPt_ok hg (vs := vs) (bug := bug) (why := 2) (lev := lev) (by omega) hl (.inr ⟨rfl, hn⟩) n.toNat 0 S (by omega) (by omega) ho hR).1
    refine x_isPartTaken hg hB hvs hb (by omega) hl (.inr ⟨rfl, hn⟩) hlr h ho hR hrw ?_
    intro M1 f1 f2 f3 f4
    generalize rPt G B vs bug n 0 2 lev n.toNat 0 S R = P at *
    obtain ⟨r1, r2', r3, r4⟩ := r
    (repeat (first | (with_reducible refine zC_i ?hob ?_; case hob => first | assumption | decide | exact zr (by omega) (by omega) | exact zs (by omega) (by omega) | exact zd (by omega) (by omega)) | (with_reducible refine zIfT ?hob ?_; case hob => first | assumption | omega | decide) | (with_reducible refine zIfF ?hob ?_; case hob => first | assumption | omega | decide)))
    refine ⟨fun c2 => ?_, fun c2 => ?_⟩
    · rw [if_neg (by omega)] at hK
      rcases r4 with q | q
      · omega
      have eR : P.2.2 = R := q.2.2.2
      have p := rP2_ok hg (vs := vs) (bug := bug) (lev := lev) (n := n) (by omega) hl r1 (by rw [q.2.1]; exact hR)
      have hR1 : rOk G P.2.1.1 lev R := by rw [q.2.1]; exact hR
      rw [eR] at f2
      have h68 : ∀ M2, xRS G B vs bug M2 (rP2 G B vs bug n lev P.2.1 R).2.1 → xRw M2 R → xFr M M2 → (rP2 G B vs bug n lev P.2.1 R).1 = 0 → zWp (zSp (d + 7)) 54 K 68 [some (.inr (.inr 150)), some (.inl lev), some (.inl n), some (.inl x3)] [] M2 := by
        intro M2 g1 g2 g3 g4
        rw [if_neg (by omega)] at hK
        obtain ⟨⟨p1, p2, p3, p4⟩, p5⟩ := p
        generalize rP2 G B vs bug n lev P.2.1 R = Q at *
        rcases p4 with w | w
        · omega
        rw [fe_54_68, g2.1]
        (repeat (first | (with_reducible refine zC_i ?hob ?_; case hob => first | assumption | decide | exact zr (by omega) (by omega) | exact zs (by omega) (by omega) | exact zd (by omega) (by omega)) | (with_reducible refine zIfT ?hob ?_; case hob => first | assumption | omega | decide) | (with_reducible refine zIfF ?hob ?_; case hob => first | assumption | omega | decide)))
        refine ⟨fun c3 => ?_, fun c3 => ?_⟩
        · rw [if_neg (by omega)] at hK
          exact hK M2 g1 g3
        · rw [if_pos (by omega)] at hK
          (repeat (first | (with_reducible refine zC_i ?hob ?_; case hob => first | assumption | decide | exact zr (by omega) (by omega) | exact zs (by omega) (by omega) | exact zd (by omega) (by omega)) | (with_reducible refine zIfT ?hob ?_; case hob => first | assumption | omega | decide) | (with_reducible refine zIfF ?hob ?_; case hob => first | assumption | omega | decide)))
          have zm : zMin (2 * n) R.length ≤ R.length ∧ 2 ≤ zMin (2 * n) R.length := by unfold zMin; split <;> omega
          exact x_halves_l hg hB hvs hb hlr f M2 _ (x3 + 1) Q.2.1 R (by omega) (by omega) zm.2 (by omega) (fun _ => zm.1) g1 p1 (by rw [w.2.1]; exact hR1) g2 (fun M' k1 k2 => hK M' k1 (xFr_trans g3 k2))
      (repeat (first | (with_reducible refine zC_i ?hob ?_; case hob => first | assumption | decide | exact zr (by omega) (by omega) | exact zs (by omega) (by omega) | exact zd (by omega) (by omega)) | (with_reducible refine zIfT ?hob ?_; case hob => first | assumption | omega | decide) | (with_reducible refine zIfF ?hob ?_; case hob => first | assumption | omega | decide)))
      refine ⟨fun c3 => ?_, fun c3 => ?_⟩
      · have e : rP2 G B vs bug n lev P.2.1 R = (0, P.2.1, R) := by unfold rP2; rw [if_neg (by omega)]
        exact h68 M1 (by rw [e]; exact f1) f2 f3 (by rw [e])
      · have e : rP2 G B vs bug n lev P.2.1 R = rPt G B vs bug n 1 3 lev n.toNat 0 P.2.1 R := by unfold rP2; rw [if_pos (by omega)]
        refine x_isPartTaken hg hB hvs hb (by omega) hl (.inl rfl) hlr f1 r1 hR1 f2 ?_
        rw [← e]
        intro M2 g1 g2 g3 g4
        obtain ⟨⟨p1, p2, p3, p4⟩, p5⟩ := p
        rcases g4 with g4 | g4
        · rw [g4]
          rcases p4 with w | w
          · omega
          rw [w.2.2.2] at g2
          (repeat (first | (with_reducible refine zC_i ?hob ?_; case hob => first | assumption | decide | exact zr (by omega) (by omega) | exact zs (by omega) (by omega) | exact zd (by omega) (by omega)) | (with_reducible refine zIfT ?hob ?_; case hob => first | assumption | omega | decide) | (with_reducible refine zIfF ?hob ?_; case hob => first | assumption | omega | decide)))
          exact h68 M2 g1 g2 (xFr_trans f3 g3) g4
        · rw [if_pos g4] at hK
          rw [g4]
          have p6 := p5 g4
          have g22 := g2.2.1
          (repeat (first | (with_reducible refine zC_i ?hob ?_; case hob => first | assumption | decide | exact zr (by omega) (by omega) | exact zs (by omega) (by omega) | exact zd (by omega) (by omega)) | (with_reducible refine zIfT ?hob ?_; case hob => first | assumption | omega | decide) | (with_reducible refine zIfF ?hob ?_; case hob => first | assumption | omega | decide)))
          rw [show n + -1 = n - 1 by omega]
          exact x_halves_l hg hB hvs hb hlr f M2 (n - 1) (x3 + 1) _ _ (by omega) (by omega) (by omega) (by omega) (fun _ => p6.2) g1 p1 p3 g2 (fun M' k1 k2 => hK M' k1 (xFr_trans (xFr_trans f3 g3) k2))
    · rw [if_pos (by omega)] at hK
      exact x_halves_l hg hB hvs hb hlr f M1 2 (x3 + 1) P.2.1 P.2.2 (by omega) (by omega) (by omega) (by omega) (fun q => q) f1 r1 r3 f2 (fun M' k1 k2 => hK M' k1 (xFr_trans f3 k2))
theorem x_byLevels_l {d : Nat} {G : Mm} {K : Kt} {B : List Bg} {vs bug : Int} (hg : gOk G) (hB : bCx (G 4 0) B) (hvs : 0 ≤ vs ∧ vs ≤ 9) (hb : 0 ≤ bug ∧ bug < 6) : ∀ (f : Nat) (M : Mm) (lev : Int) (S : Rs), lev + f = 80 → 1 ≤ lev → xRS G B vs bug M S → rsOk G B S →
    (∀ M', xRS G B vs bug M' (rLv G B vs bug f lev S) → xFr M M' → K 0 M') → zWp (zSp (d + 8)) 47 K 2 [some (.inr (.inr 150)), some (.inl lev)] [] M
  | 0, M, lev, S, hf, hl, h, ho, hK => by
    rw [fe_47_2]
    (repeat (first | (with_reducible refine zC_i ?hob ?_; case hob => first | assumption | decide | exact zr (by omega) (by omega) | exact zs (by omega) (by omega) | exact zd (by omega) (by omega)) | (with_reducible refine zIfT ?hob ?_; case hob => first | assumption | omega | decide) | (with_reducible refine zIfF ?hob ?_; case hob => first | assumption | omega | decide)))
    exact hK M h xFr_refl
  | f + 1, M, lev, S, hf, hl, h, ho, hK => by
    have hz := ho.1
    have db := tDp_b S.1
    have t6 : M 38 2 = tDp S.1 := h.2.2.1.2.2.1
    unfold rLv at hK
    rw [fe_47_2, t6]
    (repeat (first | (with_reducible refine zC_i ?hob ?_; case hob => first | assumption | decide | exact zr (by omega) (by omega) | exact zs (by omega) (by omega) | exact zd (by omega) (by omega)) | (with_reducible refine zIfT ?hob ?_; case hob => first | assumption | omega | decide) | (with_reducible refine zIfF ?hob ?_; case hob => first | assumption | omega | decide)))
    refine ⟨fun c => ?_, fun c => ?_⟩
    · rw [if_pos c] at hK
      exact hK M h xFr_refl
    rw [if_neg c] at hK
    have hR := rRow0_ok (G := G) (t := S.1) hl
    refine x_gatherRow hg ho.2.1 (zr (by omega) (by omega)) h.1 h.2.2.1 ?_
    intro M1 f1 f2 f3
    have h1 : xRS G B vs bug M1 S := xRS_fr h (fun c hc => f3 c (by omega) (by omega)) (f2 3 (by decide)) (f2 4 (by decide))
    have fr1 : xFr M M1 := fun c hc => f3 c (by omega) (by omega)
    have f12 := f1.2.1
    rw [f1.1]
    (repeat (first | (with_reducible refine zC_i ?hob ?_; case hob => first | assumption | decide | exact zr (by omega) (by omega) | exact zs (by omega) (by omega) | exact zd (by omega) (by omega)) | (with_reducible refine zIfT ?hob ?_; case hob => first | assumption | omega | decide) | (with_reducible refine zIfF ?hob ?_; case hob => first | assumption | omega | decide)))
    refine ⟨fun c2 => ?_, fun c2 => ?_⟩
    · rw [if_pos c2] at hK
      exact x_byLevels_l hg hB hvs hb f M1 (lev + 1) S (by omega) (by omega) h1 ho (fun M' k1 k2 => hK M' k1 (xFr_trans fr1 k2))
    rw [if_neg c2] at hK
    have r := (rPt_ok hg (vs := vs) (bug := bug) (why := 1) (lev := lev) (n := 1) (by omega) (by omega) (.inl rfl) 1 0 S (by omega) (by omega) ho hR).1
    rw [me_54]
    refine x_isPartTaken (n := 1) (w := 1) (why := 1) hg hB hvs hb (by omega) (by omega) (.inl rfl) (zr (by omega) (by omega)) h1 ho hR f1 ?_
    intro M2 g1 g2 g3 g4
    have e1 : ((1 : Int)).toNat = 1 := rfl
    rw [e1] at g1 g2 g4 ⊢
    generalize rPt G B vs bug 1 1 1 lev 1 0 S (rRow0 G S.1 lev) = P at *
    obtain ⟨r1, r2, r3, r4⟩ := r
    (repeat (first | (with_reducible refine zC_i ?hob ?_; case hob => first | assumption | decide | exact zr (by omega) (by omega) | exact zs (by omega) (by omega) | exact zd (by omega) (by omega)) | (with_reducible refine zIfT ?hob ?_; case hob => first | assumption | omega | decide) | (with_reducible refine zIfF ?hob ?_; case hob => first | assumption | omega | decide)))
    refine ⟨fun c3 => ?_, fun c3 => ?_⟩
    · rw [if_neg (by omega)] at hK
      rcases r4 with q | q
      · omega
      rw [q.2.2.2] at g2
      have hR1 : rOk G P.2.1.1 lev (rRow0 G S.1 lev) := by rw [q.2.1]; exact hR
      have hh := rHl_ok hg (vs := vs) (bug := bug) (lev := lev) 100000 2 P.2.1 (rRow0 G S.1 lev) (by omega) (fun q => q) r1 hR1
      refine x_halves_l hg hB hvs hb (zr (by omega) (by omega)) 100000 M2 2 0 P.2.1 (rRow0 G S.1 lev) (by omega) (by omega) (by omega) (by omega) (fun q => q) g1 r1 hR1 g2 ?_
      intro M3 k1 k2
      exact x_byLevels_l hg hB hvs hb f M3 (lev + 1) _ (by omega) (by omega) k1 hh.1 (fun M' w1 w2 => hK M' w1 (xFr_trans (xFr_trans (xFr_trans fr1 g3) k2) w2))
    · rw [if_pos (by omega)] at hK
      exact x_byLevels_l hg hB hvs hb f M2 (lev + 1) P.2.1 (by omega) (by omega) g1 r1 (fun M' w1 w2 => hK M' w1 (xFr_trans (xFr_trans fr1 g3) w2))
/-- the rounds of reduce -/
theorem x_rounds_l {d : Nat} {G : Mm} {K : Kt} {B : List Bg} {vs bug how x1 : Int} (hg : gOk G) (hB : bCx (G 4 0) B) (hvs : 0 ≤ vs ∧ vs ≤ 9) (hb : 0 ≤ bug ∧ bug < 6) (hh : 0 ≤ how ∧ how ≤ 3) : ∀ (f : Nat) (M : Mm) (S : Rs) (x3 : Int) (u4 : Option Vl), x3 + f = 100000 → 0 ≤ x3 → xRS G B vs bug M S → rsOk G B S → 0 ≤ S.2.2 → tSz S.1 + S.2.2 ≤ 80 →
    (∀ M', xRS G B vs bug M' (rRo G B vs bug how f S) → xFr M M' → K (rRo G B vs bug how f S).2.2 M') → zWp (zSp (d + 9)) 119 K 64 [some (.inr (.inr 0)), some (.inl x1), some (.inl how), some (.inl x3), u4] [] M
  | 0, M, S, x3, u4, hf, hx3, h, ho, ht0, ht8, hK => by
    rw [fe_119_64, h.2.2.2.2.2.2]
    (repeat (first | (with_reducible refine zC_i ?hob ?_; case hob => first | assumption | decide | exact zr (by omega) (by omega) | exact zs (by omega) (by omega) | exact zd (by omega) (by omega)) | (with_reducible refine zIfT ?hob ?_; case hob => first | assumption | omega | decide) | (with_reducible refine zIfF ?hob ?_; case hob => first | assumption | omega | decide)))
    exact hK M h xFr_refl
  | f + 1, M, S, x3, u4, hf, hx3, h, ho, ht0, ht8, hK => by
    have q0 := tSz_pos S.1
    have ra := rAll_ok hg (vs := vs) (bug := bug) (how := how) ho
    have qa := tSz_pos (rAll G B vs bug how S).1
    have le1 := ra.2.1
    have le2 := ra.2.2
    unfold rRo at hK
    have h130 : ∀ M3, xRS G B vs bug M3 (rAll G B vs bug how S) → xFr M M3 → zWp (zSp (d + 9)) 119 K 130 [some (.inr (.inr 0)), some (.inl x1), some (.inl how), some (.inl x3), some (.inl S.2.2)] [] M3 := by
      intro M3 g1 g2
      rw [fe_119_130, g1.2.2.2.2.2.2]
      (repeat (first | (with_reducible refine zC_i ?hob ?_; case hob => first | assumption | decide | exact zr (by omega) (by omega) | exact zs (by omega) (by omega) | exact zd (by omega) (by omega)) | (with_reducible refine zIfT ?hob ?_; case hob => first | assumption | omega | decide) | (with_reducible refine zIfF ?hob ?_; case hob => first | assumption | omega | decide)))
      refine ⟨fun c => ?_, fun c => ?_⟩
      · rw [if_pos (.inl c)] at hK
        exact hK M3 g1 g2
      · (repeat (first | (with_reducible refine zC_i ?hob ?_; case hob => first | assumption | decide | exact zr (by omega) (by omega) | exact zs (by omega) (by omega) | exact zd (by omega) (by omega)) | (with_reducible refine zIfT ?hob ?_; case hob => first | assumption | omega | decide) | (with_reducible refine zIfF ?hob ?_; case hob => first | assumption | omega | decide)))
        refine ⟨fun c2 => ?_, fun c2 => ?_⟩
        · rw [if_neg (by omega)] at hK
          exact x_rounds_l hg hB hvs hb hh f M3 _ (x3 + 1) _ (by omega) (by omega) g1 ra.1 (by omega) (by omega) (fun M' k1 k2 => hK M' k1 (xFr_trans g2 k2))
        · rw [if_pos (by omega)] at hK
          exact hK M3 g1 g2
    clear hK
    have o1 : rsOk G B (rR1 G B vs bug how S) := by
      unfold rR1
      split
      · exact (rLv_ok hg 79 1 S (by omega) ho).1
      · exact ho
    have o2 : rsOk G B (rR2 G B vs bug how (rR1 G B vs bug how S)) := by
      unfold rR2
      split
      · exact (rNd_ok (fun k S h h0 h1 => rHoist_ok hg h h0 h1) 100000 0 _ o1 (by omega)).1
      · exact o1
    have h113 : ∀ M2, xRS G B vs bug M2 (rR2 G B vs bug how (rR1 G B vs bug how S)) → xFr M M2 → zWp (zSp (d + 9)) 119 K 113 [some (.inr (.inr 0)), some (.inl x1), some (.inl how), some (.inl x3), some (.inl S.2.2)] [] M2 := by
      intro M2 g1 g2
      unfold rAll rR3 at h130
      have h123 : (how = 2 ∨ how = 3) → zWp (zSp (d + 9)) 119 K 123 [some (.inr (.inr 0)), some (.inl x1), some (.inl how), some (.inl x3), some (.inl S.2.2)] [] M2 := by
        intro hc
        rw [if_pos hc] at h130
        rw [fe_119_123, me_49]
        exact x_byCuts_l (d := d + 1) hg hB hvs hb 100000 M2 _ 0 0 _ (by omega) (by omega) g1 o2 (by omega) (by omega) (fun M3 k1 k2 => h130 M3 k1 (xFr_trans g2 k2))
      rw [fe_119_113]
      (repeat (first | (with_reducible refine zC_i ?hob ?_; case hob => first | assumption | decide | exact zr (by omega) (by omega) | exact zs (by omega) (by omega) | exact zd (by omega) (by omega)) | (with_reducible refine zIfT ?hob ?_; case hob => first | assumption | omega | decide) | (with_reducible refine zIfF ?hob ?_; case hob => first | assumption | omega | decide)))
      refine ⟨fun c => h123 (.inl c), fun c => ?_⟩
      (repeat (first | (with_reducible refine zC_i ?hob ?_; case hob => first | assumption | decide | exact zr (by omega) (by omega) | exact zs (by omega) (by omega) | exact zd (by omega) (by omega)) | (with_reducible refine zIfT ?hob ?_; case hob => first | assumption | omega | decide) | (with_reducible refine zIfF ?hob ?_; case hob => first | assumption | omega | decide)))
      refine ⟨fun c2 => ?_, fun c2 => h123 (.inr (by omega))⟩
      rw [if_neg (by omega)] at h130
      exact h130 M2 g1 g2
    have h96 : ∀ M1, xRS G B vs bug M1 (rR1 G B vs bug how S) → xFr M M1 → zWp (zSp (d + 9)) 119 K 96 [some (.inr (.inr 0)), some (.inl x1), some (.inl how), some (.inl x3), some (.inl S.2.2)] [] M1 := by
      intro M1 g1 g2
      unfold rR2 at h113
      have h106 : (how = 1 ∨ how = 3) → zWp (zSp (d + 9)) 119 K 106 [some (.inr (.inr 0)), some (.inl x1), some (.inl how), some (.inl x3), some (.inl S.2.2)] [] M1 := by
        intro hc
        rw [if_pos hc] at h113
        rw [fe_119_106, me_48]
        exact x_byHoists_l (d := d + 1) hg hB hvs hb 100000 M1 _ 0 0 (by omega) (by omega) g1 o1 (by omega) (by omega) (fun M3 k1 k2 => h113 M3 k1 (xFr_trans g2 k2))
      rw [fe_119_96]
      (repeat (first | (with_reducible refine zC_i ?hob ?_; case hob => first | assumption | decide | exact zr (by omega) (by omega) | exact zs (by omega) (by omega) | exact zd (by omega) (by omega)) | (with_reducible refine zIfT ?hob ?_; case hob => first | assumption | omega | decide) | (with_reducible refine zIfF ?hob ?_; case hob => first | assumption | omega | decide)))
      refine ⟨fun c => h106 (.inl c), fun c => ?_⟩
      (repeat (first | (with_reducible refine zC_i ?hob ?_; case hob => first | assumption | decide | exact zr (by omega) (by omega) | exact zs (by omega) (by omega) | exact zd (by omega) (by omega)) | (with_reducible refine zIfT ?hob ?_; case hob => first | assumption | omega | decide) | (with_reducible refine zIfF ?hob ?_; case hob => first | assumption | omega | decide)))
      refine ⟨fun c2 => ?_, fun c2 => h106 (.inr (by omega))⟩
      rw [if_neg (by omega)] at h113
      exact h113 M1 g1 g2
    unfold rR1 at h96
    have h89 : (how = 0 ∨ how = 3) → zWp (zSp (d + 9)) 119 K 89 [some (.inr (.inr 0)), some (.inl x1), some (.inl how), some (.inl x3), some (.inl S.2.2)] [] M := by
      intro hc
      rw [if_pos hc] at h96
      rw [fe_119_89, me_47]
      exact x_byLevels_l (d := d) hg hB hvs hb 79 M 1 S (by omega) (by omega) h ho (fun M3 k1 k2 => h96 M3 k1 k2)
    rw [fe_119_64, h.2.2.2.2.2.2]
    (repeat (first | (with_reducible refine zC_i ?hob ?_; case hob => first | assumption | decide | exact zr (by omega) (by omega) | exact zs (by omega) (by omega) | exact zd (by omega) (by omega)) | (with_reducible refine zIfT ?hob ?_; case hob => first | assumption | omega | decide) | (with_reducible refine zIfF ?hob ?_; case hob => first | assumption | omega | decide)))
    refine ⟨fun c => h89 (.inl c), fun c => ?_⟩
    (repeat (first | (with_reducible refine zC_i ?hob ?_; case hob => first | assumption | decide | exact zr (by omega) (by omega) | exact zs (by omega) (by omega) | exact zd (by omega) (by omega)) | (with_reducible refine zIfT ?hob ?_; case hob => first | assumption | omega | decide) | (with_reducible refine zIfF ?hob ?_; case hob => first | assumption | omega | decide)))
    refine ⟨fun c2 => ?_, fun c2 => h89 (.inr (by omega))⟩
    rw [if_neg (by omega)] at h96
    exact h96 M h xFr_refl
