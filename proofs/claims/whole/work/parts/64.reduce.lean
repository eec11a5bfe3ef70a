/-! LAYER 3: reduce -/
theorem rRo_ok {G : Mm} (hg : gOk G) {B : List Bg} {vs bug how : Int} : ∀ (f : Nat) (S : Rs), rsOk G B S → rsOk G B (rRo G B vs bug how f S)
  | 0, S, h => h
  | f + 1, S, h => by
    have h1 := (rAll_ok (vs := vs) (bug := bug) (how := how) hg h).1
    unfold rRo
    split
    · exact h1
    · exact rRo_ok hg f _ h1
theorem st_22 : zStep_22 Inv := by
  intro M hI a1 h1 a2 h2
  obtain ⟨G, ot, B, J, vs, H, n, l, tn, tA, fk, fp, hI, hX, hM⟩ := hI
  have hend : ∀ {M1 : Mm}, iX G ot B J vs H n tn tA fk fp M1 → iM G ot B J vs H n l tn tA fk fp M1 → Inv M1 := fun a b => ⟨G, ot, B, J, vs, H, n, l, tn, tA, fk, fp, hI, a, b⟩
  have ob := oSz_b hI.2.1
  have xn := xTo_n hX.2.1
  have mn := mTo_n hM.2.1
  have xb38 : xT 38 := by unfold xT; decide
  have b6 := hI.2.2.1.1
  have hM0 := iM_thr hM 0
  have hX0 := iX_thr hX 0 0
  rw [me_119]
  refine x_isBug (d := 14) hX.2.2.1 b6 h1 ?_
  by_cases cb : 0 ≤ a1 ∧ a1 < B.length
  · rw [fl_t cb]
    have hmb : ∀ (M1 : Mm) (K : Kt), iM G ot B J vs H n l tn tA fk fp M1 → zC (zR32 a2) (zSp 15 137 [.inr (.inl a2), .inr (.inl 0), .inr (.inl 3)] (zUp M1 154 0 0) (fun z2 M2 => zC (zR32 z2) ((¬ z2 = 0 → zSp 15 174 [.inr (.inr 154), .inl 0] M2 (fun z3 M3 => zC (zR32 z3) ((z3 = 0 → K (-3) M3) ∧ (¬ (z3 = 0) → zSp 15 213 [.inr (.inr 154), .inl 0, .inl 0, .inl (-1)] M3 (fun z4 M4 => zC (zR32 z4) (zC (zR32 a1) ((z4 = a1 → zSp 15 183 [.inr (.inr 154)] M4 (fun _ M5 => zWp (zSp 15) 240 K 66 [some (.inr (.inr 154)), some (.inl a1), some (.inl a2), some (.inl (-1))] [] (zUp (zUp M5 154 67 a1) 154 68 0))) ∧ (¬ (z4 = a1) → K (-3) M4)))))))) ∧ (¬ (¬ z2 = 0) → K (-2) M2)))) → zSp 16 240 [.inr (.inr 154), .inl a1, .inl a2] M1 K := by
      intro M1 K hM1 hk
      rw [me_240]
      refine m_isBug (d := 13) (iM_thr hM1 0).2.2.1 b6 h1 ?_
      rw [fl_t cb]
      exact zC_i (by decide) ⟨fun q => absurd q (by decide), fun _ => hk⟩
    have bad : ¬ (0 ≤ a2 ∧ a2 ≤ 3) → zSp 16 240 [.inr (.inr 154), .inl a1, .inl a2] M (fun z2 M2 => z2 = -2 ∧ Inv M2) := fun hc => by
      refine hmb M _ hM (zC_i h2 (m_isIn (d := 14) (zr_to64 h2) (by decide) (by decide) ?_))
      rw [if_neg hc]
      exact zC_i (by decide) ⟨fun q => absurd rfl q, fun _ => ⟨rfl, hend hX0 hM0⟩⟩
    refine zC_i (by decide) ⟨fun q => absurd q (by decide), fun _ => zC_i h2 ⟨fun c2 => bad (by omega), fun c2 => zC_i h2 ⟨fun c3 => ?_, fun c3 => bad (by omega)⟩⟩⟩
    rw [xn]
    have hmc : ∀ (M1 : Mm) (K : Kt), iM G ot B J vs H n l tn tA fk fp M1 → ((oSz ot = 0 → K (-3) (zUp M1 154 0 0)) ∧ (¬ (oSz ot = 0) → zSp 15 213 [.inr (.inr 154), .inl 0, .inl 0, .inl (-1)] (zUp M1 154 0 0) (fun z4 M4 => zC (zR32 z4) (zC (zR32 a1) ((z4 = a1 → zSp 15 183 [.inr (.inr 154)] M4 (fun _ M5 => zWp (zSp 15) 240 K 66 [some (.inr (.inr 154)), some (.inl a1), some (.inl a2), some (.inl (-1))] [] (zUp (zUp M5 154 67 a1) 154 68 0))) ∧ (¬ (z4 = a1) → K (-3) M4)))))) → zSp 16 240 [.inr (.inr 154), .inl a1, .inl a2] M1 K := by
      intro M1 K hM1 hk
      refine hmb M1 K hM1 (zC_i h2 (m_isIn (d := 14) (zr_to64 h2) (by decide) (by decide) ?_))
      rw [if_pos (by omega)]
      refine zC_i (by decide) ⟨fun _ => m_many (by decide) ?_, fun q => absurd (by decide) q⟩
      rw [mTo_n (iM_thr hM1 0).2.1]
      exact zC_i (zr (by omega) (by omega)) hk
    refine zC_i (zr (by omega) (by omega)) ⟨fun c4 => ?_, fun c4 => ?_⟩
    · exact hmc M _ hM ⟨fun _ => ⟨rfl, hend hX0 hM0⟩, fun q => absurd c4 q⟩
    · match ot, hX, hM, xn, mn, ob, hI, c4, hmc with
      | none, hX, hM, xn, mn, ob, hI, c4, hmc => exact absurd rfl c4
      | some t, hX, hM, xn, mn, ob, hI, c4, hmc =>
        have hP' := hI
        obtain ⟨p1, p2, p3, p4, p5, p6, p7, p8⟩ := hP'
        have hv := (p2 t rfl).2
        have z8 := (p2 t rfl).1
        have ja := jAsk_ok (vs := vs) (t := t) (why := 0) (wh := -1) p4 z8 hv
        have hI2 := iP_ask (T := t) (why := 0) (wh := -1) hI z8 hv
        have rr : zR32 (jAsk B vs J t 0 (-1)).1 = true := zr (by omega) (by omega)
        have hn := hX.2.2.2.2.2.1.1
        -- the reference asks
        have hmd : ∀ (M1 : Mm) (K : Kt), iM G (some t) B J vs H n l tn tA fk fp M1 → (∀ M4, iM G (some t) B (jAsk B vs J t 0 (-1)).2 vs H n l tn tA fk fp M4 → (∀ c, c < 154 → M4 c = M1 c) → (((jAsk B vs J t 0 (-1)).1 = a1 → zSp 15 183 [.inr (.inr 154)] M4 (fun _ M5 => zWp (zSp 15) 240 K 66 [some (.inr (.inr 154)), some (.inl a1), some (.inl a2), some (.inl (-1))] [] (zUp (zUp M5 154 67 a1) 154 68 0))) ∧ (¬ ((jAsk B vs J t 0 (-1)).1 = a1) → K (-3) M4))) → zSp 16 240 [.inr (.inr 154), .inl a1, .inl a2] M1 K := by
          intro M1 K hM1 hk
          refine hmc M1 K hM1 ⟨fun q => absurd q c4, fun _ => ?_⟩
          have hM2 := iM_thr hM1 0
          refine m_verdictOf (d := 7) (by decide) p3 hM2.2.2.1 hM2.2.1 hv hM2.2.2.2.1 p4 hM2.2.2.2.2.1 p5 ?_
          intro M2 g1 g2 g3
          exact zC_i rr (zC_i h1 (hk M2 (Inv_mask hM2 g1 g2 g3) (fun c hc => by rw [g2 c (by omega) (by omega) (by omega) (by omega), zUp_away (by omega)])))
        refine x_ask (d := 11) xb38 p3 hX.2.2.1 hX.2.1 hv hX.2.2.2.1 p4 hX.2.2.2.2.1 (by omega) ?_
        intro M1 f1 f2 f3
        have hX1 := Inv_ask hX f1 f2 f3
        have hM1 := iM_up hM (M' := M1) (fun c hc => f2 c (by omega))
        refine zC_i rr (zC_i h1 ⟨fun q => ?_, fun q => ?_⟩)
        · have ok0 : rsOk G B (t, (jAsk B vs J t 0 (-1)).2, 0) := ⟨z8, hv, hI2.2.2.2.1⟩
          have ok1 := rRo_ok (vs := vs) (bug := a1) (how := a2) p1 100000 _ ok0
          refine x_remember (d := 11) hX1.2.2.2.2.2.1 hX1.2.1 ?_
          intro M2 k1 k2 k3
          have hX2 := iX_rem hX1 k1 k2
          rw [me_46]
          have e3 : ∀ c, c ≠ 150 → (zUp (zUp M2 150 3 a1) 150 4 0) c = M2 c := fun c hc => by rw [zUp_away hc, zUp_away hc]
          have hX3 := iX_sc hX2 (M' := zUp (zUp M2 150 3 a1) 150 4 0) (fun c hc => e3 c (by omega))
          refine x_rounds_l (d := 6) (vs := vs) (bug := a1) p1 p3 (by omega) (by omega) (by omega) 100000 _ (t, (jAsk B vs J t 0 (-1)).2, 0) 0 none (by omega) (by omega) ⟨hX3.1, hX3.2.2.1, hX3.2.1, hX3.2.2.2.1, hX3.2.2.2.2.1, by rw [zUp_there (by decide), zUp_here], zUp_here⟩ ok0 (Int.le_refl 0) (by show tSz t + 0 ≤ 80; omega) ?_
          intro M4 s1 s2
          have up : ∀ c, 154 ≤ c → M4 c = M1 c := fun c hc => by rw [s2 c (by omega), e3 c (by omega), k2 c (by omega) (by omega) (by omega)]
          have hM4 := iM_up hM1 up
          have hX4 : iX G (some (rRo G B vs a1 a2 100000 (t, (jAsk B vs J t 0 (-1)).2, 0)).1) B (rRo G B vs a1 a2 100000 (t, (jAsk B vs J t 0 (-1)).2, 0)).2.1 vs (hP H n (some t)) (hN n) tn tA fk fp M4 := by
            obtain ⟨q1, q2, q3, q4, q5, q6, q7, q8, q9, q10⟩ := hX3
            obtain ⟨r1, r2, r3, r4, r5, r6, r7⟩ := s1
            obtain ⟨a1', a2', a3', a4'⟩ := q6
            have e0 := s2 0 (by omega)
            have e1 := s2 1 (by omega)
            have e2 := s2 2 (by omega)
            refine ⟨r1, r3, r2, r4, r5, ⟨a1', by rw [e0]; exact a2', by unfold xPa; rw [e1]; exact a3', fun i i0 i1 => ?_⟩, by rw [e2]; exact q7, by rw [s2 3 (by omega)]; exact q8, by rw [e2]; exact q9, by rw [e2]; exact q10⟩
            rw [e1]
            obtain ⟨qt, q54, qe⟩ := xPa_t a3' (i := i) i0 (by omega)
            unfold xT at qt
            exact xTo_fr (a4' i i0 i1) (fun c c1 c2 => s2 c (by omega))
          refine hmd M4 _ hM4 ?_
          intro M5 hM5 w
          refine ⟨fun _ => ?_, fun q2 => absurd q q2⟩
          refine m_keeps (d := 13) hM5.2.2.2.2.2.1 hM5.2.1 ?_
          intro M6 v1 v2 v3 v4
          have hM6 := iM_rem hM5 v1 v2 v3 v4
          have hM7 := iM_fr hM6 (M' := zUp (zUp M6 154 67 a1) 154 68 0) (fun c hc => by rw [zUp_away (by omega), zUp_away (by omega)]) (fun p _ => rfl) (fun j hj => by rw [zUp_there (by omega), zUp_there (by omega)])
          refine m_rounds_l (d := 1) (vs := vs) (bug := a1) p1 p3 p5 (by omega) (by omega) 100000 _ (t, (jAsk B vs J t 0 (-1)).2, 0) (-1) (by show tSz t ≤ _; omega) (by omega) (show (-1 : Int) < 0 by decide) ⟨hM7.1, hM7.2.2.1, hM7.2.1, hM7.2.2.2.1, hM7.2.2.2.2.1, by rw [zUp_there (by decide), zUp_here], zUp_here⟩ ok0 (by show tSz t + 0 ≤ 80; omega) (Int.le_refl 0) ?_
          intro M8 y1 y2
          have dn : ∀ c, c < 154 → M8 c = M4 c := fun c hc => by rw [y2.1 c (by omega) (by omega) (by omega), zUp_away (by omega), zUp_away (by omega), v3 c (by omega) (by omega), w c hc]
          refine ⟨rfl, G, some (rRo G B vs a1 a2 100000 (t, (jAsk B vs J t 0 (-1)).2, 0)).1, B, (rRo G B vs a1 a2 100000 (t, (jAsk B vs J t 0 (-1)).2, 0)).2.1, vs, hP H n (some t), hN n, (l + 1) % 10, tn, tA, fk, fp, ⟨p1, fun t' et' => by rw [← Option.some.inj et']; exact ⟨ok1.1, ok1.2.1⟩, p3, ok1.2.2, p5, hP_ok hn p6 p2, p7, p8⟩, iX_up hX4 dn, ?_⟩
          obtain ⟨r1, r2, r3, r4, r5, r6, r7⟩ := y1
          obtain ⟨w1, w2, w3, w4, w5, w6, w7, w8, w9, w10⟩ := hM7
          exact ⟨r1, r3, r2, r4, r5, mA_fr w6 (fun p hp => y2.2.1 p (by omega)) (y2.2.2 24 (by omega)) (y2.2.2 25 (by omega)), by rw [y2.2.2 2 (by omega)]; exact w7, by rw [y2.1 155 (by decide) (by decide) (by omega)]; exact w8, by rw [y2.2.2 8 (by omega)]; exact w9, by rw [y2.2.2 9 (by omega)]; exact w10⟩
        · refine hmd M1 _ hM1 ?_
          intro M4 w1 w2
          exact ⟨fun q2 => absurd q2 q, fun _ => ⟨rfl, G, some t, B, _, vs, H, n, l, tn, tA, fk, fp, hI2, iX_up hX1 w2, w1⟩⟩
  · rw [fl_f cb]
    refine zC_i (by decide) ⟨fun _ => ?_, fun q => absurd rfl q⟩
    rw [me_240]
    refine m_isBug (d := 13) hM0.2.2.1 b6 h1 ?_
    rw [fl_f cb]
    exact zC_i (by decide) ⟨fun _ => ⟨rfl, hend hX0 hM0⟩, fun q => absurd rfl q⟩
