/-! LAYER 3: tries, change, more, undo -/
theorem x_askS {d : Nat} {M G : Mm} {K : Kt} {t : Tr} {B : List Bg} {J : Js} {vs : Int} {H : Int → Option Tr} {n tn fk fp : Int} {tA : Int → Int} {k c j : Int} (hP : iP G (some t) B J vs H n tn tA) (hX : iX G (some t) B J vs H n tn tA fk fp M) (hs : sOk G t k c j) (h1 : M 149 1 = k) (h2 : M 149 2 = c) (h3 : c = 2 → M 149 3 = j)
    (hK : ∀ M', iX G (some t) B (jAsk B vs J (sTr G t k c j) 6 k).2 vs H n tn tA fk fp M' → (∀ c, (c < 46 ∨ (54 ≤ c ∧ c < 138) ∨ 148 < c) → M' c = M c) → K (jAsk B vs J (sTr G t k c j) 6 k).1 M') : zSp (d + 6) 133 [.inr (.inr 0)] M K := by
  obtain ⟨p1, p2, p3, p4, p5, p6, p7, p8⟩ := hP
  have xb46 : xT 46 := by unfold xT; decide
  have hv := (p2 t rfl).2
  have sz := sTr_sz p1 hv hs
  rw [me_133]
  refine x_makeSingle (d := d) p1 hX.1 hX.2.1 hv hs h1 h2 h3 ?_
  intro M1 f1 f2
  have hX1 := iX_sc hX (M' := M1) (fun c hc => f2 c (by omega))
  rw [f2 149 (by omega), h1]
  refine x_ask (d := d + 1) xb46 p3 hX1.2.2.1 f1 sz.2 hX1.2.2.2.1 p4 hX1.2.2.2.2.1 (by omega) ?_
  intro M2 g1 g2 g3
  exact hK M2 (Inv_ask hX1 g1 g2 g3) (fun c hc => by rw [g2 c (by omega), f2 c (by omega)])
theorem m_askS {d : Nat} {M G : Mm} {K : Kt} {t T : Tr} {B : List Bg} {J : Js} {vs : Int} {H : Int → Option Tr} {n l tn fk fp : Int} {tA : Int → Int} {k : Int} (hP : iP G (some t) B J vs H n tn tA) (hM : iM G (some t) B J vs H n l tn tA fk fp M) (ht : mTr M 161 T) (hv : tVal (G 4 0) T)
    (hK : ∀ M', iM G (some t) B (jAsk B vs J T 6 k).2 vs H n l tn tA fk fp M' → (∀ c, c < 154 → M' c = M c) → K (jAsk B vs J T 6 k).1 M') : zSp (d + 8) 213 [.inr (.inr 154), .inl 161, .inl 6, .inl k] M K := by
  obtain ⟨p1, p2, p3, p4, p5, p6, p7, p8⟩ := hP
  refine m_verdictOf (d := d) (by decide) p3 hM.2.2.1 ht hv hM.2.2.2.1 p4 hM.2.2.2.2.1 p5 ?_
  intro M2 g1 g2 g3
  exact hK M2 (Inv_mask hM g1 g2 g3) (fun c hc => g2 c (by omega) (by omega) (by omega) (by omega))
theorem iP_ask {G : Mm} {t T : Tr} {B : List Bg} {J : Js} {vs : Int} {H : Int → Option Tr} {n tn : Int} {tA : Int → Int} {why wh : Int} (hP : iP G (some t) B J vs H n tn tA) (hz : tSz T ≤ 80) (hv : tVal (G 4 0) T) : iP G (some t) B (jAsk B vs J T why wh).2 vs H n tn tA :=
  ⟨hP.1, hP.2.1, hP.2.2.1, (jAsk_ok hP.2.2.2.1 hz hv).1, hP.2.2.2.2⟩
theorem st_18 : zStep_18 Inv := by
  intro M hI a1 h1
  obtain ⟨G, ot, B, J, vs, H, n, l, tn, tA, fk, fp, hP, hX, hM⟩ := hI
  have p1 := hP.1
  have p2 := hP.2.1
  have len := sAO_b p2
  rw [me_115]
  refine x_goTo (d := 10) p1 p2 h1 hX.1 hX.2.1 ?_ ?_
  · intro M1 hno f
    have hX1 := iX_sc hX (M' := M1) (fun c hc => f c (by omega))
    have hM1 := iM_up hM (M' := M1) (fun c hc => f c (by omega))
    refine zC_i (by decide) ⟨fun q => absurd rfl q, fun _ => ?_⟩
    rw [me_224]
    have hM2 := iM_thr hM1 0
    refine m_isLaid (d := 8) p1 p2 h1 hM2.1 hM2.2.1 ?_ (fun M2 k c j t h0 e h => ?_)
    · intro M2 _ g
      exact zC_i (by decide) ⟨fun _ => ⟨rfl, G, ot, B, J, vs, H, n, l, tn, tA, fk, fp, hP, iX_s (iX_thr hX1 0 0) g, iM_s hM2 g⟩, fun q => absurd rfl q⟩
    · exfalso
      have := (List.getElem?_eq_some_iff.mp h).1
      omega
  · intro M1 k c' j h0 hg1 f f1 f2 f3
    have hX1 := iX_sc hX (M' := M1) (fun c hc => f c (by omega))
    have hM1 := iM_up hM (M' := M1) (fun c hc => f c (by omega))
    refine zC_i (by decide) ⟨fun _ => ?_, fun q => absurd (by decide) q⟩
    match ot, hP, p2, len, hX1, hM1, hg1 with
    | none, hP, p2, len, hX1, hM1, hg1 =>
      have hg1 : ([] : List Sg)[a1.toNat]? = some (k, c', j) := hg1
      rw [List.getElem?_nil] at hg1
      exact absurd hg1 (by simp)
    | some t, hP, p2, len, hX1, hM1, hg1 =>
      have ok := sAO_ok hg1
      have hlt := (List.getElem?_eq_some_iff.mp hg1).1
      have hv := (p2 t rfl).2
      have sz := sTr_sz p1 hv ok
      refine x_askS (d := 9) hP hX1 ok f1 f2 f3 ?_
      intro M2 hX2 g
      have hM2 := iM_thr (iM_up hM1 (M' := M2) (fun c hc => g c (by omega))) 0
      rw [me_224]
      refine m_isLaid (d := 8) p1 p2 h1 hM2.1 hM2.2.1 (fun M2 hno => absurd ⟨h0, by omega⟩ hno) ?_
      intro M3 k2 c2' j2 t2 _ et hg2 g1 g2 g3 g4 g5
      have et : t = t2 := Option.some.inj et
      subst et
      have ee : (k2, c2', j2) = (k, c', j) := by
        rw [hg1] at hg2
        exact (Option.some.inj hg2).symm
      simp only [Prod.mk.injEq] at ee
      obtain ⟨e1, e2, e3⟩ := ee
      subst e1; subst e2; subst e3
      refine zC_i (by decide) ⟨fun q => absurd q (by decide), fun _ => ?_⟩
      rw [g3]
      refine m_askS (d := 7) hP (iM_s hM2 g1) g2 sz.2 ?_
      intro M4 hM4 w
      exact ⟨rfl, G, some t, B, _, vs, H, n, l, tn, tA, fk, fp, iP_ask hP (by have := (p2 t rfl).1; omega) sz.2, iX_up (iX_s (iX_thr hX2 0 0) g1) w, hM4⟩
-- more
noncomputable def mo (G : Mm) (B : List Bg) (vs v0 : Int) (t : Tr) : List Sg → Int → Js → Int × Js
  | [], _, J => (-1, J)
  | s :: L, i, J => if (jAsk B vs J (sTr G t s.1 s.2.1 s.2.2) 6 s.1).1 = v0 then (i, (jAsk B vs J (sTr G t s.1 s.2.1 s.2.2) 6 s.1).2) else mo G B vs v0 t L (i + 1) (jAsk B vs J (sTr G t s.1 s.2.1 s.2.2) 6 s.1).2
theorem sRep_fr {G M M' : Mm} {t : Tr} {L : List Sg} (h : sRep G M t L) (f : M' 149 = M 149) : sRep G M' t L := by
  unfold sRep
  rw [f]
  exact h
theorem x_more_l {d : Nat} {G : Mm} {K : Kt} {t : Tr} {B : List Bg} {vs v0 : Int} {H : Int → Option Tr} {n tn fk fp : Int} {tA : Int → Int} (hv0 : zR32 v0 = true) : ∀ (L : List Sg) (M : Mm) (i : Int) (J : Js), (∀ s ∈ L, sOk G t s.1 s.2.1 s.2.2) → 0 ≤ i → i + L.length ≤ 6480 → iP G (some t) B J vs H n tn tA → iX G (some t) B J vs H n tn tA fk fp M → sRep G M t L →
    (∀ M', iP G (some t) B (mo G B vs v0 t L i J).2 vs H n tn tA → iX G (some t) B (mo G B vs v0 t L i J).2 vs H n tn tA fk fp M' → (∀ c, (c < 46 ∨ (54 ≤ c ∧ c < 138) ∨ 149 < c) → M' c = M c) → K (mo G B vs v0 t L i J).1 M') →
    zWp (zSp (d + 6)) 117 K 44 [some (.inr (.inr 0)), some (.inl v0), some (.inl i)] [] M
  | [], M, i, J, hs, h0, hl, hP, hX, hr, hK => by
    have hl : i + 0 ≤ 6480 := hl
    rw [fe_117_44]
    (repeat (first | (with_reducible refine zC_i ?hob ?_; case hob => first | assumption | decide | exact zr (by omega) (by omega) | exact zs (by omega) (by omega) | exact zd (by omega) (by omega)) | (with_reducible refine zIfT ?hob ?_; case hob => first | assumption | omega | decide) | (with_reducible refine zIfF ?hob ?_; case hob => first | assumption | omega | decide)))
    refine x_step (d := d + 2) hP.1 hX.1 hX.2.1 (hP.2.1 t rfl).2 hr ?_
    intro M' f
    (repeat (first | (with_reducible refine zC_i ?hob ?_; case hob => first | assumption | decide | exact zr (by omega) (by omega) | exact zs (by omega) (by omega) | exact zd (by omega) (by omega)) | (with_reducible refine zIfT ?hob ?_; case hob => first | assumption | omega | decide) | (with_reducible refine zIfF ?hob ?_; case hob => first | assumption | omega | decide)))
    exact hK M' hP (iX_sc hX (fun c hc => f c (by omega))) (fun c hc => f c (by omega))
  | (k, c, j) :: L, M, i, J, hs, h0, hl, hP, hX, hr, hK => by
    have hl : i + ((L.length + 1 : Nat) : Int) ≤ 6480 := hl
    have ok : sOk G t k c j := hs (k, c, j) List.mem_cons_self
    have sz := sTr_sz hP.1 (hP.2.1 t rfl).2 ok
    have z8 := (hP.2.1 t rfl).1
    have ja := jAsk_ok (vs := vs) (t := sTr G t k c j) (why := 6) (wh := k) hP.2.2.2.1 (by omega) sz.2
    have b6 := hP.2.2.1.1
    unfold mo at hK
    rw [fe_117_44]
    (repeat (first | (with_reducible refine zC_i ?hob ?_; case hob => first | assumption | decide | exact zr (by omega) (by omega) | exact zs (by omega) (by omega) | exact zd (by omega) (by omega)) | (with_reducible refine zIfT ?hob ?_; case hob => first | assumption | omega | decide) | (with_reducible refine zIfF ?hob ?_; case hob => first | assumption | omega | decide)))
    refine x_step (d := d + 2) hP.1 hX.1 hX.2.1 (hP.2.1 t rfl).2 hr ?_
    intro M1 f f1 f2 f3 f4
    have hX1 := iX_sc hX (M' := M1) (fun c hc => f c (by omega))
    refine zC_i (by decide) ⟨fun q => absurd q (by decide), fun _ => ?_⟩
    refine x_askS (d := d) hP hX1 ok f1 f2 f3 ?_
    intro M2 hX2 g
    refine zC_i (zr (by omega) (by omega)) (zC_i hv0 ⟨fun q => ?_, fun q => ?_⟩)
    · rw [if_neg q] at hK
      refine x_more_l hv0 L M2 (i + 1) _ (fun s hs2 => hs s (List.mem_cons_of_mem _ hs2)) (by omega) (by omega) (iP_ask hP (by omega) sz.2) hX2 (sRep_fr f4 (g 149 (by omega))) ?_
      intro M3 u1 u2 u3
      exact hK M3 u1 u2 (fun c hc => by rw [u3 c (by omega), g c (by omega), f c (by omega)])
    · rw [if_pos (Decidable.not_not.mp q)] at hK
      exact hK M2 (iP_ask hP (show tSz (sTr G t k c j) ≤ 80 by omega) sz.2) hX2 (fun c hc => by rw [g c (by omega), f c (by omega)])
theorem m_more_l {d : Nat} {G : Mm} {K : Kt} {t : Tr} {B : List Bg} {vs v0 : Int} {H : Int → Option Tr} {n l tn fk fp : Int} {tA : Int → Int} (hv0 : zR32 v0 = true) : ∀ (L : List Sg) (M : Mm) (a : Nat) (i : Int) (J : Js), i = a → (∀ p, L[p]? = (sAll G t)[a + p]?) → a + L.length = (sAll G t).length → iP G (some t) B J vs H n tn tA → iM G (some t) B J vs H n l tn tA fk fp M →
    (∀ M', iM G (some t) B (mo G B vs v0 t L i J).2 vs H n l tn tA fk fp M' → (∀ c, c < 154 → M' c = M c) → K (mo G B vs v0 t L i J).1 M') →
    zWp (zSp (d + 8)) 226 K 35 [some (.inr (.inr 154)), some (.inl v0), some (.inl i)] [] M
  | [], M, a, i, J, hi, hL, hl, hP, hM, hK => by
    have hl : a + 0 = (sAO G (some t)).length := hl
    have len := sAO_b hP.2.1
    rw [fe_226_35]
    refine m_isLaid (d := d + 1) hP.1 hP.2.1 (zr (by omega) (by omega)) hM.1 hM.2.1 ?_ (fun M2 k c j t h0 e h => ?_)
    · intro M2 _ g
      exact zC_i (by decide) ⟨fun _ => hK M2 (iM_s hM g) (fun c hc => g.1 c (by omega) (by omega) (by omega)), fun q => absurd rfl q⟩
    · exfalso
      have := (List.getElem?_eq_some_iff.mp h).1
      omega
  | (k, c, j) :: L, M, a, i, J, hi, hL, hl, hP, hM, hK => by
    have hl' : a + (L.length + 1) = (sAO G (some t)).length := hl
    have len := sAO_b hP.2.1
    have hg1 : (sAO G (some t))[i.toNat]? = some (k, c, j) := by
      have := hL 0
      rw [show i.toNat = a + 0 by omega]
      exact this.symm
    have ok := sAO_ok hg1
    have sz := sTr_sz hP.1 (hP.2.1 t rfl).2 ok
    have z8 := (hP.2.1 t rfl).1
    have ja := jAsk_ok (vs := vs) (t := sTr G t k c j) (why := 6) (wh := k) hP.2.2.2.1 (by omega) sz.2
    have b6 := hP.2.2.1.1
    unfold mo at hK
    rw [fe_226_35]
    refine m_isLaid (d := d + 1) hP.1 hP.2.1 (zr (by omega) (by omega)) hM.1 hM.2.1 (fun M2 hno => absurd ⟨by omega, by omega⟩ hno) ?_
    intro M1 k2 c2' j2 t2 _ et hg2 g1 g2 g3 g4 g5
    have et : t = t2 := Option.some.inj et
    subst et
    have ee : (k2, c2', j2) = (k, c, j) := by
      rw [hg1] at hg2
      exact (Option.some.inj hg2).symm
    simp only [Prod.mk.injEq] at ee
    obtain ⟨e1, e2, e3⟩ := ee
    subst e1; subst e2; subst e3
    refine zC_i (by decide) ⟨fun q => absurd q (by decide), fun _ => ?_⟩
    rw [g3]
    refine m_askS (d := d) hP (iM_s hM g1) g2 sz.2 ?_
    intro M2 hM2 w
    have fr : ∀ c, c < 154 → M2 c = M c := fun c hc => by rw [w c hc, g1.1 c (by omega) (by omega) (by omega)]
    refine zC_i (zr (by omega) (by omega)) (zC_i hv0 ⟨fun q => ?_, fun q => ?_⟩)
    · rw [if_neg q] at hK
      refine m_more_l hv0 L M2 (a + 1) (i + 1) _ (by omega) (fun p => ?_) (by show a + 1 + L.length = (sAO G (some t)).length; omega) (iP_ask hP (by omega) sz.2) hM2 ?_
      · have := hL (p + 1)
        rw [show a + 1 + p = a + (p + 1) by omega]
        exact this
      · intro M3 u1 u2
        exact hK M3 u1 (fun c hc => by rw [u2 c hc, fr c hc])
    · rw [if_pos (Decidable.not_not.mp q)] at hK
      exact hK M2 hM2 fr
theorem st_20 : zStep_20 Inv := by
  intro M hI
  obtain ⟨G, ot, B, J, vs, H, n, l, tn, tA, fk, fp, hP, hX, hM⟩ := hI
  have hend : Inv (zUp M 154 0 0) := ⟨G, ot, B, J, vs, H, n, l, tn, tA, fk, fp, hP, iX_thr hX _ _, iM_thr hM 0⟩
  have ob := oSz_b hP.2.1
  have xn := xTo_n hX.2.1
  have mn := mTo_n hM.2.1
  have xb38 : xT 38 := by unfold xT; decide
  rw [me_117, xn]
  refine zC_i (zr (by omega) (by omega)) ⟨fun c => ?_, fun c => ?_⟩
  · match ot, hX, hM, xn, mn, ob, hP, c with
    | none, hX, hM, xn, mn, ob, hP, c => exact absurd rfl c
    | some t, hX, hM, xn, mn, ob, hP, c =>
      have hP' := hP
      obtain ⟨p1, p2, p3, p4, p5, p6, p7, p8⟩ := hP'
      have hv := (p2 t rfl).2
      have z8 := (p2 t rfl).1
      have b6 := p3.1
      have len := sAO_b p2
      have ja := jAsk_ok (vs := vs) (t := t) (why := 0) (wh := -1) p4 (p2 t rfl).1 hv
      have hP2 := iP_ask (T := t) (why := 0) (wh := -1) hP z8 hv
      have rr : zR32 (jAsk B vs J t 0 (-1)).1 = true := zr (by omega) (by omega)
      -- the reference, up to its loop
      have hm : ∀ (M1 : Mm) (K : Kt), iM G (some t) B J vs H n l tn tA fk fp M1 → (∀ M2, iM G (some t) B (jAsk B vs J t 0 (-1)).2 vs H n l tn tA fk fp M2 → (∀ c, c < 154 → M2 c = M1 c) → zWp (zSp 15) 226 K 24 [some (.inr (.inr 154)), none, none] [.inl (jAsk B vs J t 0 (-1)).1] M2) → zSp 16 226 [.inr (.inr 154)] M1 K := by
        intro M1 K hM1 hk
        have hM2 := iM_thr hM1 0
        rw [me_226]
        refine m_many (by decide) ?_
        rw [mTo_n hM2.2.1]
        refine zC_i (zr (by omega) (by omega)) ⟨fun _ => ?_, fun q => absurd c q⟩
        refine m_verdictOf (d := 7) (by decide) p3 hM2.2.2.1 hM2.2.1 hv hM2.2.2.2.1 p4 hM2.2.2.2.2.1 p5 ?_
        intro M2 g1 g2 g3
        exact hk M2 (Inv_mask hM2 g1 g2 g3) (fun c hc => by rw [g2 c (by omega) (by omega) (by omega) (by omega), zUp_away (by omega)])
      refine x_ask (d := 11) xb38 p3 hX.2.2.1 hX.2.1 hv hX.2.2.2.1 p4 hX.2.2.2.2.1 (by omega) ?_
      intro M1 f1 f2 f3
      have hX1 := Inv_ask hX f1 f2 f3
      have hM1 := iM_up hM (M' := M1) (fun c hc => f2 c (by omega))
      refine zC_i rr ⟨fun q => ?_, fun q => ?_⟩
      · refine x_sstart (d := 13) (G := G) (t := t) ?_
        intro M2 g1 g2 g3
        have hX2 := iX_sc hX1 (M' := M2) (fun c hc => g1 c (by omega))
        have hM2 := iM_up hM1 (M' := M2) (fun c hc => g1 c (by omega))
        have e0 : (sAll G t).length = (sAO G (some t)).length := rfl
        refine x_more_l (d := 9) rr (sAll G t) M2 0 _ (fun s hs => ?_) (by omega) (by omega) hP2 hX2 g2 ?_
        · have q := tSz_pos t
          exact sL_ok (G := G) (t := t) (tSz t).toNat 0 (by omega) (by omega) s hs
        · intro M3 u1 u2 u3
          have hM3 := iM_up hM2 (M' := M3) (fun c hc => u3 c (by omega))
          refine hm M3 _ hM3 ?_
          intro M4 w1 w2
          rw [fe_226_24]
          refine zC_i rr ⟨fun _ => ?_, fun q2 => absurd q q2⟩
          refine m_more_l (d := 7) rr (sAll G t) M4 0 0 _ rfl (fun p => by rw [Nat.zero_add]) (by omega) hP2 w1 ?_
          intro M5 v1 v2
          exact ⟨rfl, G, some t, B, _, vs, H, n, l, tn, tA, fk, fp, u1, iX_up u2 (fun c hc => by rw [v2 c hc, w2 c hc]), v1⟩
      · refine hm M1 _ hM1 ?_
        intro M4 w1 w2
        rw [fe_226_24]
        refine zC_i rr ⟨fun q2 => absurd q2 q, fun _ => ?_⟩
        exact ⟨rfl, G, some t, B, _, vs, H, n, l, tn, tA, fk, fp, hP2, iX_up hX1 w2, w1⟩
  · rw [me_226]
    refine m_many (by decide) ?_
    rw [zUp_away (by decide), mn]
    refine zC_i (zr (by omega) (by omega)) ⟨fun q => absurd q c, fun _ => ?_⟩
    rw [fe_226_24]
    exact zC_i (by decide) ⟨fun q => absurd rfl q, fun _ => ⟨rfl, hend⟩⟩
