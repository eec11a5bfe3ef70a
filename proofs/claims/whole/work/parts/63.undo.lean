/-! LAYER 3: change, undo, reduce -/
theorem hP_ok {G : Mm} {H : Int → Option Tr} {n : Int} {ot : Option Tr} (hn : 0 ≤ n ∧ n ≤ 10) (h : ∀ i, 0 ≤ i → i < n → tOk G (H i)) (ho : tOk G ot) : ∀ i, 0 ≤ i → i < hN n → tOk G (hP H n ot i) := by
  intro i i0 i1
  unfold hN at i1
  unfold hP
  by_cases c : n = 10
  · rw [if_pos c] at i1 ⊢
    show tOk G (if i = 9 then ot else H (i + 1))
    by_cases c9 : i = 9
    · rw [if_pos c9]; exact ho
    · rw [if_neg c9]; exact h (i + 1) (by omega) (by omega)
  · rw [if_neg c] at i1 ⊢
    show tOk G (if i = n then ot else H i)
    by_cases c9 : i = n
    · rw [if_pos c9]; exact ho
    · rw [if_neg c9]; exact h i i0 (by omega)
/-- after remember -/
theorem iX_rem {G : Mm} {ot : Option Tr} {B : List Bg} {J : Js} {vs : Int} {H H' : Int → Option Tr} {n n' tn fk fp : Int} {tA : Int → Int} {M M' : Mm} (h : iX G ot B J vs H n tn tA fk fp M) (ha : xA M' H' n') (f : ∀ c, c ≠ 0 → c ≠ 1 → (c < 54 ∨ 134 ≤ c) → M' c = M c) : iX G ot B J vs H' n' tn tA fk fp M' := by
  obtain ⟨q1, q2, q3, q4, q5, q6, q7, q8, q9, q10⟩ := h
  have e2 := f 2 (by decide) (by decide) (by omega)
  have e3 := f 3 (by decide) (by decide) (by omega)
  have e147 := f 147 (by decide) (by decide) (by omega)
  obtain ⟨j1, j2, j3, j4, j5⟩ := q4
  exact ⟨xG_fr q1 fun c c1 c2 => f c (by omega) (by omega) (by omega), xTo_fr q2 (fun c c1 c2 => f c (by omega) (by omega) (by omega)), xBg_fr q3 fun c c1 c2 => f c (by omega) (by omega) (by omega), ⟨xTd_fr j1 (fun c c1 c2 => f c (by omega) (by omega) (by omega)) (by rw [f 138 (by decide) (by decide) (by omega)]), by rw [e147]; exact j2, by rw [e147]; exact j3, by rw [e147]; exact j4, by rw [e147]; exact j5⟩, by rw [e147]; exact q5, ha, by rw [e2]; exact q7, by rw [e3]; exact q8, by rw [e2]; exact q9, by rw [e2]; exact q10⟩
theorem iM_rem {G : Mm} {ot : Option Tr} {B : List Bg} {J : Js} {vs : Int} {H H' : Int → Option Tr} {n n' l l' tn fk fp : Int} {tA : Int → Int} {M M' : Mm} (h : iM G ot B J vs H n l tn tA fk fp M) (ha : mA M' H' n' l') (ft : ∀ i, i < 483 → M' 165 i = M 165 i) (f : ∀ c, c ≠ 165 → c ≠ 154 → M' c = M c) (f0 : ∀ j, j ≠ 24 → j ≠ 25 → M' 154 j = M 154 j) : iM G ot B J vs H' n' l' tn tA fk fp M' := by
  obtain ⟨w1, w2, w3, w4, w5, w6, w7, w8, w9, w10⟩ := h
  exact ⟨mG_fr w1 (f 156 (by decide) (by decide)) (f 157 (by decide) (by decide)) (f 158 (by decide) (by decide)) (f 162 (by decide) (by decide)) (f 163 (by decide) (by decide)), mTo_fr w2 (fun i _ _ => ft i (by omega)), mBg_fr w3 (fun c hc => f c (by omega) (by omega)) (f0 37 (by decide) (by decide)), mJ_fr w4 (fun c c1 c2 => f c (by omega) (by omega)) (fun j hj => f0 j (by omega) (by omega)), by rw [f0 48 (by decide) (by decide)]; exact w5, ha, by rw [f0 2 (by decide) (by decide)]; exact w7, by rw [f 155 (by decide) (by decide)]; exact w8, by rw [f0 8 (by decide) (by decide)]; exact w9, by rw [f0 9 (by decide) (by decide)]; exact w10⟩
/-- after the input has changed -/
theorem iX_in {G : Mm} {ot ot' : Option Tr} {B : List Bg} {J : Js} {vs : Int} {H : Int → Option Tr} {n tn fk fp : Int} {tA : Int → Int} {M M' : Mm} (h : iX G ot B J vs H n tn tA fk fp M) (ht : xTo M' 38 ot') (f : ∀ c, c < 38 ∨ 46 ≤ c → M' c = M c) : iX G ot' B J vs H n tn tA fk fp M' := by
  obtain ⟨q1, q2, q3, q4, q5, q6, q7, q8, q9, q10⟩ := h
  have e0 := f 0 (by omega)
  have e1 := f 1 (by omega)
  have e2 := f 2 (by omega)
  have e3 := f 3 (by omega)
  have e147 := f 147 (by omega)
  obtain ⟨j1, j2, j3, j4, j5⟩ := q4
  obtain ⟨a1, a2, a3, a4⟩ := q6
  refine ⟨xG_fr q1 fun c c1 c2 => f c (by omega), ht, xBg_fr q3 fun c c1 c2 => f c (by omega), ⟨xTd_fr j1 (fun c c1 c2 => f c (by omega)) (by rw [f 138 (by omega)]), by rw [e147]; exact j2, by rw [e147]; exact j3, by rw [e147]; exact j4, by rw [e147]; exact j5⟩, by rw [e147]; exact q5, ⟨a1, by rw [e0]; exact a2, by unfold xPa; rw [e1]; exact a3, fun i i0 i1 => ?_⟩, by rw [e2]; exact q7, by rw [e3]; exact q8, by rw [e2]; exact q9, by rw [e2]; exact q10⟩
  rw [e1]
  obtain ⟨qt, q54, qe⟩ := xPa_t a3 (i := i) i0 (by omega)
  unfold xT at qt
  exact xTo_fr (a4 i i0 i1) (fun c c1 c2 => f c (by omega))
theorem iM_in {G : Mm} {ot ot' : Option Tr} {B : List Bg} {J : Js} {vs : Int} {H : Int → Option Tr} {n l tn fk fp : Int} {tA : Int → Int} {M M' : Mm} (h : iM G ot B J vs H n l tn tA fk fp M) (ht : mTo M' 0 ot') (f : ∀ i, 161 ≤ i → M' 165 i = M 165 i) (f2 : ∀ c, c ≠ 165 → M' c = M c) : iM G ot' B J vs H n l tn tA fk fp M' := by
  obtain ⟨w1, w2, w3, w4, w5, w6, w7, w8, w9, w10⟩ := h
  have e154 := f2 154 (by decide)
  exact ⟨mG_fr w1 (f2 156 (by decide)) (f2 157 (by decide)) (f2 158 (by decide)) (f2 162 (by decide)) (f2 163 (by decide)), ht, mBg_fr w3 (fun c hc => f2 c (by omega)) (by rw [e154]), mJ_fr w4 (fun c c1 c2 => f2 c (by omega)) (fun j hj => by rw [e154]), by rw [e154]; exact w5, mA_fr w6 (fun p hp => f p (by omega)) (by rw [e154]) (by rw [e154]), by rw [e154]; exact w7, by rw [f2 155 (by decide)]; exact w8, by rw [e154]; exact w9, by rw [e154]; exact w10⟩
/-- after the memory of what was tried was emptied -/
theorem iX_new {G : Mm} {ot : Option Tr} {B : List Bg} {J : Js} {vs : Int} {H : Int → Option Tr} {n tn fk fp : Int} {tA : Int → Int} {M M' : Mm} (h : iX G ot B J vs H n tn tA fk fp M) (ht : xTd M' []) (f : ∀ c, c ≠ 138 → c ≠ 145 → M' c = M c) : iX G ot B (jNew J J.2.1) vs H n tn tA fk fp M' := by
  have q4 := h.2.2.2.1
  have e147 := f 147 (by decide) (by decide)
  obtain ⟨q1, q2, q3, _, q5, q6, q7, q8, q9, q10⟩ := h
  obtain ⟨a1, a2, a3, a4⟩ := q6
  have e0 := f 0 (by decide) (by decide)
  have e1 := f 1 (by decide) (by decide)
  have e2 := f 2 (by decide) (by decide)
  refine ⟨xG_fr q1 fun c c1 c2 => f c (by omega) (by omega), xTo_fr q2 (fun c c1 c2 => f c (by omega) (by omega)), xBg_fr q3 fun c c1 c2 => f c (by omega) (by omega), ⟨ht, by rw [e147]; exact q4.2.1, by rw [e147]; exact q4.2.2.1, by rw [e147]; exact q4.2.2.2.1, by rw [e147]; exact q4.2.2.2.2⟩, by rw [e147]; exact q5, ⟨a1, by rw [e0]; exact a2, by unfold xPa; rw [e1]; exact a3, fun i i0 i1 => ?_⟩, by rw [e2]; exact q7, by rw [f 3 (by decide) (by decide)]; exact q8, by rw [e2]; exact q9, by rw [e2]; exact q10⟩
  rw [e1]
  obtain ⟨qt, q54, qe⟩ := xPa_t a3 (i := i) i0 (by omega)
  unfold xT at qt
  exact xTo_fr (a4 i i0 i1) (fun c c1 c2 => f c (by omega) (by omega))
theorem iM_new {G : Mm} {ot : Option Tr} {B : List Bg} {J : Js} {vs : Int} {H : Int → Option Tr} {n l tn fk fp : Int} {tA : Int → Int} {M : Mm} (h : iM G ot B J vs H n l tn tA fk fp M) : iM G ot B (jNew J J.2.1) vs H n l tn tA fk fp (zUp M 154 57 0) := by
  obtain ⟨w1, w2, w3, w4, w5, w6, w7, w8, w9, w10⟩ := h
  exact ⟨mG_fr w1 rfl rfl rfl rfl rfl, mTo_fr w2 (fun _ _ _ => rfl), mBg_fr w3 (fun c hc => zUp_away (by omega)) rfl, ⟨mTd_nil (by rw [zUp_here]), w4.2.1, w4.2.2.1, w4.2.2.2.1, w4.2.2.2.2⟩, w5, mA_fr w6 (fun p _ => rfl) rfl rfl, w7, w8, w9, w10⟩
theorem st_19 : zStep_19 Inv := by
  intro M hI a1 h1
  obtain ⟨G, ot, B, J, vs, H, n, l, tn, tA, fk, fp, hP, hX, hM⟩ := hI
  have p1 := hP.1
  have p2 := hP.2.1
  have len := sAO_b p2
  have xb38 : xT 38 := by unfold xT; decide
  have xb46 : xT 46 := by unfold xT; decide
  rw [me_116]
  refine x_goTo (d := 10) p1 p2 h1 hX.1 hX.2.1 ?_ ?_
  · intro M1 hno f
    have hX1 := iX_sc hX (M' := M1) (fun c hc => f c (by omega))
    have hM1 := iM_up hM (M' := M1) (fun c hc => f c (by omega))
    refine zC_i (by decide) ⟨fun q => absurd rfl q, fun _ => ?_⟩
    rw [me_225]
    have hM2 := iM_thr hM1 0
    refine m_isLaid (d := 8) p1 p2 h1 hM2.1 hM2.2.1 ?_ (fun M2 k c j t h0 e h => ?_)
    · intro M2 _ g
      exact zC_i (by decide) ⟨fun q => absurd rfl q, fun _ => ⟨rfl, G, ot, B, J, vs, H, n, l, tn, tA, fk, fp, hP, iX_s (iX_thr hX1 0 0) g, iM_s hM2 g⟩⟩
    · exfalso
      have := (List.getElem?_eq_some_iff.mp h).1
      omega
  · intro M1 k c' j h0 hg1 f f1 f2 f3
    have hX1 := iX_sc hX (M' := M1) (fun c hc => f c (by omega))
    have hM1 := iM_up hM (M' := M1) (fun c hc => f c (by omega))
    refine zC_i (by decide) ⟨fun _ => ?_, fun q => absurd (by decide) q⟩
    match ot, hP, p2, len, hX1, hM1, hg1 with
    | none, hP, p2, len, hX1, hM1, hg1 =>
      have hg1 : ([] : List Sg)[a1.toNat]? = some (k, c', j) := hg1
      rw [List.getElem?_nil] at hg1
      exact absurd hg1 (by simp)
    | some t, hP, p2, len, hX1, hM1, hg1 =>
      have ok := sAO_ok hg1
      have hlt := (List.getElem?_eq_some_iff.mp hg1).1
      have hv := (p2 t rfl).2
      have z8 := (p2 t rfl).1
      have sz := sTr_sz p1 hv ok
      have hn := hX.2.2.2.2.2.1.1
      refine x_makeSingle (d := 10) p1 hX1.1 hX1.2.1 hv ok f1 f2 f3 ?_
      intro M2 g1 g2
      have hX2 := iX_sc hX1 (M' := M2) (fun c hc => g2 c (by omega))
      refine x_remember (d := 11) hX2.2.2.2.2.2.1 hX2.2.1 ?_
      intro M3 k1 k2 k3
      have hX3 := iX_rem hX2 k1 k2
      have ht3 : xTo M3 46 (some (sTr G t k c' j)) := xTr_fr g1 (fun c c1 c2 => k2 c (by omega) (by omega) (by omega))
      refine x_copyFrom (d := 12) xb38 xb46 (by decide) ht3 ?_
      intro M4 u1 u2
      have hX4 := iX_in hX3 u1 u2
      have up : ∀ c, 154 ≤ c → M4 c = M1 c := fun c hc => by rw [u2 c (by omega), k2 c (by omega) (by omega) (by omega), g2 c (by omega)]
      have hM4 := iM_thr (iM_up hM1 (M' := M4) up) 0
      have e38 : M4 38 1 = tSz (sTr G t k c' j) := xTo_n u1
      rw [me_225, e38]
      refine m_isLaid (d := 8) p1 p2 h1 hM4.1 hM4.2.1 (fun M2 hno => absurd ⟨h0, by omega⟩ hno) ?_
      intro M5 k2' c2' j2 t2 _ et hg2 w1 w2 w3 w4 w5
      have et : t = t2 := Option.some.inj et
      subst et
      have ee : (k2', c2', j2) = (k, c', j) := by
        rw [hg1] at hg2
        exact (Option.some.inj hg2).symm
      simp only [Prod.mk.injEq] at ee
      obtain ⟨e1, e2, e3⟩ := ee
      subst e1; subst e2; subst e3
      have hM5 := iM_s hM4 w1
      have hX5 := iX_s (iX_thr hX4 0 0) w1
      refine zC_i (by decide) ⟨fun _ => ?_, fun q => absurd (by decide) q⟩
      refine m_keeps (d := 13) hM5.2.2.2.2.2.1 hM5.2.1 ?_
      intro M6 v1 v2 v3 v4
      have hM6 := iM_rem hM5 v1 v2 v3 v4
      have ht6 : mTo M6 161 (some (sTr G t k2' c2' j2)) := mTr_fr w2 (fun i _ _ => v2 i (by omega))
      refine m_copies (d := 14) (by decide) (by decide) (by decide) ht6 ?_
      intro M7 y1 y2 y3
      have hM7 := iM_in hM6 y1 (fun i hi => y2 i (by omega)) y3
      refine m_many (by decide) ⟨mTo_n y1, G, some (sTr G t k2' c2' j2), B, J, vs, _, _, _, tn, tA, fk, fp, ?_, iX_up hX5 (fun c hc => by rw [y3 c (by omega), v3 c (by omega) (by omega)]), hM7⟩
      exact ⟨p1, fun t' et' => by rw [← Option.some.inj et']; exact ⟨by omega, sz.2⟩, hP.2.2.1, hP.2.2.2.1, hP.2.2.2.2.1, hP_ok hn hP.2.2.2.2.2.1 p2, hP.2.2.2.2.2.2⟩
theorem st_30 : zStep_30 Inv := by
  intro M hI
  obtain ⟨G, ot, B, J, vs, H, n, l, tn, tA, fk, fp, hP, hX, hM⟩ := hI
  have hend : Inv (zUp M 154 0 0) := ⟨G, ot, B, J, vs, H, n, l, tn, tA, fk, fp, hP, iX_thr hX _ _, iM_thr hM 0⟩
  have xb38 : xT 38 := by unfold xT; decide
  have xa := hX.2.2.2.2.2.1
  have ma := hM.2.2.2.2.2.1
  have hn := xa.1
  have hl := ma.2.1
  rw [me_127, xa.2.1]
  refine zC_i (zr (by omega) (by omega)) ⟨fun c => ?_, fun c => ?_⟩
  · obtain ⟨qt, q54, qe⟩ := xPa_t xa.2.2.1 (i := n - 1) (by omega) (by omega)
    have qt' := qt
    unfold xT at qt'
    refine zC_i (zs (by omega) (by omega)) ?_
    have ht : xTo (zUp M 0 8 (n - 1)) (M 1 (n - 1)).toNat (H (n - 1)) := xTo_fr (xa.2.2.2 (n - 1) (by omega) (by omega)) (fun c c1 c2 => zUp_away (by omega))
    refine x_copyFrom (d := 12) xb38 qt (by omega) ht ?_
    intro M1 f1 f2
    have hX0 : iX G ot B J vs H (n - 1) tn tA fk fp (zUp M 0 8 (n - 1)) := by
      obtain ⟨q1, q2, q3, q4, q5, q6, q7⟩ := hX
      refine ⟨xG_fr q1 fun c c1 c2 => zUp_away (by omega), xTo_fr q2 (fun c c1 c2 => zUp_away (by omega)), xBg_fr q3 fun c c1 c2 => zUp_away (by omega), xJ_fr q4 (fun c c1 c2 => zUp_away (by omega)), by rw [zUp_away (by decide)]; exact q5, ⟨by omega, zUp_here, q6.2.2.1, fun i i0 i1 => ?_⟩, q7⟩
      obtain ⟨rt, r54, re⟩ := xPa_t q6.2.2.1 (i := i) (by omega) (by omega)
      show xTo _ (M 1 i).toNat _
      exact xTo_fr (q6.2.2.2 i i0 (by omega)) (fun c c1 c2 => zUp_away (by omega))
    have hX1 := iX_in hX0 f1 f2
    refine x_forget (d := 13) ?_
    intro M2 g1 g2
    have hX2 := iX_new hX1 g1 g2
    have up : ∀ c, 154 ≤ c → M2 c = M c := fun c hc => by rw [g2 c (by omega) (by omega), f2 c (by omega), zUp_away (by omega)]
    have hM2 := iM_up hM (M' := M2) up
    have ma2 := hM2.2.2.2.2.2.1
    rw [hX2.2.2.2.2.2.1.2.1, me_184, ma2.2.2.1, ma2.2.2.2.1]
    refine zC_i (zr (by omega) (by omega)) ⟨fun _ => ?_, fun q => absurd (by omega) q⟩
    have hM3 := iM_thr hM2 0
    have hh : mTo (zUp M2 154 0 0) (483 + 161 * l) (H (n - 1)) := by
      have := hM3.2.2.2.2.2.1.2.2.2.2 (n - 1) (by omega) (by omega)
      rw [show (l - (n - 1 - (n - 1))) % 10 = l by omega] at this
      exact this
    refine m_copies (d := 14) (by decide) (by omega) (by omega) hh ?_
    intro M4 y1 y2 y3
    have hM4 := iM_in hM3 y1 (fun i hi => y2 i (by omega)) y3
    have ma4 := hM4.2.2.2.2.2.1
    rw [ma4.2.2.1, ma4.2.2.2.1]
    refine zC_i (zr (by omega) (by omega)) (zC_i (by first | assumption | decide | exact zr (by omega) (by omega) | exact zs (by omega) (by omega) | exact zd (by omega) (by omega)) ?_)
    rw [me_209]
    have hX5 := iX_up (iX_thr hX2 0 0) (M' := M4) (fun c hc => y3 c (by omega))
    have hM5 : iM G (H (n - 1)) B J vs H (n - 1) ((l + 10 - 1) % 10) tn tA fk fp (zUp (zUp M4 154 25 ((l + 10 - 1) % 10)) 154 24 (n - 1)) := by
      refine iM_rem hM4 ⟨by omega, by omega, zUp_here, by rw [zUp_there (by decide), zUp_here], fun i i0 i1 => ?_⟩ (fun _ _ => rfl) (fun c c1 c2 => by rw [zUp_away c2, zUp_away c2]) (fun j j1 j2 => by rw [zUp_there j1, zUp_there j2])
      rw [show ((l + 10 - 1) % 10 - (n - 1 - 1 - i)) % 10 = (l - (n - 1 - i)) % 10 by omega]
      exact mTo_fr (ma4.2.2.2.2 i i0 (by omega)) (fun _ _ _ => rfl)
    refine ⟨by rw [zUp_there (by decide), zUp_here], G, H (n - 1), B, jNew J J.2.1, vs, H, n - 1, _, tn, tA, fk, fp, ⟨hP.1, hP.2.2.2.2.2.1 (n - 1) (by omega) (by omega), hP.2.2.1, jOk_new hP.2.2.2.1.2.2.2, hP.2.2.2.2.1, fun i i0 i1 => hP.2.2.2.2.2.1 i i0 (by omega), hP.2.2.2.2.2.2⟩, iX_thr (iX_thr (iX_thr hX5 _ _) _ _) _ _, iM_new hM5⟩
  · rw [me_184, ma.2.2.1]
    refine zC_i (zr (by omega) (by omega)) ⟨fun q => absurd (by omega) q, fun _ => ⟨rfl, hend⟩⟩
