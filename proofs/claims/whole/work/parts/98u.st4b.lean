/-! LAYER 3: step 4, the bugs: the step -/
def xY (M M' : Mm) : Prop := ∀ c, c ≠ 2 → (c < 31 ∨ 37 < c) → c ≠ 136 → c ≠ 137 → M' c = M c
theorem x_bugs8 {d : Nat} {T : Int → Int} {n : Int} {G M : Mm} {K : Kt} (hT : tpOk T n) (hg : gLn G) (hx : xG G M) (ht : xTp T n M)
    (hK0 : ∀ M', (gBu T n G 7 [] 0 false).1 ≠ 0 → M' 2 6 = (gBu T n G 7 [] 0 false).1 → M' 2 7 = (gBu T n G 7 [] 0 false).2.1 → xY M M' → K 0 M')
    (hK1 : ∀ M', (gBu T n G 7 [] 0 false).1 = 0 → xBI (gBu T n G 7 [] 0 false).2.2 M' → bOk (G 4 0) (gBu T n G 7 [] 0 false).2.2 → ((gBu T n G 7 [] 0 false).2.2.length : Int) ≤ 6 → 3 * bLen (gBu T n G 7 [] 0 false).2.2 ≤ n → M' 2 6 = 0 → M' 2 7 = -1 → xY M M' → K 1 M') : zSp (d + 7) 8 [.inr (.inr 136)] M K := by
  have hn := hT.1
  rw [me_8, me_0]
  refine zC_i rfl (zC_i rfl ?_)
  refine x_start (d := d + 2) (T := T) (n := n) hT ⟨by rw [zUp_away (by decide), zUp_away (by decide)]; exact ht.1, fun i i0 i1 => by rw [zUp_away (by decide), zUp_away (by decide)]; exact ht.2 i i0 i1⟩ ?_
  intro M1 f1 f2 f3 f4
  have v1 : xY M M1 := fun c h1 h2 h3 h4 => by rw [f4 c h1, zUp_away (by omega), zUp_away (by omega)]
  have vq : ∀ {M'}, xB5 M1 M' → xY M M' := fun q c h1 h2 h3 h4 => by rw [q.1 c h1 h2 h3 h4, v1 c h1 h2 h3 h4]
  refine x_bugs_l (d := d) hT hg 7 [] M1 0 false 0 (by omega) rfl (by show ((0 : Nat) : Int) ≤ 6; omega) (by show (3 : Int) * 0 ≤ 0; decide) (fun x hx => absurd hx (by simp)) ⟨by rw [f4 31 (by decide), zUp_there (by decide), zUp_here]; rfl, by rw [f4 31 (by decide), zUp_here]; rfl, trivial, fun i i0 i1 => by have : i < ((0 : Nat) : Int) := i1; omega⟩ f1 (xG_fr hx fun c c1 c2 => v1 c (by omega) (by omega) (by omega) (by omega)) ?_ ?_
  · intro M2 e q
    exact hK0 _ e (by rw [zUp_there (by decide), zUp_here]) zUp_here (fun c h1 h2 h3 h4 => by rw [zUp_away h1, zUp_away h1, vq q c h1 h2 h3 h4])
  · intro M2 e b o l3 l4 q
    exact hK1 M2 e b o l3 l4 (by rw [q.2 6 (by decide) (by decide) (by decide) (by decide)]; exact f2) (by rw [q.2 7 (by decide) (by decide) (by decide) (by decide)]; exact f3) (vq q)
theorem iX_bg {G : Mm} {ot : Option Tr} {B B' : List Bg} {J : Js} {vs : Int} {H : Int → Option Tr} {n tn fk fp : Int} {tA : Int → Int} {M M' : Mm} (h : iX G ot B J vs H n tn tA fk fp M) (hb : xBg M' B') (f : ∀ c, c < 24 ∨ 30 < c → M' c = M c) : iX G ot B' J vs H n tn tA fk fp M' := by
  obtain ⟨q1, q2, q3, q4, q5, q6, q7, q8, q9, q10⟩ := h
  have e0 := f 0 (by omega)
  have e1 := f 1 (by omega)
  have e2 := f 2 (by omega)
  have e3 := f 3 (by omega)
  have e147 := f 147 (by omega)
  obtain ⟨j1, j2, j3, j4, j5⟩ := q4
  obtain ⟨a1, a2, a3, a4⟩ := q6
  refine ⟨xG_fr q1 fun c c1 c2 => f c (by omega), xTo_fr q2 (fun c c1 c2 => f c (by omega)), hb, ⟨xTd_fr j1 (fun c c1 c2 => f c (by omega)) (by rw [f 138 (by omega)]), by rw [e147]; exact j2, by rw [e147]; exact j3, by rw [e147]; exact j4, by rw [e147]; exact j5⟩, by rw [e147]; exact q5, ⟨a1, by rw [e0]; exact a2, by unfold xPa; rw [e1]; exact a3, fun i i0 i1 => ?_⟩, by rw [e2]; exact q7, by rw [e3]; exact q8, by rw [e2]; exact q9, by rw [e2]; exact q10⟩
  rw [e1]
  obtain ⟨qt, q54, qe⟩ := xPa_t a3 (i := i) i0 (by omega)
  unfold xT at qt
  exact xTo_fr (a4 i i0 i1) (fun c c1 c2 => f c (by omega))
theorem st_4 : ∀ M : Mm, Inv M → zSp 16 101 [.inr (.inr 0)] M (fun z M1 => zSp 16 193 [.inr (.inr 154)] M1 (fun z2 M2 => z2 = z ∧ Inv M2)) := by
  intro M hI
  obtain ⟨G, ot, B, J, vs, H, n, l, tn, tA, fk, fp, hP, hX, hM⟩ := hI
  obtain ⟨p1, p2, p3, p4, p5, p6, p7, p8⟩ := hP
  have hT : tpOk tA tn := ⟨p7, p8⟩
  have e4 : M 4 0 = G 4 0 := by rw [hX.1 4 (by decide) (by decide)]
  have gb := p1.1.1
  obtain ⟨w1, w2, w3, w4, w5, w6, w7, w8, w9, w10⟩ := hM
  have hM : iM G ot B J vs H n l tn tA fk fp M := ⟨w1, w2, w3, w4, w5, w6, w7, w8, w9, w10⟩
  have a9 := hX.2.2.2.2.2.2.2.2.1
  have a10 := hX.2.2.2.2.2.2.2.2.2
  rw [me_101, e4]
  refine zC_i (zr (by omega) (by omega)) ⟨fun h4 => ?_, fun h4 => ?_⟩
  · refine x_bugs8 (d := 8) (T := tA) (n := tn) hT p1.1 hX.1 ⟨hX.2.2.2.2.2.2.1, hX.2.2.2.2.2.2.2.1⟩ ?_ ?_
    · intro M1 e f6 f7 fv
      refine zC_i (by decide) ⟨fun z => absurd rfl z, fun _ => ?_⟩
      have fc : ∀ c, 154 ≤ c → (zUp M1 2 1 0) c = M c := fun c hc => by rw [zUp_away (by omega), fv c (by omega) (by omega) (by omega) (by omega)]
      have hX1 : iX G ot B J vs H n 0 tA (gBu tA tn G 7 [] 0 false).1 (gBu tA tn G 7 [] 0 false).2.1 (zUp M1 2 1 0) := iX_rd hX (fun c hc => by rw [zUp_away (by omega), fv c (by omega) (by omega) (by omega) (by omega)]) zUp_here (by rw [zUp_there (by decide)]; exact f6) (by rw [zUp_there (by decide)]; exact f7)
      have hM1 := iM_up hM fc
      refine m_bugs193 (d := 5) (T := tA) (n := tn) hT p1.1 hM1.1 (by rw [fc 154 (by decide)]; exact w7) (fun i i0 i1 => by rw [fc 155 (by decide)]; exact w8 i i0 i1) h4 (fun z => absurd z e) ?_ ?_
      · intro M2 eb u8 u9 nk nc
        refine ⟨rfl, G, ot, B, J, vs, H, n, l, 0, tA, _, _, ⟨p1, p2, p3, p4, p5, p6, by omega, fun i i0 i1 => by omega⟩, iX_up hX1 nk.1, ?_⟩
        refine iM_rd hM1 (fun c hc => ?_) (fun p _ => by rw [nk.2.1 165 (by omega)]) (fun j hj => ?_) nk.2.2.2 u8 u9
        · by_cases e2 : c = 168 ∨ c = 170 ∨ c = 172 ∨ c = 174
          · exact nc.1 c e2
          · exact nk.2.1 c (by omega)
        · by_cases e2 : j = 37
          · rw [e2]; exact nc.2.1
          · by_cases e3 : j = 57
            · rw [e3]; exact nc.2.2
            · exact nk.2.2.1 j (by omega)
      · intro M2 e2
        exact absurd e2 e
    · intro M1 e bi bo l6 l3 f6 f7 fv
      refine zC_i (by decide) ⟨fun _ => ?_, fun z => absurd (by decide) z⟩
      have hX1 : iX G ot B J vs H n 0 tA 0 (-1) (zUp M1 2 1 0) := iX_rd hX (fun c hc => by rw [zUp_away (by omega), fv c (by omega) (by omega) (by omega) (by omega)]) zUp_here (by rw [zUp_there (by decide)]; exact f6) (by rw [zUp_there (by decide)]; exact f7)
      generalize hR : gBu tA tn G 7 [] 0 false = R at *
      obtain ⟨rk, rq, B'⟩ := R
      dsimp only at e bi bo l6 l3
      have nb := bLen_nn B'
      obtain ⟨b1, b2, b3, b4⟩ := bi
      refine x_copyBg (d := 14) (k := bLen B') (by rw [zUp_away (by decide)]; exact b2) (by omega) ?_
      intro M2 c1 c2 c3 c4 c5
      rw [zUp_away (show (31 : Nat) ≠ 2 by decide), b1] at c2
      have hb : xBg M2 B' := by
        refine ⟨c2, xBq_s B' 0 0 (xBq_mv (M := M1) (b := 31) B' 0 0 (fun j j1 j2 => ?_) (fun k j k1 k2 j1 j2 => ?_) b3) (by rw [c3]; omega)⟩
        · have x := c4 j (by omega) (by omega)
          refine ⟨?_, ?_⟩
          · show M2 25 j = M1 32 j
            rw [x.1, zUp_away (by decide)]
          · show M2 26 j = M1 33 j
            rw [x.2, zUp_away (by decide)]
        · have x := c5 j (by omega) (by omega)
          rcases (show k = 3 ∨ k = 4 ∨ k = 5 ∨ k = 6 by omega) with e | e | e | e <;> subst e
          · show M2 27 j = M1 34 j
            rw [x.1, zUp_away (by decide)]
          · show M2 28 j = M1 35 j
            rw [x.2.1, zUp_away (by decide)]
          · show M2 29 j = M1 36 j
            rw [x.2.2.1, zUp_away (by decide)]
          · show M2 30 j = M1 37 j
            rw [x.2.2.2, zUp_away (by decide)]
      have hX2 := iX_bg hX1 hb (fun c hc => c1 c (by omega))
      refine x_forget (d := 13) ?_
      intro M3 d1 d2
      have hX3 := iX_new hX2 d1 d2
      have e24 : M3 24 0 = (B'.length : Int) := by rw [d2 24 (by decide) (by decide)]; exact c2
      have fc : ∀ c, 154 ≤ c → M3 c = M c := fun c hc => by rw [d2 c (by omega) (by omega), c1 c (by omega), zUp_away (by omega), fv c (by omega) (by omega) (by omega) (by omega)]
      have hM3 := iM_up hM fc
      rw [e24]
      refine m_bugs193 (d := 5) (T := tA) (n := tn) hT p1.1 hM3.1 (by rw [fc 154 (by decide)]; exact w7) (fun i i0 i1 => by rw [fc 155 (by decide)]; exact w8 i i0 i1) h4 (fun _ => by rw [hR]; exact ⟨l6, l3⟩) ?_ ?_
      · intro M4 e2
        rw [hR] at e2
        have e2 : 1 ≤ rk ∧ rk ≤ 5 := e2
        omega
      · intro M4 _ mb u57 u8 u9 nk
        rw [hR] at mb ⊢
        obtain ⟨z1, z2, z3, z4, z5, z6, _⟩ := hM3
        refine ⟨rfl, G, ot, B', jNew J J.2.1, vs, H, n, l, 0, tA, 0, -1, ⟨p1, p2, ⟨by omega, by omega, bo, p3.2.2.2⟩, jOk_new p4.2.2.2, p5, p6, by omega, fun i i0 i1 => by omega⟩, iX_up hX3 nk.1, ?_⟩
        refine ⟨mG_fr z1 (nk.2.1 156 (by omega)) (nk.2.1 157 (by omega)) (nk.2.1 158 (by omega)) (nk.2.1 162 (by omega)) (nk.2.1 163 (by omega)), mTo_fr z2 (fun i _ _ => by rw [nk.2.1 165 (by omega)]), mb, ⟨mTd_nil u57, by rw [nk.2.2.1 47 (by decide)]; exact z4.2.1, by rw [nk.2.2.1 49 (by decide)]; exact z4.2.2.1, by rw [nk.2.2.1 50 (by decide)]; exact z4.2.2.2.1, by rw [nk.2.2.1 51 (by decide)]; exact z4.2.2.2.2⟩, by rw [nk.2.2.1 48 (by decide)]; exact z5, mA_fr z6 (fun p _ => by rw [nk.2.1 165 (by omega)]) (nk.2.2.1 24 (by decide)) (nk.2.2.1 25 (by decide)), nk.2.2.2, fun i i0 i1 => by omega, u8, u9⟩
  · have z0 : G 4 0 = 0 := Decidable.not_not.mp h4
    have hX1 : iX G ot B J vs H n 0 tA fk fp (zUp M 2 1 0) := iX_rd hX (fun c hc => by rw [zUp_away (by omega)]) zUp_here (by rw [zUp_there (by decide)]; exact a9) (by rw [zUp_there (by decide)]; exact a10)
    have hM1 := iM_up hM (M' := zUp M 2 1 0) (fun c hc => zUp_away (by omega))
    rw [me_193, hM1.1.1]
    refine zC_i (zr (by omega) (by omega)) ⟨fun z => absurd z0 z, fun _ => ?_⟩
    refine ⟨rfl, G, ot, B, J, vs, H, n, l, 0, tA, fk, fp, ⟨p1, p2, p3, p4, p5, p6, by omega, fun i i0 i1 => by omega⟩, iX_thr (iX_thr hX1 _ _) _ _, ?_⟩
    refine iM_rd hM1 (fun c hc => by rw [zUp_away (by omega), zUp_away (by omega)]) (fun p _ => by rw [zUp_away (by decide), zUp_away (by decide)]) (fun j hj => by rw [zUp_there (by omega), zUp_there (by omega)]) zUp_here ?_ ?_
    · rw [zUp_there (by decide), zUp_there (by decide), zUp_away (by decide)]; exact w9
    · rw [zUp_there (by decide), zUp_there (by decide), zUp_away (by decide)]; exact w10
