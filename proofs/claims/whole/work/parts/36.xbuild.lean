/-! LAYER 3: the class builds a changed tree -/
abbrev tLst (G : Mm) (t : Tr) (k : Int) : Prop := G 12 (G 7 (tNm (tSub t k))) < tSz (tSub t k)
abbrev tRow (G : Mm) (t : Tr) (lev k : Int) : Prop := tLv t k = lev ∧ (tStar G t k ∨ tLst G t k)
theorem gLn_s {G : Mm} (hg : gLn G) {t : Tr} (hv : tVal (G 4 0) t) (k : Int) : 0 ≤ G 7 (tNm (tSub t k)) ∧ G 7 (tNm (tSub t k)) < G 4 1 := by
  have nb := tNm_b hv k
  exact (hg.2.1 _ nb.1 nb.2).2.2.1
theorem x_sortAt {d : Nat} {M G : Mm} {K : Kt} {b : Nat} {t : Tr} {k : Int} (hb : xT b) (hg : gLn G) (hx : xG G M) (ht : xTr M b t) (hv : tVal (G 4 0) t) (h0 : 0 ≤ k) (h1 : k < tSz t) (hK : K (G 7 (tNm (tSub t k))) M) : zSp (d + 1) 85 [.inr (.inr b), .inl k] M K := by
  obtain ⟨o, ⟨a1, a2, a3, a4, a5, a6, a7⟩, l1, l2, l3, l4, l5, l6, l7⟩ := xT_c hb
  have nb := tNm_b hv k
  have gb := hg.1
  have t5 := ht.2.1
  rw [me_85]
  simp only [o, a1, l1, zC_t, (xTr_at ht h0 h1).1]
  (repeat (first | refine zC_i (by first | assumption | decide | exact zr (by omega) (by omega) | exact zs (by omega) (by omega) | exact zd (by omega) (by omega)) ?_ | refine zIfT (by first | assumption | omega | decide) ?_ | refine zIfF (by first | assumption | omega | decide) ?_))
  rw [hx 7 (by decide) (by decide)]
  exact hK
theorem x_canCut {d : Nat} {M G : Mm} {K : Kt} {b : Nat} {t : Tr} {k : Int} (hb : xT b) (hg : gLn G) (hx : xG G M) (ht : xTr M b t) (hv : tVal (G 4 0) t) (h0 : 0 ≤ k) (h1 : k < tSz t) (hK : K (fl (tStar G t k)) M) : zSp (d + 2) 86 [.inr (.inr b), .inl k] M K := by
  obtain ⟨o, ⟨a1, a2, a3, a4, a5, a6, a7⟩, l1, l2, l3, l4, l5, l6, l7⟩ := xT_c hb
  have t5 := ht.2.1
  have e := xTr_at ht h0 h1
  have pb := tPl_b h0 h1
  rw [me_86]
  simp only [o, a1, l1, a3, l3, a4, l4, zC_t, e.2.2.1, e.2.2.2.1]
  (repeat (first | refine zC_i (by first | assumption | decide | exact zr (by omega) (by omega) | exact zs (by omega) (by omega) | exact zd (by omega) (by omega)) ?_ | refine zIfT (by first | assumption | omega | decide) ?_ | refine zIfF (by first | assumption | omega | decide) ?_))
  refine ⟨fun c => ?_, fun c => ?_⟩
  · rw [fl_f (fun q => by have := q.1; omega)] at hK
    exact hK
  · have e2 := (xTr_at ht (k := tPa t k) (by omega) (by omega)).1
    have nb := tNm_b hv (tPa t k)
    have ql := tQl_lt t k (by omega) h1
    have kl := tKd_lt (tSub t (tPa t k))
    have pb2 := tPl_b (t := t) (k := tPa t k) (by omega) (by omega)
    have gn := gNeed_b hg nb.1 nb.2
    simp only [e2]
    (repeat (first | refine zC_i (by first | assumption | decide | exact zr (by omega) (by omega) | exact zs (by omega) (by omega) | exact zd (by omega) (by omega)) ?_ | refine zIfT (by first | assumption | omega | decide) ?_ | refine zIfF (by first | assumption | omega | decide) ?_))
    refine x_needed hg hx nb.1 nb.2 ?_
    (repeat (first | refine zC_i (by first | assumption | decide | exact zr (by omega) (by omega) | exact zs (by omega) (by omega) | exact zd (by omega) (by omega)) ?_ | refine zIfT (by first | assumption | omega | decide) ?_ | refine zIfF (by first | assumption | omega | decide) ?_))
    refine ⟨fun c2 => ?_, fun c2 => ?_⟩
    · rw [fl_f (fun q => by have := q.2; omega)] at hK
      exact hK
    · rw [fl_t ⟨by omega, by omega⟩] at hK
      exact hK
theorem x_canBeLeast {d : Nat} {M G : Mm} {K : Kt} {b : Nat} {t : Tr} {k : Int} (hb : xT b) (hg : gOk G) (hx : xG G M) (ht : xTr M b t) (hv : tVal (G 4 0) t) (h0 : 0 ≤ k) (h1 : k < tSz t) (hK : K (fl (tLst G t k)) M) : zSp (d + 2) 87 [.inr (.inr b), .inl k] M K := by
  obtain ⟨o, ⟨a1, a2, a3, a4, a5, a6, a7⟩, l1, l2, l3, l4, l5, l6, l7⟩ := xT_c hb
  have t5 := ht.2.1
  have e := xTr_at ht h0 h1
  have pb := tPl_b h0 h1
  have gs := gLn_s hg.1 hv k
  have gz := (hg.2 _ gs.1 gs.2).1
  have gb := hg.1.1
  rw [me_87]
  simp only [o, zC_t]
  refine x_sortAt hb hg.1 hx ht hv h0 h1 ?_
  simp only [a6, l6, zC_t, e.2.2.2.2.2]
  rw [hx 12 (by decide) (by decide)]
  (repeat (first | refine zC_i (by first | assumption | decide | exact zr (by omega) (by omega) | exact zs (by omega) (by omega) | exact zd (by omega) (by omega)) ?_ | refine zIfT (by first | assumption | omega | decide) ?_ | refine zIfF (by first | assumption | omega | decide) ?_))
  refine ⟨fun c => ?_, fun c => ?_⟩
  · rw [fl_f (by omega)] at hK
    exact hK
  · rw [fl_t (by omega)] at hK
    exact hK
theorem x_isInRow {d : Nat} {M G : Mm} {K : Kt} {b : Nat} {t : Tr} {k lev : Int} (hb : xT b) (hg : gOk G) (hx : xG G M) (ht : xTr M b t) (hv : tVal (G 4 0) t) (h0 : 0 ≤ k) (h1 : k < tSz t) (hl : zR32 lev = true) (hK : K (fl (tRow G t lev k)) M) : zSp (d + 3) 88 [.inr (.inr b), .inl k, .inl lev] M K := by
  obtain ⟨o, ⟨a1, a2, a3, a4, a5, a6, a7⟩, l1, l2, l3, l4, l5, l6, l7⟩ := xT_c hb
  have t5 := ht.2.1
  have e := xTr_at ht h0 h1
  have pb := tPl_b h0 h1
  have dp := tLv_dp t k
  have db := tDp_b t
  rw [me_88]
  simp only [o, a5, l5, zC_t, e.2.2.2.2.1]
  (repeat (first | refine zC_i (by first | assumption | decide | exact zr (by omega) (by omega) | exact zs (by omega) (by omega) | exact zd (by omega) (by omega)) ?_ | refine zIfT (by first | assumption | omega | decide) ?_ | refine zIfF (by first | assumption | omega | decide) ?_))
  refine ⟨fun c => ?_, fun c => ?_⟩
  · rw [fl_f (fun q => c q.1)] at hK
    exact hK
  refine x_canCut hb hg.1 hx ht hv h0 h1 ?_
  have b1 := @fl_b (tStar G t k) _
  (repeat (first | refine zC_i (by first | assumption | decide | exact zr (by omega) (by omega) | exact zs (by omega) (by omega) | exact zd (by omega) (by omega)) ?_ | refine zIfT (by first | assumption | omega | decide) ?_ | refine zIfF (by first | assumption | omega | decide) ?_))
  refine ⟨fun c2 => ?_, fun c2 => ?_⟩
  · rw [fl_t (P := tRow G t lev k) ⟨by omega, .inl (fl_1.mp (by omega))⟩] at hK
    exact hK
  refine x_canBeLeast hb hg hx ht hv h0 h1 ?_
  have b2 := @fl_b (tLst G t k) _
  (repeat (first | refine zC_i (by first | assumption | decide | exact zr (by omega) (by omega) | exact zs (by omega) (by omega) | exact zd (by omega) (by omega)) ?_ | refine zIfT (by first | assumption | omega | decide) ?_ | refine zIfF (by first | assumption | omega | decide) ?_))
  refine ⟨fun c3 => ?_, fun c3 => ?_⟩
  · rw [fl_f (P := tRow G t lev k) (fun q => by
      rcases q.2 with q | q
      · rw [fl_t q] at c2; exact c2 (by omega)
      · rw [fl_t q] at c3; omega)] at hK
    exact hK
  · rw [fl_t (P := tRow G t lev k) ⟨by omega, .inr (fl_1.mp (by omega))⟩] at hK
    exact hK
def bNP (M : Mm) : Int → Tr → Int → Int → Int → Prop := fun p u _ _ _ => M 47 p = tNm u ∧ M 48 p = tKd u
theorem xTr_fr {M M' : Mm} {b : Nat} {t : Tr} (h : xTr M b t) (h1 : ∀ c, b ≤ c → c < b + 8 → M' c = M c) : xTr M' b t := by
  unfold xTr xNP at h ⊢
  rw [h1 b (by omega) (by omega), h1 (b + 1) (by omega) (by omega), h1 (b + 2) (by omega) (by omega), h1 (b + 3) (by omega) (by omega), h1 (b + 4) (by omega) (by omega), h1 (b + 5) (by omega) (by omega), h1 (b + 6) (by omega) (by omega)]
  exact h
theorem bNP_fr {M M' : Mm} {t : Tr} {i l j : Int} (h : tAll (bNP M) t i l) (hj : i + tSz t ≤ j) (f : ∀ p, i < p → p < j → M' 47 p = M 47 p ∧ M' 48 p = M 48 p) : tAll (bNP M') t i l := by
  refine tAll_mono t i l ?_ h
  intro k u a q v c1 c2 c3 c4 c5 c6 hx
  have p := tSz_pos u
  have e := f k (by omega) (by omega)
  unfold bNP at hx ⊢
  rw [e.1, e.2]
  exact hx
/-- marks as the class has them -/
def bCh (G M : Mm) (t0 : Tr) (mk : Int → Int) : Prop := ∀ k, 0 ≤ k → k < tSz t0 → (M 152 k = 0 ∨ M 152 k = 1) ∧ (M 152 k = 0 → mk k = -1) ∧ (M 152 k = 1 → mk k = if tStar G t0 k then 0 else 1)
theorem x_bd {d : Nat} {G : Mm} {K : Kt} {t0 H : Tr} {mk : Int → Int} (hg : gOk G) (hv0 : tVal (G 4 0) t0) : ∀ (t : Tr) (M : Mm) (i l j : Int), xG G M → xTr M 38 t0 → bCh G M t0 mk → tVal (G 4 0) t → tAll (fun k u a _ _ => u = tSub t0 k ∧ a = tPa t0 k) t i l → tAll (bMk G mk H) t i l → 0 ≤ i → 0 ≤ j → j ≤ i → i + tSz t ≤ tSz t0 → M 46 1 = j + 1 → M 153 i = j →
    (∀ M', M' 46 1 = j + tSz (bR G mk H t i) → (∀ c, c ≠ 46 → c ≠ 47 → c ≠ 48 → c ≠ 153 → M' c = M c) → (∀ p, p ≤ j → M' 47 p = M 47 p) → (∀ p, p < j → M' 48 p = M 48 p) → M' 48 j = M 48 j - (tKd t - tKd (bR G mk H t i)) → tAll (bNP M') (bR G mk H t i) j l → (∀ k, i < k → k < i + tSz t → mk k = -1 → bVis mk t i k → M' 153 k = j + bPos G mk H t i k) → (∀ k, k ≤ i ∨ i + tSz t ≤ k → M' 153 k = M 153 k) →
      zWp (zSp (d + 3)) 91 K 7 [some (.inr (.inr 46)), some (.inr (.inr 38)), some (.inr (.inr 152)), some (.inr (.inr 153)), some (.inl (i + tSz t))] [] M') →
    zWp (zSp (d + 3)) 91 K 7 [some (.inr (.inr 46)), some (.inr (.inr 38)), some (.inr (.inr 152)), some (.inr (.inr 153)), some (.inl (i + 1))] [] M
  | .var nn, M, i, l, j, hx, ht, hc, hv, hA, hB, h0, hj0, hji, hz, h46, h153, hK => hK M h46 (fun _ _ _ _ _ => rfl) (fun _ _ => rfl) (fun _ _ => rfl) (by show _ = M 48 j - (0 - 0); omega) trivial (fun k c1 c2 => by
      have c2 : k < i + 1 := c2
      omega) (fun _ _ => rfl)
  | .op f s, M, i, l, j, hx, ht, hc, hv, hA, hB, h0, hj0, hji, hz, h46, h153, hK => by
    have hz : i + (tSz f + tSz s) ≤ tSz t0 := hz
    have q1 := tSz_pos f
    have q2 := tSz_pos s
    have t1 := ht.1.1
    have t5 := ht.2.1
    have xb46 : xT 46 := by unfold xT; decide
    have xb38 : xT 38 := by unfold xT; decide
    obtain ⟨hAf, ⟨hAe, hAp⟩, hAs⟩ := hA
    obtain ⟨hBf, ⟨hB0, hB1, hB2⟩, hBs⟩ := hB
    have szf := bR_sz hg f i l hv.1 hBf
    have szs := bR_sz hg s _ _ hv.2 hBs
    have pf := tSz_pos (bR G mk H f i)
    have nb := tVal_nm s hv.2
    have so := (hg.1.2.1 _ nb.1 nb.2).2.2.1
    have gsz := gT_sz hg nb
    refine x_bd hg hv0 f M i l j hx ht hc hv.1 hAf hBf h0 hj0 hji (by omega) h46 h153 ?_
    intro M1 f1 f2 f3 f4 f5 f6 f7 f8
    have ht1 : xTr M1 38 t0 := xTr_fr ht fun c c1 c2 => f2 c (by omega) (by omega) (by omega) (by omega)
    have hx1 : xG G M1 := xG_fr hx fun c c1 c2 => f2 c (by omega) (by omega) (by omega) (by omega)
    have e152 : M1 152 = M 152 := f2 152 (by decide) (by decide) (by decide) (by decide)
    have hc1 : bCh G M1 t0 mk := by unfold bCh at hc ⊢; rw [e152]; exact hc
    obtain ⟨hca, hcb, hcc⟩ := hc1 (i + tSz f) (by omega) (by omega)
    have eat := xTr_at ht1 (k := i + tSz f) (by omega) (by omega)
    rw [← hAe, ← hAp] at eat
    obtain ⟨en, ek, ep, eq, el, ez⟩ := eat
    have e9 : i + tSz f + tSz s = i + tSz (.op f s) := by show _ = i + (tSz f + tSz s); omega
    have em : zMax 1 (tSz s) = tSz s := by have := @zMax_b 1 (tSz s); omega
    have bPf : ∀ k, k < i + tSz f → bPos G mk H (.op f s) i k = bPos G mk H f i k := fun k hk => if_pos hk
    have bPs : ∀ k, i + tSz f ≤ k → bPos G mk H (.op f s) i k = tSz (bR G mk H f i) + bPos G mk H s (i + tSz f) k := fun k hk => if_neg (by omega)
    have bVf : ∀ k, k < i + tSz f → bVis mk (.op f s) i k → bVis mk f i k := fun k hk h => by
      have h : (if k < i + tSz f then bVis mk f i k else _) := h
      rwa [if_pos hk] at h
    have bVs : ∀ k, i + tSz f < k → bVis mk (.op f s) i k → mk (i + tSz f) = -1 ∧ bVis mk s (i + tSz f) k := fun k hk h => by
      have h : (if k < i + tSz f then _ else (k = i + tSz f ∨ (mk (i + tSz f) = -1 ∧ bVis mk s (i + tSz f) k))) := h
      rw [if_neg (by omega)] at h
      rcases h with h | h
      · omega
      · exact h
    rw [fe_91_7]
    have ez38 : M1 44 (i + tSz f) = tSz s := ez
    have ep38 : M1 41 (i + tSz f) = i := ep
    have en38 : M1 39 (i + tSz f) = tNm s := en
    have ek38 : M1 40 (i + tSz f) = tKd s := ek
    have t38 : M1 38 1 = tSz t0 := ht1.1.1
    simp only [show zObj 46 9 = true from rfl, show zArr (46 + 2) 0 = true from rfl, show zLen (46 + 2) = 80 from rfl, zC_t, t38]
    refine zC_i (by first | assumption | decide | exact zr (by omega) (by omega) | exact zs (by omega) (by omega) | exact zd (by omega) (by omega)) (zC_i (by first | assumption | decide | exact zr (by omega) (by omega) | exact zs (by omega) (by omega) | exact zd (by omega) (by omega)) (zIfF (by omega) (zC_i (by first | assumption | decide | exact zr (by omega) (by omega) | exact zs (by omega) (by omega) | exact zd (by omega) (by omega)) (zC_i (by rcases hca with h | h <;> rw [h] <;> decide) ⟨fun c => ?_, fun c => ?_⟩))))
    · -- changed
      have c152 : M1 152 (i + tSz f) = 1 := by omega
      have hk := hcc c152
      refine x_canCut xb38 hg.1 hx1 ht1 hv0 (by omega) (by omega) ?_
      by_cases hst : tStar G t0 (i + tSz f)
      · rw [if_pos hst] at hk
        rw [fl_t hst]
        have hbr := bR_0 (G := G) (H := H) (s := s) hk
        rw [ep38, f8 i (by omega), h153]
        (repeat (first | refine zC_i (by first | assumption | decide | exact zr (by omega) (by omega) | exact zs (by omega) (by omega) | exact zd (by omega) (by omega)) ?_ | refine zIfT (by first | assumption | omega | decide) ?_ | refine zIfF (by first | assumption | omega | decide) ?_))
        rw [fe_91_95, show (zUp M1 (46 + 2) j (M1 (46 + 2) j - 1)) 44 (i + tSz f) = tSz s from ez38, em, e9]
        (repeat (first | refine zC_i (by first | assumption | decide | exact zr (by omega) (by omega) | exact zs (by omega) (by omega) | exact zd (by omega) (by omega)) ?_ | refine zIfT (by first | assumption | omega | decide) ?_ | refine zIfF (by first | assumption | omega | decide) ?_))
        refine hK _ ?_ ?_ ?_ ?_ ?_ ?_ ?_ ?_
        · rw [hbr]; exact f1
        · intro c c1 c2 c3 c4
          rw [zUp_away c3, f2 c c1 c2 c3 c4]
        · intro p hp
          exact f3 p hp
        · intro p hp
          show zUp M1 48 j _ 48 p = _
          rw [zUp_there (by omega), f4 p hp]
        · show zUp M1 48 j (M1 48 j - 1) 48 j = _
          rw [zUp_here, f5, hbr]
          show _ = M 48 j - (tKd f + 1 - tKd _)
          omega
        · rw [hbr]
          exact bNP_fr f6 (Int.le_refl _) (fun p c1 c2 => ⟨rfl, zUp_there (by omega)⟩)
        · intro k c1 c2 hu hb
          show M1 153 k = _
          by_cases c : k < i + tSz f
          · rw [bPf k c]
            exact f7 k c1 c hu (bVf k c hb)
          · by_cases c3 : k = i + tSz f
            · rw [c3] at hu; omega
            · have := (bVs k (by omega) hb).1; omega
        · intro k hk2
          have hk2 : k ≤ i ∨ i + (tSz f + tSz s) ≤ k := hk2
          exact f8 k (by omega)
      · rw [if_neg hst] at hk
        rw [fl_f hst]
        have hle := hB1 hk
        have hbr := bR_1 (G := G) (H := H) (s := s) hk
        have gps := tSz_pos (gT G 6 (G 7 (tNm s)))
        (repeat (first | refine zC_i (by first | assumption | decide | exact zr (by omega) (by omega) | exact zs (by omega) (by omega) | exact zd (by omega) (by omega)) ?_ | refine zIfT (by first | assumption | omega | decide) ?_ | refine zIfF (by first | assumption | omega | decide) ?_))
        refine x_sortAt xb38 hg.1 hx1 ht1 hv0 (by omega) (by omega) ?_
        rw [← hAe]
        refine x_addLeast xb46 hg hx1 so.1 so.2 (by omega) (by omega) f1 ?_
        intro M2 g1 g2 g3 g4 g5
        have g3 : ∀ p, M2 47 p = if j + tSz (bR G mk H f i) ≤ p ∧ p < j + tSz (bR G mk H f i) + G 12 (G 7 (tNm s)) then tNm (tSub (gT G 6 (G 7 (tNm s))) (p - (j + tSz (bR G mk H f i)))) else M1 47 p := g3
        have g4 : ∀ p, M2 48 p = if j + tSz (bR G mk H f i) ≤ p ∧ p < j + tSz (bR G mk H f i) + G 12 (G 7 (tNm s)) then tKd (tSub (gT G 6 (G 7 (tNm s))) (p - (j + tSz (bR G mk H f i)))) else M1 48 p := g4
        rw [fe_91_95, g5 44 (by decide) (by decide) (by decide), ez38, em, e9]
        (repeat (first | refine zC_i (by first | assumption | decide | exact zr (by omega) (by omega) | exact zs (by omega) (by omega) | exact zd (by omega) (by omega)) ?_ | refine zIfT (by first | assumption | omega | decide) ?_ | refine zIfF (by first | assumption | omega | decide) ?_))
        refine hK _ ?_ ?_ ?_ ?_ ?_ ?_ ?_ ?_
        · rw [hbr, g1]
          show _ = j + (tSz _ + tSz _)
          omega
        · intro c c1 c2 c3 c4
          rw [g5 c c1 c2 c3, f2 c c1 c2 c3 c4]
        · intro p hp
          rw [g3, if_neg (by omega), f3 p hp]
        · intro p hp
          rw [g4, if_neg (by omega), f4 p hp]
        · rw [g4, if_neg (by omega), f5, hbr]
          show _ = M 48 j - (tKd f + 1 - (tKd _ + 1))
          omega
        · rw [hbr]
          refine ⟨bNP_fr f6 (Int.le_refl _) (fun p c1 c2 => ⟨by rw [g3, if_neg (by omega)], by rw [g4, if_neg (by omega)]⟩), ?_, ?_⟩
          · unfold bNP
            rw [g3, g4, if_pos (by omega), if_pos (by omega), Int.sub_self, tSub_0]
            exact ⟨rfl, rfl⟩
          · refine tAll_lay ?_
            intro k w a q v c1 c2 e
            unfold bNP
            rw [g3, g4, if_pos (by omega), if_pos (by omega), Int.add_sub_cancel, e]
            exact ⟨rfl, rfl⟩
        · intro k c1 c2 hu hb
          rw [g5 153 (by decide) (by decide) (by decide)]
          by_cases c : k < i + tSz f
          · rw [bPf k c]
            exact f7 k c1 c hu (bVf k c hb)
          · by_cases c3 : k = i + tSz f
            · rw [c3] at hu; omega
            · have := (bVs k (by omega) hb).1; omega
        · intro k hk2
          have hk2 : k ≤ i ∨ i + (tSz f + tSz s) ≤ k := hk2
          rw [g5 153 (by decide) (by decide) (by decide)]
          exact f8 k (by omega)
    · -- stays
      have c152 : M1 152 (i + tSz f) = 0 := by omega
      have hk := hcb c152
      have hbr := bR_n (G := G) (H := H) (s := s) hk
      rw [en38, ek38, f1]
      (repeat (first | refine zC_i (by first | assumption | decide | exact zr (by omega) (by omega) | exact zs (by omega) (by omega) | exact zd (by omega) (by omega)) ?_ | refine zIfT (by first | assumption | omega | decide) ?_ | refine zIfF (by first | assumption | omega | decide) ?_))
      refine x_addNode xb46 (n := j + tSz (bR G mk H f i)) f1 (by omega) ?_
      intro M2 g1 g2 g3 g4 g5
      have g3 : ∀ p, M2 47 p = if p = j + tSz (bR G mk H f i) then tNm s else M1 47 p := g3
      have g4 : ∀ p, M2 48 p = if p = j + tSz (bR G mk H f i) then tKd s else M1 48 p := g4
      have u153 : M2 153 = (zUp M1 153 (i + tSz f) (j + tSz (bR G mk H f i))) 153 := g5 153 (by decide) (by decide) (by decide)
      have szb := tSz_pos (bR G mk H s (i + tSz f))
      refine x_bd hg hv0 s M2 (i + tSz f) (l + 1) (j + tSz (bR G mk H f i)) (xG_fr hx1 fun c c1 c2 => by rw [g5 c (by omega) (by omega) (by omega), zUp_away (by omega)]) (xTr_fr ht1 fun c c1 c2 => by rw [g5 c (by omega) (by omega) (by omega), zUp_away (by omega)]) (by unfold bCh at hc1 ⊢; rw [g5 152 (by decide) (by decide) (by decide), zUp_away (by decide)]; exact hc1) hv.2 hAs hBs (by omega) (by omega) (by omega) (by omega) g1 (by rw [u153, zUp_here]) ?_
      intro M3 k1 k2 k3 k4 k5 k6 k7 k8
      rw [e9]
      refine hK M3 ?_ ?_ ?_ ?_ ?_ ?_ ?_ ?_
      · rw [hbr, k1]
        show _ = j + (tSz _ + tSz _)
        omega
      · intro c c1 c2 c3 c4
        rw [k2 c c1 c2 c3 c4, g5 c c1 c2 c3, zUp_away c4, f2 c c1 c2 c3 c4]
      · intro p hp
        rw [k3 p (by omega), g3, if_neg (by omega), f3 p hp]
      · intro p hp
        rw [k4 p (by omega), g4, if_neg (by omega), f4 p hp]
      · rw [k4 j (by omega), g4, if_neg (by omega), f5, hbr]
        show _ = M 48 j - (tKd f + 1 - (tKd _ + 1))
        omega
      · rw [hbr]
        refine ⟨bNP_fr f6 (Int.le_refl _) (fun p c1 c2 => ⟨by rw [k3 p (by omega), g3, if_neg (by omega)], by rw [k4 p (by omega), g4, if_neg (by omega)]⟩), ?_, k6⟩
        unfold bNP
        rw [k3 _ (by omega), g3, if_pos rfl, k5, g4, if_pos rfl, bR_nm]
        exact ⟨rfl, by omega⟩
      · intro k c1 c2 hu hb
        have c2 : k < i + (tSz f + tSz s) := c2
        by_cases c : k < i + tSz f
        · rw [k8 k (by omega), u153, zUp_there (by omega), bPf k c]
          exact f7 k c1 c hu (bVf k c hb)
        · by_cases c3 : k = i + tSz f
          · subst c3
            rw [k8 _ (by omega), u153, zUp_here, bPs _ (by omega), bPos_0]
            omega
          · rw [k7 k (by omega) (by omega) hu (bVs k (by omega) hb).2, bPs k (by omega)]
            omega
      · intro k hk2
        have hk2 : k ≤ i ∨ i + (tSz f + tSz s) ≤ k := hk2
        rw [k8 k (by omega), u153, zUp_there (by omega)]
        exact f8 k (by omega)
theorem xNP_new {M : Mm} {t : Tr} {l : Int} (h1 : M 46 1 = tSz t) (h2 : bNP M 0 t 0 0 0) (h3 : tAll (bNP M) t 0 l) : xNP M 46 t := by
  refine ⟨h1, h2.1, h2.2, ?_⟩
  have lv : ∀ (t : Tr) (i l l' : Int) (Φ : Int → Tr → Prop), tAll (fun k u _ _ _ => Φ k u) t i l → tAll (fun k u _ _ _ => Φ k u) t i l' := by
    intro t
    induction t with
    | var n => exact fun _ _ _ _ _ => trivial
    | op f s ihf ihs => exact fun i l l' Φ h => ⟨ihf i l l' Φ h.1, h.2.1, ihs _ _ _ Φ h.2.2⟩
  exact lv t 0 l 0 (fun k u => M 47 k = tNm u ∧ M 48 k = tKd u) h3
theorem x_becomeChanged {d : Nat} {M G : Mm} {K : Kt} {t0 H : Tr} {mk : Int → Int} (hg : gOk G) (hx : xG G M) (ht : xTr M 38 t0) (hv : tVal (G 4 0) t0) (hc : bCh G M t0 mk) (h0 : M 152 0 = 0) (hB : tAll (bMk G mk H) t0 0 0)
    (hK : ∀ M', xTr M' 46 (bT G mk H t0) → (∀ c, (c < 46 ∨ 54 ≤ c) → c ≠ 153 → M' c = M c) → (∀ k, 0 ≤ k → k < tSz t0 → mk k = -1 → bVis mk t0 0 k → M' 153 k = bPos G mk H t0 0 k) → K 0 M') : zSp (d + 4) 91 [.inr (.inr 46), .inr (.inr 38), .inr (.inr 152), .inr (.inr 153)] M K := by
  have q1 := tSz_pos t0
  have t1 := ht.1.1
  have t5 := ht.2.1
  have xb46 : xT 46 := by unfold xT; decide
  have hk0 := (hc 0 (by omega) (by omega)).2.1 h0
  have e0 := xTr_at ht (k := 0) (by omega) (by omega)
  rw [tSub_0] at e0
  have en : M 39 0 = tNm t0 := e0.1
  have ek : M 40 0 = tKd t0 := e0.2.1
  have bsz := bR_sz hg t0 0 0 hv hB
  have hbt : bT G mk H t0 = bR G mk H t0 0 := by
    unfold bT
    rw [if_neg (by omega), if_neg (by omega)]
  rw [hbt] at hK
  rw [me_91]
  simp only [show zObj 46 9 = true from rfl, zC_t]
  rw [me_79, fe_91_7]
  simp only [show zObj 46 9 = true from rfl, zC_t]
  rw [zUp_away (show (38 : Nat) ≠ 46 by decide), zUp_away (show (152 : Nat) ≠ 46 by decide), zUp_away (show (39 : Nat) ≠ 46 by decide), zUp_away (show (40 : Nat) ≠ 46 by decide), t1, h0, en, ek, zUp_here]
  (repeat (first | refine zC_i (by first | assumption | decide | exact zr (by omega) (by omega) | exact zs (by omega) (by omega) | exact zd (by omega) (by omega)) ?_ | refine zIfT (by first | assumption | omega | decide) ?_ | refine zIfF (by first | assumption | omega | decide) ?_))
  refine x_addNode xb46 (n := 0) rfl (by omega) ?_
  intro M2 g1 g2 g3 g4 g5
  have g3 : ∀ p, M2 47 p = if p = 0 then tNm t0 else M 47 p := g3
  have g4 : ∀ p, M2 48 p = if p = 0 then tKd t0 else M 48 p := g4
  have g5' : ∀ c, c ≠ 46 → c ≠ 47 → c ≠ 48 → c ≠ 153 → M2 c = M c := fun c c1 c2 c3 c4 => by rw [g5 c c1 c2 c3, zUp_away c4, zUp_away c1]
  refine x_bd hg hv t0 M2 0 0 0 (xG_fr hx fun c c1 c2 => g5' c (by omega) (by omega) (by omega) (by omega)) (xTr_fr ht fun c c1 c2 => g5' c (by omega) (by omega) (by omega) (by omega)) (by unfold bCh at hc ⊢; rw [g5' 152 (by decide) (by decide) (by decide) (by decide)]; exact hc) hv (tAll_put fun _ _ _ => ⟨rfl, rfl⟩) hB (by omega) (by omega) (by omega) (by omega) g1 (by rw [g5 153 (by decide) (by decide) (by decide), zUp_here]) ?_
  intro M3 k1 k2 k3 k4 k5 k6 k7 k8
  have x38 : M3 38 1 = tSz t0 := by rw [k2 38 (by decide) (by decide) (by decide) (by decide), g5' 38 (by decide) (by decide) (by decide) (by decide)]; exact t1
  rw [fe_91_7, x38]
  simp only [show zObj 46 9 = true from rfl, zC_t]
  (repeat (first | refine zC_i (by first | assumption | decide | exact zr (by omega) (by omega) | exact zs (by omega) (by omega) | exact zd (by omega) (by omega)) ?_ | refine zIfT (by first | assumption | omega | decide) ?_ | refine zIfF (by first | assumption | omega | decide) ?_))
  refine x_settle xb46 (t := bR G mk H t0 0) (xNP_new (l := 0) (by omega) ⟨?_, ?_⟩ k6) (by omega) ?_
  · rw [k3 0 (by omega), g3, if_pos rfl, bR_nm]
  · rw [k5, g4, if_pos rfl]; omega
  intro M4 w1 w2
  refine hK M4 w1 ?_ ?_
  · intro c c1 c2
    rw [w2 c (by omega), k2 c (by omega) (by omega) (by omega) c2, g5' c (by omega) (by omega) (by omega) c2]
  · intro k c1 c2 hu hb
    rw [w2 153 (by omega)]
    by_cases c : k = 0
    · subst c
      rw [k8 0 (by omega), g5 153 (by decide) (by decide) (by decide), zUp_here, bPos_0]
    · rw [k7 k (by omega) (by omega) hu hb]; omega
