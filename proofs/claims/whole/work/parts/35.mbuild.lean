/-! LAYER 3: the reference builds a changed tree -/
theorem m_sortAt {d : Nat} {M G : Mm} {K : Kt} {b k : Int} {t : Tr} (hb : 0 ≤ b ∧ b + 161 ≤ 2093) (hg : gLn G) (hm : mG G M) (ht : mTr M b t) (hv : tVal (G 4 0) t) (h0 : 0 ≤ k) (h1 : k < tSz t) (hK : K (G 7 (tNm (tSub t k))) M) : zSp (d + 2) 197 [.inr (.inr 154), .inl b, .inl k] M K := by
  have nb := tNm_b hv k
  rw [me_197]
  refine m_nameOf hb ht h0 h1 ?_
  exact m_ofLine0 hg hm nb.1 nb.2 hK
def bNew (M : Mm) : Int → Tr → Int → Int → Int → Prop := fun p u _ _ _ => M 165 (162 + p) = tNm u ∧ M 165 (242 + p) = tSz u
/-- what a stretch of builds leaves alone: nodes before j, the stack up to l, all else -/
def bFr (M M' : Mm) (j l i e : Int) : Prop := (∀ c, c ≠ 165 → c ≠ 188 → c ≠ 189 → c ≠ 190 → M' c = M c) ∧ (∀ p, (p < 161 ∨ 322 ≤ p) → M' 165 p = M 165 p) ∧ (∀ p, 0 ≤ p → p < j → M' 165 (162 + p) = M 165 (162 + p) ∧ M' 165 (242 + p) = M 165 (242 + p)) ∧ (∀ q, q ≤ l → M' 189 q = M 189 q ∧ M' 190 q = M 190 q) ∧ (∀ k, (k ≤ i ∨ e ≤ k) → M' 188 k = M 188 k)
theorem bFr_refl {M : Mm} {j l i e : Int} : bFr M M j l i e := ⟨fun _ _ _ _ _ => rfl, fun _ _ => rfl, fun _ _ _ => ⟨rfl, rfl⟩, fun _ _ => ⟨rfl, rfl⟩, fun _ _ => rfl⟩
theorem bFr_trans {M M' M'' : Mm} {j l i e j' l' i' e' E : Int} (h : bFr M M' j l i e) (h' : bFr M' M'' j' l' i' e') (c1 : j ≤ j') (c2 : l ≤ l') (c3 : i ≤ i') (c4 : e ≤ E) (c5 : e' ≤ E) : bFr M M'' j l i E := by
  refine ⟨fun c a1 a2 a3 a4 => by rw [h'.1 c a1 a2 a3 a4, h.1 c a1 a2 a3 a4], fun p hp => by rw [h'.2.1 p hp, h.2.1 p hp], fun p p0 p1 => ?_, fun q hq => ?_, fun k hk => by rw [h'.2.2.2.2 k (by omega), h.2.2.2.2 k (by omega)]⟩
  · have a := h.2.2.1 p p0 p1
    have b := h'.2.2.1 p p0 (by omega)
    rw [b.1, b.2]; exact a
  · have a := h.2.2.2.1 q hq
    have b := h'.2.2.2.1 q (by omega)
    rw [b.1, b.2]; exact a
theorem bNew_fr {M M' : Mm} {t : Tr} {i l j : Int} (h : tAll (bNew M) t i l) (hi : 0 ≤ i) (hj : i + tSz t ≤ j) (f : ∀ p, 0 ≤ p → p < j → M' 165 (162 + p) = M 165 (162 + p) ∧ M' 165 (242 + p) = M 165 (242 + p)) : tAll (bNew M') t i l := by
  refine tAll_mono t i l ?_ h
  intro k u a q v c1 c2 c3 c4 c5 c6 hx
  have p := tSz_pos u
  have e := f k (by omega) (by omega)
  unfold bNew at hx ⊢
  rw [e.1, e.2]
  exact hx
theorem mApp_new {M M' : Mm} {n l : Int} {u : Tr} (hn : 0 ≤ n) (hz : n + tSz u ≤ 80) (h : mApp M M' n 0 u) : bNew M' n u 0 0 0 ∧ tAll (bNew M') u n l ∧ M' 165 161 = n + tSz u ∧ (∀ c, c ≠ 165 → M' c = M c) ∧ (∀ p, (p < 161 ∨ 322 ≤ p) → M' 165 p = M 165 p) ∧ (∀ p, 0 ≤ p → p < n → M' 165 (162 + p) = M 165 (162 + p) ∧ M' 165 (242 + p) = M 165 (242 + p)) := by
  obtain ⟨g1, g2, g3⟩ := h
  have q := tSz_pos u
  have at' : ∀ k, 0 ≤ k → k < tSz u → M' 165 (162 + (k + n)) = tNm (tSub u k) ∧ M' 165 (242 + (k + n)) = tSz (tSub u k) := by
    intro k c1 c2
    rw [g2 _ (by omega), if_pos (by omega), g2 _ (by omega), if_neg (by omega), if_pos (by omega), show 162 + (k + n) - 162 - n = k by omega, show 242 + (k + n) - 242 - n = k by omega]
    exact ⟨rfl, rfl⟩
  refine ⟨?_, ?_, g1, g3, ?_, ?_⟩
  · have := at' 0 (by omega) (by omega)
    rw [tSub_0, Int.zero_add] at this
    exact this
  · refine tAll_lay ?_
    intro k w a q v c1 c2 e
    rw [e]
    exact at' k (by omega) c2
  · intro p hp
    rw [g2 p (by omega), if_neg (by omega), if_neg (by omega)]
  · intro p c1 c2
    rw [g2 _ (by omega), if_neg (by omega), if_neg (by omega), g2 _ (by omega), if_neg (by omega), if_neg (by omega)]
    exact ⟨rfl, rfl⟩
theorem m_bd {d : Nat} {G : Mm} {K : Kt} {t0 : Tr} {mk : Int → Int} {hj : Int} (hg : gOk G) (hv0 : tVal (G 4 0) t0) (hh : 0 ≤ hj ∧ hj < tSz t0) : ∀ (t : Tr) (M : Mm) (i l j z : Int) (u3 : Option Vl), mG G M → mTr M 0 t0 → M 154 60 = hj ∨ (∀ k, mk k ≠ 2) → (∀ k, 0 ≤ k → k < 80 → M 187 k = mk k) → tVal (G 4 0) t → tAll (fun k u _ _ _ => u = tSub t0 k) t i l → tAll (bMk G mk (tSub t0 hj)) t i l → 0 ≤ i → 0 ≤ l → l ≤ i → 0 ≤ j → j ≤ i → tSz t ≤ z → i + z ≤ tSz t0 → M 189 l = i + z → M 165 161 = j + 1 →
    (∀ M' u3, M' 165 161 = j + tSz (bR G mk (tSub t0 hj) t i) → bFr M M' (j + 1) l i (i + tSz t) → tAll (bNew M') (bR G mk (tSub t0 hj) t i) j l → (∀ k, i < k → k < i + tSz t → bVis mk t i k → M' 188 k = j + bPos G mk (tSub t0 hj) t i k) →
      zWp (zSp (d + 4)) 217 K 13 [some (.inr (.inr 154)), some (.inl (l + 1)), some (.inl (i + tSz t)), u3] [] M') →
    zWp (zSp (d + 4)) 217 K 13 [some (.inr (.inr 154)), some (.inl (l + 1)), some (.inl (i + 1)), u3] [] M
  | .var nn, M, i, l, j, z, u3, hm, ht, hH, hmk, hv, hA, hB, h0, hl, hli, hj0, hji, hz, hiz, hst, hmany, hK => hK M u3 hmany bFr_refl trivial (fun k c1 c2 => by
      have c2 : k < i + 1 := c2
      omega)
  | .op f s, M, i, l, j, z, u3, hm, ht, hH, hmk, hv, hA, hB, h0, hl, hli, hj0, hji, hz, hiz, hst, hmany, hK => by
    have hz : tSz f + tSz s ≤ z := hz
    have q1 := tSz_pos f
    have q2 := tSz_pos s
    have t5 := ht.2
    obtain ⟨hAf, hAe, hAs⟩ := hA
    have hAe : s = tSub t0 (i + tSz f) := hAe
    obtain ⟨hBf, ⟨hB0, hB1, hB2⟩, hBs⟩ := hB
    have szf := bR_sz hg f i l hv.1 hBf
    have szs := bR_sz hg s _ _ hv.2 hBs
    have pf := tSz_pos (bR G mk (tSub t0 hj) f i)
    have nb := tVal_nm s hv.2
    have so := (hg.1.2.1 _ nb.1 nb.2).2.2.1
    have gsz := gT_sz hg nb
    refine m_bd hg hv0 hh f M i l j z u3 hm ht hH hmk hv.1 hAf hBf h0 hl hli hj0 hji (by omega) hiz hst hmany ?_
    intro M1 u3 f1 f2 f3 f4
    have ht1 : mTr M1 0 t0 := mTr_fr ht fun p c1 c2 => f2.2.1 p (by omega)
    have hm1 : mG G M1 := mG_fr hm (f2.1 156 (by decide) (by decide) (by decide) (by decide)) (f2.1 157 (by decide) (by decide) (by decide) (by decide)) (f2.1 158 (by decide) (by decide) (by decide) (by decide)) (f2.1 162 (by decide) (by decide) (by decide) (by decide)) (f2.1 163 (by decide) (by decide) (by decide) (by decide))
    have e189 := (f2.2.2.2.1 l (by omega)).1
    have e154 : M1 154 = M 154 := f2.1 154 (by decide) (by decide) (by decide) (by decide)
    have e187 : M1 187 (i + tSz f) = mk (i + tSz f) := by
      rw [f2.1 187 (by decide) (by decide) (by decide) (by decide)]; exact hmk _ (by omega) (by omega)
    rw [fe_217_13]
    (repeat (first | refine zC_i (by first | assumption | decide | exact zr (by omega) (by omega) | exact zs (by omega) (by omega) | exact zd (by omega) (by omega)) ?_ | refine zIfT (by first | assumption | omega | decide) ?_ | refine zIfF (by first | assumption | omega | decide) ?_))
    rw [fe_217_26]
    rw [Int.add_sub_cancel, e189, hst]
    (repeat (first | refine zC_i (by first | assumption | decide | exact zr (by omega) (by omega) | exact zs (by omega) (by omega) | exact zd (by omega) (by omega)) ?_ | refine zIfT (by first | assumption | omega | decide) ?_ | refine zIfF (by first | assumption | omega | decide) ?_))
    rw [fe_217_77]
    refine m_many (by decide) ?_
    rw [f1]
    refine zC_i (by first | assumption | decide | exact zr (by omega) (by omega) | exact zs (by omega) (by omega) | exact zd (by omega) (by omega)) ?_
    have ht2 : mTr (zUp M1 188 (i + tSz f) (j + tSz (bR G mk (tSub t0 hj) f i))) 0 t0 := mTr_fr ht1 fun p c1 c2 => rfl
    have hm2 : mG G (zUp M1 188 (i + tSz f) (j + tSz (bR G mk (tSub t0 hj) f i))) := mG_fr hm1 rfl rfl rfl rfl rfl
    have e2 : (zUp M1 188 (i + tSz f) (j + tSz (bR G mk (tSub t0 hj) f i))) 165 161 = j + tSz (bR G mk (tSub t0 hj) f i) := f1
    refine m_sizeOf (by decide) ht2 (by omega) (by omega) ?_
    rw [← hAe, zUp_away (show (187 : Nat) ≠ 188 by decide), zUp_away (show (154 : Nat) ≠ 188 by decide), e187, e154]
    have fr2 : bFr M (zUp M1 188 (i + tSz f) (j + tSz (bR G mk (tSub t0 hj) f i))) (j + 1) l i (i + tSz f + 1) :=
      bFr_trans f2 (j' := j + 1) (l' := l) (i' := i + tSz f - 1) (e' := i + tSz f + 1) ⟨fun c a1 a2 a3 a4 => zUp_away a2, fun p hp => rfl, fun p p0 p1 => ⟨rfl, rfl⟩, fun q hq => ⟨rfl, rfl⟩, fun k hk => zUp_there (by omega)⟩ (by omega) (by omega) (by omega) (by omega) (by omega)
    have e9 : i + tSz f + tSz s = i + tSz (.op f s) := by show _ = i + (tSz f + tSz s); omega
    have bPf : ∀ k, k < i + tSz f → bPos G mk (tSub t0 hj) (.op f s) i k = bPos G mk (tSub t0 hj) f i k := fun k hk => if_pos hk
    have bPs : ∀ k, i + tSz f ≤ k → bPos G mk (tSub t0 hj) (.op f s) i k = tSz (bR G mk (tSub t0 hj) f i) + bPos G mk (tSub t0 hj) s (i + tSz f) k := fun k hk => if_neg (by omega)
    have bVf : ∀ k, k < i + tSz f → bVis mk (.op f s) i k → bVis mk f i k := fun k hk h => by
      have h : (if k < i + tSz f then bVis mk f i k else _) := h
      rwa [if_pos hk] at h
    have bVs : ∀ k, i + tSz f < k → bVis mk (.op f s) i k → mk (i + tSz f) = -1 ∧ bVis mk s (i + tSz f) k := fun k hk h => by
      have h : (if k < i + tSz f then _ else (k = i + tSz f ∨ (mk (i + tSz f) = -1 ∧ bVis mk s (i + tSz f) k))) := h
      rw [if_neg (by omega)] at h
      rcases h with h | h
      · omega
      · exact h
    -- what a marked part leaves
    have hmark : mk (i + tSz f) ≠ -1 → ∀ M' u3, M' 165 161 = j + tSz (bR G mk (tSub t0 hj) (.op f s) i) → bFr (zUp M1 188 (i + tSz f) (j + tSz (bR G mk (tSub t0 hj) f i))) M' (j + tSz (bR G mk (tSub t0 hj) f i)) l (i + tSz f) (i + tSz f + 1) → tAll (bNew M') (bR G mk (tSub t0 hj) (.op f s) i) j l → zWp (zSp (d + 4)) 217 K 13 [some (.inr (.inr 154)), some (.inl (l + 1)), some (.inl (i + tSz f + tSz s)), u3] [] M' := by
      intro hne M' u3 g1 g2 g3
      rw [e9]
      refine hK M' u3 g1 (bFr_trans fr2 g2 (by omega) (by omega) (by omega) (by show _ ≤ i + (tSz f + tSz s); omega) (by show _ ≤ i + (tSz f + tSz s); omega)) g3 ?_
      intro k c1 c2 hb
      rw [g2.2.2.2.2 k (by omega)]
      by_cases c : k < i + tSz f
      · rw [zUp_there (by omega), bPf k c]
        exact f4 k c1 c (bVf k c hb)
      · by_cases c3 : k = i + tSz f
        · subst c3
          rw [zUp_here, bPs _ (by omega), bPos_0]
          omega
        · exact absurd (bVs k (by omega) hb).1 hne
    rcases hB0 with hk | hk | hk | hk
    · -- stays
      rw [hk]
      (repeat (first | refine zC_i (by first | assumption | decide | exact zr (by omega) (by omega) | exact zs (by omega) (by omega) | exact zd (by omega) (by omega)) ?_ | refine zIfT (by first | assumption | omega | decide) ?_ | refine zIfF (by first | assumption | omega | decide) ?_))
      rw [fe_217_140, zUp_away (show (187 : Nat) ≠ 188 by decide), e187, hk]
      (repeat (first | refine zC_i (by first | assumption | decide | exact zr (by omega) (by omega) | exact zs (by omega) (by omega) | exact zd (by omega) (by omega)) ?_ | refine zIfT (by first | assumption | omega | decide) ?_ | refine zIfF (by first | assumption | omega | decide) ?_))
      refine m_nameOf (by decide) ht2 (by omega) (by omega) ?_
      rw [← hAe]
      refine m_adds e2 (by omega) ?_
      intro M3 a1 a2 a3
      (repeat (first | refine zC_i (by first | assumption | decide | exact zr (by omega) (by omega) | exact zs (by omega) (by omega) | exact zd (by omega) (by omega)) ?_ | refine zIfT (by first | assumption | omega | decide) ?_ | refine zIfF (by first | assumption | omega | decide) ?_))
      have ht3 : mTr M3 0 t0 := mTr_fr ht2 fun p c1 c2 => by rw [a2 p (by omega), if_neg (by omega), if_neg (by omega)]
      have hm3 : mG G M3 := mG_fr hm2 (a3 156 (by decide)) (a3 157 (by decide)) (a3 158 (by decide)) (a3 162 (by decide)) (a3 163 (by decide))
      have fr3 : bFr (zUp M1 188 (i + tSz f) (j + tSz (bR G mk (tSub t0 hj) f i))) (zUp (zUp M3 190 (l + 1) (j + tSz (bR G mk (tSub t0 hj) f i))) 189 (l + 1) (i + tSz f + tSz s)) (j + tSz (bR G mk (tSub t0 hj) f i)) l (i + tSz f) (i + tSz f + 1) := by
        refine ⟨fun c c1 c2 c3 c4 => by rw [zUp_away c3, zUp_away c4, a3 c c1], fun p hp => ?_, fun p p0 p1 => ⟨?_, ?_⟩, fun q hq => ⟨?_, ?_⟩, fun k hk => ?_⟩
        · show M3 165 p = _
          rw [a2 p (by omega), if_neg (by omega), if_neg (by omega)]
        · show M3 165 _ = _
          rw [a2 _ (by omega), if_neg (by omega), if_neg (by omega)]
        · show M3 165 _ = _
          rw [a2 _ (by omega), if_neg (by omega), if_neg (by omega)]
        · rw [zUp_there (by omega), zUp_away (by decide), a3 189 (by decide)]
        · rw [zUp_away (by decide), zUp_there (by omega), a3 190 (by decide)]
        · show M3 188 k = _
          rw [a3 188 (by decide)]
      have szb := tSz_pos (bR G mk (tSub t0 hj) s (i + tSz f))
      refine m_bd hg hv0 hh s _ (i + tSz f) (l + 1) (j + tSz (bR G mk (tSub t0 hj) f i)) (tSz s) _ (mG_fr hm3 rfl rfl rfl rfl rfl) (mTr_fr ht3 fun _ _ _ => rfl) ?_ ?_ hv.2 hAs hBs (by omega) (by omega) (by omega) (by omega) (by omega) (by omega) (by omega) (by rw [zUp_here]) a1 ?_
      · show M3 154 60 = hj ∨ _
        rw [a3 154 (by decide)]
        show M1 154 60 = hj ∨ _
        rw [e154]; exact hH
      · intro k c1 c2
        show M3 187 k = mk k
        rw [a3 187 (by decide)]
        show M1 187 k = mk k
        rw [f2.1 187 (by decide) (by decide) (by decide) (by decide)]
        exact hmk k c1 c2
      intro M5 u3 k1 k2 k3 k4
      have x189 := (k2.2.2.2.1 (l + 1) (by omega)).1
      have x190 := (k2.2.2.2.1 (l + 1) (by omega)).2
      rw [zUp_here] at x189
      rw [zUp_away (by decide), zUp_here] at x190
      have xn := (k2.2.2.1 (j + tSz (bR G mk (tSub t0 hj) f i)) (by omega) (by omega)).1
      rw [fe_217_13]
      (repeat (first | refine zC_i (by first | assumption | decide | exact zr (by omega) (by omega) | exact zs (by omega) (by omega) | exact zd (by omega) (by omega)) ?_ | refine zIfT (by first | assumption | omega | decide) ?_ | refine zIfF (by first | assumption | omega | decide) ?_))
      rw [fe_217_26, Int.add_sub_cancel, x189]
      (repeat (first | refine zC_i (by first | assumption | decide | exact zr (by omega) (by omega) | exact zs (by omega) (by omega) | exact zd (by omega) (by omega)) ?_ | refine zIfT (by first | assumption | omega | decide) ?_ | refine zIfF (by first | assumption | omega | decide) ?_))
      refine m_many (by decide) ?_
      rw [show l + 1 + 1 + -1 = l + 1 by omega, x190, k1]
      (repeat (first | refine zC_i (by first | assumption | decide | exact zr (by omega) (by omega) | exact zs (by omega) (by omega) | exact zd (by omega) (by omega)) ?_ | refine zIfT (by first | assumption | omega | decide) ?_ | refine zIfF (by first | assumption | omega | decide) ?_))
      have fr6 : bFr M5 (zUp M5 165 (242 + (j + tSz (bR G mk (tSub t0 hj) f i))) (j + tSz (bR G mk (tSub t0 hj) f i) + tSz (bR G mk (tSub t0 hj) s (i + tSz f)) - (j + tSz (bR G mk (tSub t0 hj) f i)))) (j + tSz (bR G mk (tSub t0 hj) f i)) l (i + tSz f) (i + tSz f + 1) :=
        ⟨fun c c1 c2 c3 c4 => zUp_away c1, fun p hp => zUp_there (by omega), fun p p0 p1 => ⟨zUp_there (by omega), zUp_there (by omega)⟩, fun q hq => ⟨rfl, rfl⟩, fun k hk => rfl⟩
      have fr5 := bFr_trans (E := i + tSz (.op f s)) (bFr_trans (E := i + tSz (.op f s)) (bFr_trans (E := i + tSz (.op f s)) fr2 fr3 (by omega) (by omega) (by omega) (by omega) (by omega)) k2 (by omega) (by omega) (by omega) (by omega) (by omega)) fr6 (by omega) (by omega) (by omega) (by omega) (by omega)
      rw [e9]
      have hbr := bR_n (G := G) (H := tSub t0 hj) (s := s) hk
      refine hK _ _ ?_ fr5 ?_ ?_
      · rw [zUp_there (by omega), hbr, k1]
        show _ = j + (tSz _ + tSz _)
        omega
      · rw [hbr]
        refine ⟨bNew_fr f3 hj0 (Int.le_refl _) ?_, ?_, ?_⟩
        · intro p p0 p1
          have w1 := k2.2.2.1 p p0 (by omega)
          have w2 := fr3.2.2.1 p p0 p1
          rw [zUp_there (by omega), zUp_there (by omega), w1.1, w1.2, w2.1, w2.2]
          exact ⟨rfl, rfl⟩
        · unfold bNew
          rw [zUp_there (by omega), zUp_here, xn, bR_nm]
          refine ⟨?_, by omega⟩
          show M3 165 _ = _
          rw [a2 _ (by omega), if_pos rfl]
        · refine tAll_mono _ _ _ ?_ k3
          intro k u a q v c1 c2 c3 c4 c5 c6 hx
          have pu := tSz_pos u
          unfold bNew at hx ⊢
          rw [zUp_there (by omega), zUp_there (by omega)]
          exact hx
      · intro k c1 c2 hb
        show M5 188 k = _
        by_cases c : k < i + tSz f
        · rw [k2.2.2.2.2 k (by omega), fr3.2.2.2.2 k (by omega), zUp_there (by omega), bPf k c]
          exact f4 k c1 c (bVf k c hb)
        · by_cases c3 : k = i + tSz f
          · subst c3
            rw [k2.2.2.2.2 _ (by omega), fr3.2.2.2.2 _ (by omega), zUp_here, bPs _ (by omega), bPos_0]
            omega
          · have hb2 := (bVs k (by omega) hb).2
            have c2 : k < i + (tSz f + tSz s) := c2
            rw [k4 k (by omega) (by omega) hb2, bPs k (by omega)]
            omega
    · -- cut
      rw [hk]
      (repeat (first | refine zC_i (by first | assumption | decide | exact zr (by omega) (by omega) | exact zs (by omega) (by omega) | exact zd (by omega) (by omega)) ?_ | refine zIfT (by first | assumption | omega | decide) ?_ | refine zIfF (by first | assumption | omega | decide) ?_))
      rw [fe_217_140, zUp_away (show (187 : Nat) ≠ 188 by decide), e187, hk]
      (repeat (first | refine zC_i (by first | assumption | decide | exact zr (by omega) (by omega) | exact zs (by omega) (by omega) | exact zd (by omega) (by omega)) ?_ | refine zIfT (by first | assumption | omega | decide) ?_ | refine zIfF (by first | assumption | omega | decide) ?_))
      have hbr := bR_0 (G := G) (H := tSub t0 hj) (s := s) hk
      refine hmark (by omega) _ _ ?_ bFr_refl ?_
      · rw [hbr]; exact f1
      · rw [hbr]
        exact bNew_fr f3 hj0 (Int.le_refl _) (fun p _ _ => ⟨rfl, rfl⟩)
    · -- least
      have hle := hB1 hk
      rw [hk]
      (repeat (first | refine zC_i (by first | assumption | decide | exact zr (by omega) (by omega) | exact zs (by omega) (by omega) | exact zd (by omega) (by omega)) ?_ | refine zIfT (by first | assumption | omega | decide) ?_ | refine zIfF (by first | assumption | omega | decide) ?_))
      refine m_sortAt (by decide) hg.1 hm2 ht2 hv0 (by omega) (by omega) ?_
      rw [← hAe]
      refine m_addsLeast hg hm2 so.1 so.2 (by omega) (by omega) e2 ?_
      intro M3 hap
      obtain ⟨n1, n2, n3, n4, n5, n6⟩ := mApp_new (l := l + 1) (by omega) (by omega) hap
      rw [fe_217_140, n4 187 (by decide), zUp_away (show (187 : Nat) ≠ 188 by decide), e187, hk]
      (repeat (first | refine zC_i (by first | assumption | decide | exact zr (by omega) (by omega) | exact zs (by omega) (by omega) | exact zd (by omega) (by omega)) ?_ | refine zIfT (by first | assumption | omega | decide) ?_ | refine zIfF (by first | assumption | omega | decide) ?_))
      have hbr := bR_1 (G := G) (H := tSub t0 hj) (s := s) hk
      refine hmark (by omega) _ _ ?_ ⟨fun c c1 c2 c3 c4 => n4 c c1, n5, n6, fun q hq => by rw [n4 189 (by decide), n4 190 (by decide)]; exact ⟨rfl, rfl⟩, fun k hk => by rw [n4 188 (by decide)]⟩ ?_
      · rw [hbr, n3]
        show _ = j + (tSz _ + tSz _)
        omega
      · rw [hbr]
        exact ⟨bNew_fr f3 hj0 (Int.le_refl _) n6, n1, n2⟩
    · -- hoist
      have hle := hB2 hk
      have hH2 : M 154 60 = hj := by
        rcases hH with hH | hH
        · exact hH
        · exact absurd hk (hH _)
      rw [hk]
      (repeat (first | refine zC_i (by first | assumption | decide | exact zr (by omega) (by omega) | exact zs (by omega) (by omega) | exact zd (by omega) (by omega)) ?_ | refine zIfT (by first | assumption | omega | decide) ?_ | refine zIfF (by first | assumption | omega | decide) ?_))
      rw [hH2]
      refine m_addsPart hh.1 hh.2 (by omega) (by omega) ht2 e2 ?_
      intro M3 hap
      obtain ⟨n1, n2, n3, n4, n5, n6⟩ := mApp_new (l := l + 1) (by omega) (by omega) hap
      rw [fe_217_140, n4 187 (by decide), zUp_away (show (187 : Nat) ≠ 188 by decide), e187, hk]
      (repeat (first | refine zC_i (by first | assumption | decide | exact zr (by omega) (by omega) | exact zs (by omega) (by omega) | exact zd (by omega) (by omega)) ?_ | refine zIfT (by first | assumption | omega | decide) ?_ | refine zIfF (by first | assumption | omega | decide) ?_))
      have hbr := bR_2 (G := G) (H := tSub t0 hj) (s := s) hk
      refine hmark (by omega) _ _ ?_ ⟨fun c c1 c2 c3 c4 => n4 c c1, n5, n6, fun q hq => by rw [n4 189 (by decide), n4 190 (by decide)]; exact ⟨rfl, rfl⟩, fun k hk => by rw [n4 188 (by decide)]⟩ ?_
      · rw [hbr, n3]
        show _ = j + (tSz _ + tSz _)
        omega
      · rw [hbr]
        exact ⟨bNew_fr f3 hj0 (Int.le_refl _) n6, n1, n2⟩
theorem bT_sz {G : Mm} (hg : gOk G) {mk : Int → Int} {H t : Tr} (hv : tVal (G 4 0) t) (h0 : bMk G mk H 0 t 0 0 0) (hB : tAll (bMk G mk H) t 0 0) : tSz (bT G mk H t) ≤ tSz t := by
  obtain ⟨b0, b1, b2⟩ := h0
  have gsz := gT_sz hg (tVal_nm t hv)
  unfold bT
  split
  · have := b1 (by assumption)
    omega
  · split
    · exact b2 (by assumption)
    · exact bR_sz hg t 0 0 hv hB
theorem bT_val {G : Mm} (hg : gOk G) {mk : Int → Int} {H t : Tr} (hv : tVal (G 4 0) t) (hH : tVal (G 4 0) H) : tVal (G 4 0) (bT G mk H t) := by
  have gsz := gT_sz hg (tVal_nm t hv)
  unfold bT
  split
  · exact gsz.2
  · split
    · exact hH
    · exact bR_val hg hH t 0 hv
theorem mTr_new {M : Mm} {t : Tr} {l : Int} (hz : tSz t ≤ 80) (h1 : M 165 161 = tSz t) (h2 : bNew M 0 t 0 0 0) (h3 : tAll (bNew M) t 0 l) : mTr M 161 t := by
  unfold bNew at h2
  refine ⟨⟨h1, h2.1, h2.2, ?_⟩, hz⟩
  have := tAll_shift (Ψ := fun k u _ _ _ => M 165 (161 + 1 + k) = tNm u ∧ M 165 (161 + 81 + k) = tSz u) (δ := 0) t 0 l (fun k u a q v c1 c2 c3 hx => by
    unfold bNew at hx
    rw [Int.add_zero]
    exact hx) h3
  rw [Int.add_zero] at this
  have lv : ∀ (t : Tr) (i l l' : Int) (Φ : Int → Tr → Prop), tAll (fun k u _ _ _ => Φ k u) t i l → tAll (fun k u _ _ _ => Φ k u) t i l' := by
    intro t
    induction t with
    | var n => exact fun _ _ _ _ _ => trivial
    | op f s ihf ihs => exact fun i l l' Φ h => ⟨ihf i l l' Φ h.1, h.2.1, ihs _ _ _ Φ h.2.2⟩
  exact lv t 0 l 0 (fun k u => M 165 (161 + 1 + k) = tNm u ∧ M 165 (161 + 81 + k) = tSz u) this
theorem m_builds {d : Nat} {M G : Mm} {K : Kt} {t0 : Tr} {mk : Int → Int} {hj : Int} (hg : gOk G) (hm : mG G M) (ht : mTr M 0 t0) (hv : tVal (G 4 0) t0) (hh : 0 ≤ hj ∧ hj < tSz t0) (hH : M 154 60 = hj ∨ (∀ k, mk k ≠ 2)) (hmk : ∀ k, 0 ≤ k → k < 80 → M 187 k = mk k) (h00 : mk 0 ≠ 0) (h0 : bMk G mk (tSub t0 hj) 0 t0 0 0 0) (hB : tAll (bMk G mk (tSub t0 hj)) t0 0 0)
    (hK : ∀ M', mTr M' 161 (bT G mk (tSub t0 hj) t0) → (∀ c, c ≠ 165 → c ≠ 188 → c ≠ 189 → c ≠ 190 → M' c = M c) → (∀ p, (p < 161 ∨ 322 ≤ p) → M' 165 p = M 165 p) → (mk 0 = -1 → ∀ k, 0 ≤ k → k < tSz t0 → bVis mk t0 0 k → M' 188 k = bPos G mk (tSub t0 hj) t0 0 k) → K 0 M') : zSp (d + 5) 217 [.inr (.inr 154)] M K := by
  have q1 := tSz_pos t0
  have t1 := ht.1.1
  have t5 := ht.2
  have nb := tVal_nm t0 hv
  have so := (hg.1.2.1 _ nb.1 nb.2).2.2.1
  have gsz := gT_sz hg nb
  have bsz := bT_sz hg hv h0 hB
  have ht1 : mTr (zUp M 165 161 0) 0 t0 := mTr_fr ht fun p c1 c2 => zUp_there (by omega)
  have ht2 : mTr (zUp (zUp M 165 161 0) 188 0 0) 0 t0 := mTr_fr ht1 fun p c1 c2 => rfl
  have hm2 : mG G (zUp (zUp M 165 161 0) 188 0 0) := mG_fr hm rfl rfl rfl rfl rfl
  have e2 : (zUp (zUp M 165 161 0) 188 0 0) 165 161 = 0 := rfl
  have e187 : M 187 0 = mk 0 := hmk 0 (by omega) (by omega)
  obtain ⟨b0, b1, b2⟩ := h0
  -- the end
  have hend : ∀ M' u3, M' 165 0 = tSz t0 → K 0 M' → zWp (zSp (d + 4)) 217 K 13 [some (.inr (.inr 154)), some (.inl 0), some (.inl (tSz t0)), u3] [] M' := by
    intro M' u3 g1 g2
    rw [fe_217_13]
    (repeat (first | refine zC_i (by first | assumption | decide | exact zr (by omega) (by omega) | exact zs (by omega) (by omega) | exact zd (by omega) (by omega)) ?_ | refine zIfT (by first | assumption | omega | decide) ?_ | refine zIfF (by first | assumption | omega | decide) ?_))
    refine m_many (by decide) ?_
    rw [g1]
    (repeat (first | refine zC_i (by first | assumption | decide | exact zr (by omega) (by omega) | exact zs (by omega) (by omega) | exact zd (by omega) (by omega)) ?_ | refine zIfT (by first | assumption | omega | decide) ?_ | refine zIfF (by first | assumption | omega | decide) ?_))
    exact g2
  rw [me_217, fe_217_13]
  (repeat (first | refine zC_i (by first | assumption | decide | exact zr (by omega) (by omega) | exact zs (by omega) (by omega) | exact zd (by omega) (by omega)) ?_ | refine zIfT (by first | assumption | omega | decide) ?_ | refine zIfF (by first | assumption | omega | decide) ?_))
  refine m_many (by decide) ?_
  rw [ht1.1.1]
  (repeat (first | refine zC_i (by first | assumption | decide | exact zr (by omega) (by omega) | exact zs (by omega) (by omega) | exact zd (by omega) (by omega)) ?_ | refine zIfT (by first | assumption | omega | decide) ?_ | refine zIfF (by first | assumption | omega | decide) ?_))
  rw [fe_217_26]
  (repeat (first | refine zC_i (by first | assumption | decide | exact zr (by omega) (by omega) | exact zs (by omega) (by omega) | exact zd (by omega) (by omega)) ?_ | refine zIfT (by first | assumption | omega | decide) ?_ | refine zIfF (by first | assumption | omega | decide) ?_))
  rw [fe_217_77]
  refine m_many (by decide) ?_
  rw [zUp_here]
  (repeat (first | refine zC_i (by first | assumption | decide | exact zr (by omega) (by omega) | exact zs (by omega) (by omega) | exact zd (by omega) (by omega)) ?_ | refine zIfT (by first | assumption | omega | decide) ?_ | refine zIfF (by first | assumption | omega | decide) ?_))
  refine m_sizeOf (by decide) ht2 (by omega) (by omega) ?_
  rw [tSub_0, show (zUp (zUp M 165 161 0) 188 0 0) 187 0 = mk 0 from e187]
  rcases b0 with hk | hk | hk | hk
  · rw [hk]
    (repeat (first | refine zC_i (by first | assumption | decide | exact zr (by omega) (by omega) | exact zs (by omega) (by omega) | exact zd (by omega) (by omega)) ?_ | refine zIfT (by first | assumption | omega | decide) ?_ | refine zIfF (by first | assumption | omega | decide) ?_))
    rw [fe_217_140, show (zUp (zUp M 165 161 0) 188 0 0) 187 0 = mk 0 from e187, hk]
    (repeat (first | refine zC_i (by first | assumption | decide | exact zr (by omega) (by omega) | exact zs (by omega) (by omega) | exact zd (by omega) (by omega)) ?_ | refine zIfT (by first | assumption | omega | decide) ?_ | refine zIfF (by first | assumption | omega | decide) ?_))
    refine m_nameOf (by decide) ht2 (by omega) (by omega) ?_
    rw [tSub_0]
    refine m_adds e2 (by omega) ?_
    intro M3 a1 a2 a3
    (repeat (first | refine zC_i (by first | assumption | decide | exact zr (by omega) (by omega) | exact zs (by omega) (by omega) | exact zd (by omega) (by omega)) ?_ | refine zIfT (by first | assumption | omega | decide) ?_ | refine zIfF (by first | assumption | omega | decide) ?_))
    have ht3 : mTr M3 0 t0 := mTr_fr ht2 fun p c1 c2 => by rw [a2 p (by omega), if_neg (by omega), if_neg (by omega)]
    have hm3 : mG G M3 := mG_fr hm2 (a3 156 (by decide)) (a3 157 (by decide)) (a3 158 (by decide)) (a3 162 (by decide)) (a3 163 (by decide))
    refine m_bd hg hv hh t0 _ 0 0 0 (tSz t0) _ (mG_fr hm3 rfl rfl rfl rfl rfl) (mTr_fr ht3 fun _ _ _ => rfl) ?_ ?_ hv (tAll_put fun _ _ _ => rfl) hB (by omega) (by omega) (by omega) (by omega) (by omega) (by omega) (by omega) (by rw [zUp_here]) a1 ?_
    · show M3 154 60 = hj ∨ _
      rw [a3 154 (by decide)]
      exact hH
    · intro k c1 c2
      show M3 187 k = mk k
      rw [a3 187 (by decide)]
      exact hmk k c1 c2
    intro M5 u3 k1 k2 k3 k4
    have x189 := (k2.2.2.2.1 0 (by omega)).1
    have x190 := (k2.2.2.2.1 0 (by omega)).2
    rw [zUp_here] at x189
    rw [zUp_away (by decide), zUp_here] at x190
    have xn := (k2.2.2.1 0 (by omega) (by omega)).1
    have pb := tSz_pos (bR G mk (tSub t0 hj) t0 0)
    have hbt : bT G mk (tSub t0 hj) t0 = bR G mk (tSub t0 hj) t0 0 := by
      unfold bT
      rw [if_neg (by omega), if_neg (by omega)]
    rw [hbt] at bsz hK
    rw [fe_217_13]
    (repeat (first | refine zC_i (by first | assumption | decide | exact zr (by omega) (by omega) | exact zs (by omega) (by omega) | exact zd (by omega) (by omega)) ?_ | refine zIfT (by first | assumption | omega | decide) ?_ | refine zIfF (by first | assumption | omega | decide) ?_))
    rw [fe_217_26, Int.add_sub_cancel, x189]
    (repeat (first | refine zC_i (by first | assumption | decide | exact zr (by omega) (by omega) | exact zs (by omega) (by omega) | exact zd (by omega) (by omega)) ?_ | refine zIfT (by first | assumption | omega | decide) ?_ | refine zIfF (by first | assumption | omega | decide) ?_))
    refine m_many (by decide) ?_
    rw [show (0 : Int) + 1 + -1 = 0 by omega, x190, k1]
    (repeat (first | refine zC_i (by first | assumption | decide | exact zr (by omega) (by omega) | exact zs (by omega) (by omega) | exact zd (by omega) (by omega)) ?_ | refine zIfT (by first | assumption | omega | decide) ?_ | refine zIfF (by first | assumption | omega | decide) ?_))
    rw [Int.zero_add]
    refine hend _ _ ?_ ?_
    · rw [zUp_there (by omega), k2.2.1 0 (by omega)]
      exact ht3.1.1
    · refine hK _ (mTr_new (l := 0) (by omega) ?_ ?_ ?_) ?_ ?_ ?_
      · rw [zUp_there (by omega), k1]; omega
      · unfold bNew
        rw [zUp_there (by omega), zUp_here, xn, bR_nm]
        refine ⟨?_, by omega⟩
        show M3 165 _ = _
        rw [a2 _ (by omega), if_pos rfl]
      · refine tAll_mono _ _ _ ?_ k3
        intro k u a q v c1 c2 c3 c4 c5 c6 hx
        have pu := tSz_pos u
        unfold bNew at hx ⊢
        rw [zUp_there (by omega), zUp_there (by omega)]
        exact hx
      · intro c c1 c2 c3 c4
        rw [zUp_away c1, k2.1 c c1 c2 c3 c4, zUp_away c3, zUp_away c4, a3 c c1, zUp_away c2, zUp_away c1]
      · intro p hp
        rw [zUp_there (by omega), k2.2.1 p hp]
        show M3 165 p = _
        rw [a2 p (by omega), if_neg (by omega), if_neg (by omega), zUp_away (by decide), zUp_there (by omega)]
      · intro _ k c1 c2 hb
        show M5 188 k = _
        by_cases c : k = 0
        · subst c
          rw [k2.2.2.2.2 0 (by omega), bPos_0]
          show M3 188 0 = 0
          rw [a3 188 (by decide), zUp_here]
        · rw [k4 k (by omega) (by omega) hb, Int.zero_add]
  · exact absurd hk h00
  · have hle := b1 hk
    have hbt : bT G mk (tSub t0 hj) t0 = gT G 6 (G 7 (tNm t0)) := by
      unfold bT
      rw [if_pos hk]
    rw [hbt] at bsz hK
    rw [hk]
    (repeat (first | refine zC_i (by first | assumption | decide | exact zr (by omega) (by omega) | exact zs (by omega) (by omega) | exact zd (by omega) (by omega)) ?_ | refine zIfT (by first | assumption | omega | decide) ?_ | refine zIfF (by first | assumption | omega | decide) ?_))
    refine m_sortAt (by decide) hg.1 hm2 ht2 hv (by omega) (by omega) ?_
    rw [tSub_0]
    refine m_addsLeast hg hm2 so.1 so.2 (by omega) (by omega) e2 ?_
    intro M3 hap
    obtain ⟨n1, n2, n3, n4, n5, n6⟩ := mApp_new (l := 0) (by omega) (by omega) hap
    rw [fe_217_140, n4 187 (by decide), show (zUp (zUp M 165 161 0) 188 0 0) 187 0 = mk 0 from e187, hk]
    (repeat (first | refine zC_i (by first | assumption | decide | exact zr (by omega) (by omega) | exact zs (by omega) (by omega) | exact zd (by omega) (by omega)) ?_ | refine zIfT (by first | assumption | omega | decide) ?_ | refine zIfF (by first | assumption | omega | decide) ?_))
    rw [Int.zero_add]
    refine hend _ _ ?_ (hK _ (mTr_new (l := 0) (by omega) (by omega) n1 n2) ?_ ?_ (fun c => absurd c (by omega)))
    · rw [n5 0 (by omega)]
      exact ht2.1.1
    · intro c c1 c2 c3 c4
      rw [n4 c c1, zUp_away c2, zUp_away c1]
    · intro p hp
      rw [n5 p hp, zUp_away (by decide), zUp_there (by omega)]
  · have hle := b2 hk
    have hbt : bT G mk (tSub t0 hj) t0 = tSub t0 hj := by
      unfold bT
      rw [if_neg (by omega), if_pos hk]
    rw [hbt] at bsz hK
    have hH2 : M 154 60 = hj := by
      rcases hH with hH | hH
      · exact hH
      · exact absurd hk (hH _)
    rw [hk]
    (repeat (first | refine zC_i (by first | assumption | decide | exact zr (by omega) (by omega) | exact zs (by omega) (by omega) | exact zd (by omega) (by omega)) ?_ | refine zIfT (by first | assumption | omega | decide) ?_ | refine zIfF (by first | assumption | omega | decide) ?_))
    rw [show (zUp (zUp M 165 161 0) 188 0 0) 154 60 = hj from hH2]
    refine m_addsPart hh.1 hh.2 (by omega) (by omega) ht2 e2 ?_
    intro M3 hap
    obtain ⟨n1, n2, n3, n4, n5, n6⟩ := mApp_new (l := 0) (by omega) (by omega) hap
    rw [fe_217_140, n4 187 (by decide), show (zUp (zUp M 165 161 0) 188 0 0) 187 0 = mk 0 from e187, hk]
    (repeat (first | refine zC_i (by first | assumption | decide | exact zr (by omega) (by omega) | exact zs (by omega) (by omega) | exact zd (by omega) (by omega)) ?_ | refine zIfT (by first | assumption | omega | decide) ?_ | refine zIfF (by first | assumption | omega | decide) ?_))
    rw [Int.zero_add]
    refine hend _ _ ?_ (hK _ (mTr_new (l := 0) (by omega) (by omega) n1 n2) ?_ ?_ (fun c => absurd c (by omega)))
    · rw [n5 0 (by omega)]
      exact ht2.1.1
    · intro c c1 c2 c3 c4
      rw [n4 c c1, zUp_away c2, zUp_away c1]
    · intro p hp
      rw [n5 p hp, zUp_away (by decide), zUp_there (by omega)]
