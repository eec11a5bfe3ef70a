/-! LAYER 3: reducing: the class -/
def xRS (G : Mm) (B : List Bg) (vs bug : Int) (M : Mm) (S : Rs) : Prop := xG G M ∧ xBg M B ∧ xTr M 38 S.1 ∧ xJ M S.2.1 ∧ M 147 3 = vs ∧ M 150 3 = bug ∧ M 150 4 = S.2.2
def xFr (M M' : Mm) : Prop := ∀ c, (c < 38 ∨ (54 ≤ c ∧ c < 138) ∨ c = 149 ∨ 154 ≤ c) → M' c = M c
theorem xFr_refl {M : Mm} : xFr M M := fun _ _ => rfl
theorem xFr_trans {M M' M'' : Mm} (h : xFr M M') (h' : xFr M' M'') : xFr M M'' := fun c hc => by rw [h' c hc, h c hc]
theorem xJ_fr {M M' : Mm} {J : Js} (h : xJ M J) (f : ∀ c, 138 ≤ c → c ≤ 147 → M' c = M c) : xJ M' J := by
  obtain ⟨h1, h2, h3, h4, h5⟩ := h
  have e := f 147 (by decide) (by decide)
  exact ⟨xTd_fr h1 (fun c c1 c2 => f c (by omega) (by omega)) (by rw [f 138 (by decide) (by decide)]), by rw [e]; exact h2, by rw [e]; exact h3, by rw [e]; exact h4, by rw [e]; exact h5⟩
theorem x_isTaken {d : Nat} {M G : Mm} {K : Kt} {B : List Bg} {vs bug why wh : Int} {S : Rs} {t' : Tr} (hB : bCx (G 4 0) B) (hvs : 0 ≤ vs ∧ vs ≤ 9) (hb : 0 ≤ bug ∧ bug < 6) (h : xRS G B vs bug M S) (ho : rsOk G B S) (ht' : xTr M 46 t') (hv' : tVal (G 4 0) t')
    (hK : ∀ M', xRS G B vs bug M' (rTk B vs bug S t' why wh).2 → xFr M M' → (∀ c, 151 ≤ c → c ≤ 153 → M' c = M c) → M' 150 6 = M 150 6 → ((rTk B vs bug S t' why wh).1 = 0 ∨ (rTk B vs bug S t' why wh).1 = 1) → K (rTk B vs bug S t' why wh).1 M') : zSp (d + 5) 52 [.inr (.inr 150), .inl why, .inl wh] M K := by
  obtain ⟨hx, hxB, ht, hJ, hv, h3, h4⟩ := h
  have xb46 : xT 46 := by unfold xT; decide
  have xb38 : xT 38 := by unfold xT; decide
  have hB6 := hB.1
  have ja := jAsk_ok (vs := vs) (t := t') (why := why) (wh := wh) ho.2.2 ht'.2.1 hv'
  rw [me_52]
  refine x_ask xb46 hB hxB ht' hv' hJ ho.2.2 hv hvs ?_
  intro M1 f1 f2 f3
  have e150 : M1 150 = M 150 := f2 150 (by decide)
  have hx1 : xG G M1 := xG_fr hx fun c c1 c2 => f2 c (by omega)
  have hxB1 : xBg M1 B := xBg_fr hxB fun c c1 c2 => f2 c (by omega)
  rw [e150, h3]
  unfold rTk at hK
  (repeat (first | (with_reducible refine zC_i ?hob ?_; case hob => first | assumption | decide | exact zr (by omega) (by omega) | exact zs (by omega) (by omega) | exact zd (by omega) (by omega)) | (with_reducible refine zIfT ?hob ?_; case hob => first | assumption | omega | decide) | (with_reducible refine zIfF ?hob ?_; case hob => first | assumption | omega | decide)))
  refine ⟨fun c => ?_, fun c => ?_⟩
  · rw [if_pos c] at hK
    have ht1 : xTo M1 46 (some t') := xTr_fr ht' fun c c1 c2 => f2 c (by omega)
    refine x_copyFrom xb38 xb46 (by decide) ht1 ?_
    intro M2 g1 g2
    have e150' : M2 150 = M 150 := by rw [g2 150 (by omega), e150]
    rw [e150', h4]
    refine hK _ ⟨xG_fr hx1 fun c c1 c2 => by rw [zUp_away (by omega), g2 c (by omega)], xBg_fr hxB1 fun c c1 c2 => by rw [zUp_away (by omega), g2 c (by omega)], xTr_fr g1 fun c c1 c2 => zUp_away (by omega), xJ_fr f1 fun c c1 c2 => by rw [zUp_away (by omega), g2 c (by omega)], ?_, ?_, ?_⟩ ?_ ?_ ?_ (.inr rfl)
    · rw [zUp_away (by decide), g2 147 (by omega)]; exact f3
    · rw [zUp_there (by decide), e150']; exact h3
    · rw [zUp_here]
    · intro c hc
      rw [zUp_away (by omega), g2 c (by omega), f2 c (by omega)]
    · intro c c1 c2
      rw [zUp_away (by omega), g2 c (by omega), f2 c (by omega)]
    · rw [zUp_there (by decide), e150']
  · rw [if_neg c] at hK
    refine hK M1 ⟨hx1, hxB1, xTr_fr ht fun c c1 c2 => f2 c (by omega), f1, f3, by rw [e150]; exact h3, by rw [e150]; exact h4⟩ (fun c hc => f2 c (by omega)) (fun c c1 c2 => f2 c (by omega)) (by rw [e150]) (.inl rfl)
theorem x_isTakenSingle {d : Nat} {M G : Mm} {K : Kt} {B : List Bg} {vs bug why k c j : Int} {S : Rs} (hg : gOk G) (hB : bCx (G 4 0) B) (hvs : 0 ≤ vs ∧ vs ≤ 9) (hb : 0 ≤ bug ∧ bug < 6) (h : xRS G B vs bug M S) (ho : rsOk G B S) (hs : sOk G S.1 k c j)
    (hK : ∀ M', xRS G B vs bug M' (rTk B vs bug S (sTr G S.1 k c j) why k).2 → xFr M M' → ((rTk B vs bug S (sTr G S.1 k c j) why k).1 = 0 ∨ (rTk B vs bug S (sTr G S.1 k c j) why k).1 = 1) → K (rTk B vs bug S (sTr G S.1 k c j) why k).1 M') : zSp (d + 6) 51 [.inr (.inr 150), .inl c, .inl k, .inl j, .inl why] M K := by
  obtain ⟨hx, hxB, ht, hJ, hv, h3, h4⟩ := h
  rw [me_51]
  refine x_becomeSingle hg hx ht ho.2.1 hs ?_
  intro M1 f1 f2
  have sz := sTr_sz hg ho.2.1 hs
  refine x_isTaken hB hvs hb ⟨xG_fr hx fun c c1 c2 => f2 c (by omega), xBg_fr hxB fun c c1 c2 => f2 c (by omega), xTr_fr ht fun c c1 c2 => f2 c (by omega), xJ_fr hJ fun c c1 c2 => f2 c (by omega), by rw [f2 147 (by omega)]; exact hv, by rw [f2 150 (by omega)]; exact h3, by rw [f2 150 (by omega)]; exact h4⟩ ho f1 sz.2 ?_
  intro M2 g1 g2 g3 g4 g5
  refine zC_i (zBo_iff.mpr g5) (hK M2 g1 (fun c hc => by rw [g2 c hc, f2 c (by omega)]) g5)
theorem x_hoist_l {d : Nat} {G : Mm} {K : Kt} {B : List Bg} {vs bug k : Int} (hg : gOk G) (hB : bCx (G 4 0) B) (hvs : 0 ≤ vs ∧ vs ≤ 9) (hb : 0 ≤ bug ∧ bug < 6) : ∀ (m : Nat) (M : Mm) (S : Rs) (j : Int), xRS G B vs bug M S → rsOk G B S → 0 ≤ k → k < tSz S.1 → k < j → j + m = k + tSz (tSub S.1 k) →
    (∀ M', xRS G B vs bug M' (rHo G B vs bug k m j S).2 → xFr M M' → ((rHo G B vs bug k m j S).1 = 0 ∨ (rHo G B vs bug k m j S).1 = 1) → K (rHo G B vs bug k m j S).1 M') → zWp (zSp (d + 6)) 50 K 4 [some (.inr (.inr 150)), some (.inl k), some (.inl j)] [] M
  | 0, M, S, j, h, ho, h0, h1, hj, hm, hK => by
    have pb := tPl_b h0 h1
    have hz := ho.1
    have ez : M 44 k = tSz (tSub S.1 k) := (xTr_at h.2.2.1 h0 h1).2.2.2.2.2
    rw [fe_50_4, ez]
    (repeat (first | (with_reducible refine zC_i ?hob ?_; case hob => first | assumption | decide | exact zr (by omega) (by omega) | exact zs (by omega) (by omega) | exact zd (by omega) (by omega)) | (with_reducible refine zIfT ?hob ?_; case hob => first | assumption | omega | decide) | (with_reducible refine zIfF ?hob ?_; case hob => first | assumption | omega | decide)))
    exact hK M h xFr_refl (.inl rfl)
  | m + 1, M, S, j, h, ho, h0, h1, hj, hm, hK => by
    have pb := tPl_b h0 h1
    have hz := ho.1
    have xb38 : xT 38 := by unfold xT; decide
    have ez : M 44 k = tSz (tSub S.1 k) := (xTr_at h.2.2.1 h0 h1).2.2.2.2.2
    have gs1 := gLn_s hg.1 ho.2.1 k
    have gs2 := gLn_s hg.1 ho.2.1 j
    have gb := hg.1.1
    unfold rHo at hK
    rw [fe_50_4, ez]
    (repeat (first | (with_reducible refine zC_i ?hob ?_; case hob => first | assumption | decide | exact zr (by omega) (by omega) | exact zs (by omega) (by omega) | exact zd (by omega) (by omega)) | (with_reducible refine zIfT ?hob ?_; case hob => first | assumption | omega | decide) | (with_reducible refine zIfF ?hob ?_; case hob => first | assumption | omega | decide)))
    refine x_sortAt xb38 hg.1 h.1 h.2.2.1 ho.2.1 (by omega) (by omega) ?_
    refine x_sortAt xb38 hg.1 h.1 h.2.2.1 ho.2.1 (by omega) (by omega) ?_
    (repeat (first | (with_reducible refine zC_i ?hob ?_; case hob => first | assumption | decide | exact zr (by omega) (by omega) | exact zs (by omega) (by omega) | exact zd (by omega) (by omega)) | (with_reducible refine zIfT ?hob ?_; case hob => first | assumption | omega | decide) | (with_reducible refine zIfF ?hob ?_; case hob => first | assumption | omega | decide)))
    refine ⟨fun c => ?_, fun c => ?_⟩
    · rw [if_neg c] at hK
      exact x_hoist_l hg hB hvs hb m M S (j + 1) h ho h0 h1 (by omega) (by omega) hK
    · rw [if_pos (by omega)] at hK
      have ok : sOk G S.1 k 2 j := ⟨h0, h1, .inr (.inr ⟨rfl, hj, by omega⟩)⟩
      have st := rStep_tk (vs := vs) (bug := bug) (why := 4) (wh := k) ho (sTr_lt hg ho.2.1 ok) (sTr_sz hg ho.2.1 ok).2
      refine x_isTakenSingle hg hB hvs hb h ho ok ?_
      intro M1 f1 f2 f3
      generalize rTk B vs bug S (sTr G S.1 k 2 j) 4 k = r at *
      (repeat (first | (with_reducible refine zC_i ?hob ?_; case hob => first | assumption | decide | exact zr (by omega) (by omega) | exact zs (by omega) (by omega) | exact zd (by omega) (by omega)) | (with_reducible refine zIfT ?hob ?_; case hob => first | assumption | omega | decide) | (with_reducible refine zIfF ?hob ?_; case hob => first | assumption | omega | decide)))
      refine ⟨fun c2 => ?_, fun c2 => ?_⟩
      · rw [if_neg (by omega)] at hK
        rcases st.2.2 with q | q
        · omega
        · refine x_hoist_l hg hB hvs hb m M1 r.2 (j + 1) f1 st.1 h0 (by rw [q.2.1]; exact h1) (by omega) (by rw [q.2.1]; omega) ?_
          intro M' g1 g2 g3
          exact hK M' g1 (xFr_trans f2 g2) g3
      · rw [if_pos (by omega)] at hK
        have := hK M1 f1 f2 f3
        rw [show r.1 = 1 by omega] at this
        exact this
theorem x_isHoisted {d : Nat} {M G : Mm} {K : Kt} {B : List Bg} {vs bug k : Int} {S : Rs} (hg : gOk G) (hB : bCx (G 4 0) B) (hvs : 0 ≤ vs ∧ vs ≤ 9) (hb : 0 ≤ bug ∧ bug < 6) (h : xRS G B vs bug M S) (ho : rsOk G B S) (h0 : 0 ≤ k) (h1 : k < tSz S.1)
    (hK : ∀ M', xRS G B vs bug M' (rHoist G B vs bug k S).2 → xFr M M' → ((rHoist G B vs bug k S).1 = 0 ∨ (rHoist G B vs bug k S).1 = 1) → K (rHoist G B vs bug k S).1 M') : zSp (d + 7) 50 [.inr (.inr 150), .inl k] M K := by
  have pb := tPl_b h0 h1
  rw [me_50]
  exact x_hoist_l hg hB hvs hb _ M S (k + 1) h ho h0 h1 (by omega) (by omega) hK
theorem x_byHoists_l {d : Nat} {G : Mm} {K : Kt} {B : List Bg} {vs bug : Int} (hg : gOk G) (hB : bCx (G 4 0) B) (hvs : 0 ≤ vs ∧ vs ≤ 9) (hb : 0 ≤ bug ∧ bug < 6) : ∀ (f : Nat) (M : Mm) (S : Rs) (k x2 : Int), x2 + f = 100000 → 0 ≤ x2 → xRS G B vs bug M S → rsOk G B S → 0 ≤ k → k ≤ 100 →
    (∀ M', xRS G B vs bug M' (rNd (rHoist G B vs bug) f k S) → xFr M M' → K 0 M') → zWp (zSp (d + 7)) 48 K 4 [some (.inr (.inr 150)), some (.inl k), some (.inl x2)] [] M
  | 0, M, S, k, x2, hf, hx2, h, ho, h0, hk, hK => by
    rw [fe_48_4]
    (repeat (first | (with_reducible refine zC_i ?hob ?_; case hob => first | assumption | decide | exact zr (by omega) (by omega) | exact zs (by omega) (by omega) | exact zd (by omega) (by omega)) | (with_reducible refine zIfT ?hob ?_; case hob => first | assumption | omega | decide) | (with_reducible refine zIfF ?hob ?_; case hob => first | assumption | omega | decide)))
    exact hK M h xFr_refl
  | f + 1, M, S, k, x2, hf, hx2, h, ho, h0, hk, hK => by
    have hz := ho.1
    have t1 : M 38 1 = tSz S.1 := h.2.2.1.1.1
    have q1 := tSz_pos S.1
    unfold rNd at hK
    rw [fe_48_4, t1]
    (repeat (first | (with_reducible refine zC_i ?hob ?_; case hob => first | assumption | decide | exact zr (by omega) (by omega) | exact zs (by omega) (by omega) | exact zd (by omega) (by omega)) | (with_reducible refine zIfT ?hob ?_; case hob => first | assumption | omega | decide) | (with_reducible refine zIfF ?hob ?_; case hob => first | assumption | omega | decide)))
    refine ⟨fun c => ?_, fun c => ?_⟩
    · rw [if_pos c] at hK
      exact hK M h xFr_refl
    · rw [if_neg c] at hK
      have st := rHoist_ok hg (vs := vs) (bug := bug) ho h0 (by omega)
      refine x_isHoisted hg hB hvs hb h ho h0 (by omega) ?_
      intro M1 f1 f2 f3
      generalize rHoist G B vs bug k S = r at *
      (repeat (first | (with_reducible refine zC_i ?hob ?_; case hob => first | assumption | decide | exact zr (by omega) (by omega) | exact zs (by omega) (by omega) | exact zd (by omega) (by omega)) | (with_reducible refine zIfT ?hob ?_; case hob => first | assumption | omega | decide) | (with_reducible refine zIfF ?hob ?_; case hob => first | assumption | omega | decide)))
      refine ⟨fun c2 => ?_, fun c2 => ?_⟩
      · rw [if_pos (by omega)] at hK
        exact x_byHoists_l hg hB hvs hb f M1 r.2 k (x2 + 1) (by omega) (by omega) f1 st.1 h0 hk (fun M' g1 g2 => hK M' g1 (xFr_trans f2 g2))
      · rw [if_neg (by omega)] at hK
        exact x_byHoists_l hg hB hvs hb f M1 r.2 (k + 1) (x2 + 1) (by omega) (by omega) f1 st.1 (by omega) (by omega) (fun M' g1 g2 => hK M' g1 (xFr_trans f2 g2))
theorem x_byCuts_l {d : Nat} {G : Mm} {K : Kt} {B : List Bg} {vs bug : Int} (hg : gOk G) (hB : bCx (G 4 0) B) (hvs : 0 ≤ vs ∧ vs ≤ 9) (hb : 0 ≤ bug ∧ bug < 6) : ∀ (f : Nat) (M : Mm) (S : Rs) (k x2 : Int) (u3 : Option Vl), x2 + f = 100000 → 0 ≤ x2 → xRS G B vs bug M S → rsOk G B S → 0 ≤ k → k ≤ 100 →
    (∀ M', xRS G B vs bug M' (rNd (rCut G B vs bug) f k S) → xFr M M' → K 0 M') → zWp (zSp (d + 7)) 49 K 4 [some (.inr (.inr 150)), some (.inl k), some (.inl x2), u3] [] M
  | 0, M, S, k, x2, u3, hf, hx2, h, ho, h0, hk, hK => by
    rw [fe_49_4]
    (repeat (first | (with_reducible refine zC_i ?hob ?_; case hob => first | assumption | decide | exact zr (by omega) (by omega) | exact zs (by omega) (by omega) | exact zd (by omega) (by omega)) | (with_reducible refine zIfT ?hob ?_; case hob => first | assumption | omega | decide) | (with_reducible refine zIfF ?hob ?_; case hob => first | assumption | omega | decide)))
    exact hK M h xFr_refl
  | f + 1, M, S, k, x2, u3, hf, hx2, h, ho, h0, hk, hK => by
    have hz := ho.1
    have xb38 : xT 38 := by unfold xT; decide
    have t1 : M 38 1 = tSz S.1 := h.2.2.1.1.1
    have q1 := tSz_pos S.1
    unfold rNd at hK
    rw [fe_49_4, t1]
    (repeat (first | (with_reducible refine zC_i ?hob ?_; case hob => first | assumption | decide | exact zr (by omega) (by omega) | exact zs (by omega) (by omega) | exact zd (by omega) (by omega)) | (with_reducible refine zIfT ?hob ?_; case hob => first | assumption | omega | decide) | (with_reducible refine zIfF ?hob ?_; case hob => first | assumption | omega | decide)))
    refine ⟨fun c => ?_, fun c => ?_⟩
    · rw [if_pos c] at hK
      exact hK M h xFr_refl
    rw [if_neg c] at hK
    have st := rCut_ok hg (vs := vs) (bug := bug) ho h0 (by omega)
    have h81 : ∀ M1 x3, xRS G B vs bug M1 (rCut G B vs bug k S).2 → xFr M M1 → x3 = (rCut G B vs bug k S).1 → (x3 = 0 ∨ x3 = 1) → zWp (zSp (d + 7)) 49 K 81 [some (.inr (.inr 150)), some (.inl k), some (.inl x2), some (.inl x3)] [] M1 := by
      intro M1 x3 f1 f2 f3 f4
      subst f3
      generalize rCut G B vs bug k S = r at *
      rw [fe_49_81]
      (repeat (first | (with_reducible refine zC_i ?hob ?_; case hob => first | assumption | decide | exact zr (by omega) (by omega) | exact zs (by omega) (by omega) | exact zd (by omega) (by omega)) | (with_reducible refine zIfT ?hob ?_; case hob => first | assumption | omega | decide) | (with_reducible refine zIfF ?hob ?_; case hob => first | assumption | omega | decide)))
      refine ⟨fun c2 => ?_, fun c2 => ?_⟩
      · rw [if_pos (by omega)] at hK
        exact x_byCuts_l hg hB hvs hb f M1 r.2 k (x2 + 1) _ (by omega) (by omega) f1 st.1 h0 hk (fun M' g1 g2 => hK M' g1 (xFr_trans f2 g2))
      · rw [if_neg (by omega)] at hK
        exact x_byCuts_l hg hB hvs hb f M1 r.2 (k + 1) (x2 + 1) _ (by omega) (by omega) f1 st.1 (by omega) (by omega) (fun M' g1 g2 => hK M' g1 (xFr_trans f2 g2))
    clear hK
    have h48 : ∀ M1 (S1 : Rs), xRS G B vs bug M1 S1 → rsOk G B S1 → S1.1 = S.1 → xFr M M1 → rCut G B vs bug k S = rCl G B vs bug k S1 → zWp (zSp (d + 7)) 49 K 48 [some (.inr (.inr 150)), some (.inl k), some (.inl x2), u3] [.inl 0] M1 := by
      intro M1 S1 f1 f2 f3 f4 f5
      rw [f5] at h81
      unfold rCl at h81
      rw [fe_49_48]
      (repeat (first | (with_reducible refine zC_i ?hob ?_; case hob => first | assumption | decide | exact zr (by omega) (by omega) | exact zs (by omega) (by omega) | exact zd (by omega) (by omega)) | (with_reducible refine zIfT ?hob ?_; case hob => first | assumption | omega | decide) | (with_reducible refine zIfF ?hob ?_; case hob => first | assumption | omega | decide)))
      refine x_canBeLeast xb38 hg f1.1 f1.2.2.1 f2.2.1 h0 (by rw [f3]; omega) ?_
      by_cases hl : tLst G S1.1 k
      · rw [fl_t hl]
        rw [if_pos hl] at h81
        (repeat (first | (with_reducible refine zC_i ?hob ?_; case hob => first | assumption | decide | exact zr (by omega) (by omega) | exact zs (by omega) (by omega) | exact zd (by omega) (by omega)) | (with_reducible refine zIfT ?hob ?_; case hob => first | assumption | omega | decide) | (with_reducible refine zIfF ?hob ?_; case hob => first | assumption | omega | decide)))
        refine x_isTakenSingle (why := 5) hg hB hvs hb f1 f2 (⟨h0, by rw [f3]; omega, .inr (.inl ⟨rfl, hl⟩)⟩ : sOk G S1.1 k 1 (-1)) ?_
        intro M2 g1 g2 g3
        (repeat (first | (with_reducible refine zC_i ?hob ?_; case hob => first | assumption | decide | exact zr (by omega) (by omega) | exact zs (by omega) (by omega) | exact zd (by omega) (by omega)) | (with_reducible refine zIfT ?hob ?_; case hob => first | assumption | omega | decide) | (with_reducible refine zIfF ?hob ?_; case hob => first | assumption | omega | decide)))
        refine ⟨fun c2 => ?_, fun c2 => ?_⟩
        · rw [fe_49_79, fe_49_80]
          exact h81 M2 0 g1 (xFr_trans f4 g2) (by omega) (.inl rfl)
        · rw [fe_49_80]
          exact h81 M2 1 g1 (xFr_trans f4 g2) (by omega) (.inr rfl)
      · rw [fl_f hl]
        rw [if_neg hl] at h81
        (repeat (first | (with_reducible refine zC_i ?hob ?_; case hob => first | assumption | decide | exact zr (by omega) (by omega) | exact zs (by omega) (by omega) | exact zd (by omega) (by omega)) | (with_reducible refine zIfT ?hob ?_; case hob => first | assumption | omega | decide) | (with_reducible refine zIfF ?hob ?_; case hob => first | assumption | omega | decide)))
        rw [fe_49_79, fe_49_80]
        exact h81 M1 0 f1 f4 rfl (.inl rfl)
    refine x_canCut xb38 hg.1 h.1 h.2.2.1 ho.2.1 h0 (by omega) ?_
    by_cases hst : tStar G S.1 k
    · rw [fl_t hst]
      have eC : rCut G B vs bug k S = if (rTk B vs bug S (sTr G S.1 k 0 (-1)) 5 k).1 = 1 then rTk B vs bug S (sTr G S.1 k 0 (-1)) 5 k else rCl G B vs bug k (rTk B vs bug S (sTr G S.1 k 0 (-1)) 5 k).2 := by
        unfold rCut; rw [if_pos hst]
      have ok : sOk G S.1 k 0 (-1) := ⟨h0, by omega, .inl ⟨rfl, hst⟩⟩
      have st2 := rStep_tk (vs := vs) (bug := bug) (why := 5) (wh := k) ho (sTr_lt hg ho.2.1 ok) (sTr_sz hg ho.2.1 ok).2
      (repeat (first | (with_reducible refine zC_i ?hob ?_; case hob => first | assumption | decide | exact zr (by omega) (by omega) | exact zs (by omega) (by omega) | exact zd (by omega) (by omega)) | (with_reducible refine zIfT ?hob ?_; case hob => first | assumption | omega | decide) | (with_reducible refine zIfF ?hob ?_; case hob => first | assumption | omega | decide)))
      refine x_isTakenSingle (why := 5) hg hB hvs hb h ho ok ?_
      intro M1 f1 f2 f3
      generalize rTk B vs bug S (sTr G S.1 k 0 (-1)) 5 k = r at *
      (repeat (first | (with_reducible refine zC_i ?hob ?_; case hob => first | assumption | decide | exact zr (by omega) (by omega) | exact zs (by omega) (by omega) | exact zd (by omega) (by omega)) | (with_reducible refine zIfT ?hob ?_; case hob => first | assumption | omega | decide) | (with_reducible refine zIfF ?hob ?_; case hob => first | assumption | omega | decide)))
      refine ⟨fun c2 => ?_, fun c2 => ?_⟩
      · rw [fe_49_47]
        rcases st2.2.2 with q | q
        · omega
        · exact h48 M1 r.2 f1 st2.1 q.2.1 f2 (by rw [eC, if_neg (by omega)])
      · rw [if_pos (by omega)] at eC
        rw [eC] at h81
        rw [fe_49_48]
        (repeat (first | (with_reducible refine zC_i ?hob ?_; case hob => first | assumption | decide | exact zr (by omega) (by omega) | exact zs (by omega) (by omega) | exact zd (by omega) (by omega)) | (with_reducible refine zIfT ?hob ?_; case hob => first | assumption | omega | decide) | (with_reducible refine zIfF ?hob ?_; case hob => first | assumption | omega | decide)))
        exact h81 M1 1 f1 f2 (by omega) (.inr rfl)
    · rw [fl_f hst]
      (repeat (first | (with_reducible refine zC_i ?hob ?_; case hob => first | assumption | decide | exact zr (by omega) (by omega) | exact zs (by omega) (by omega) | exact zd (by omega) (by omega)) | (with_reducible refine zIfT ?hob ?_; case hob => first | assumption | omega | decide) | (with_reducible refine zIfF ?hob ?_; case hob => first | assumption | omega | decide)))
      rw [fe_49_47]
      exact h48 M S h ho rfl xFr_refl (by unfold rCut; rw [if_neg hst])
