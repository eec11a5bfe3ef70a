/-! LAYER 3: single changes, the class -/
theorem sH_ok {G : Mm} {t : Tr} {k : Int} (h0 : 0 ≤ k) (h1 : k < tSz t) : ∀ (m : Nat) (j : Int), k < j → j + m ≤ k + tSz (tSub t k) → ∀ x ∈ sH G t k m j, sOk G t x.1 x.2.1 x.2.2
  | 0, j, hj, hm, x, hx => by
    unfold sH at hx
    exact absurd hx (by simp)
  | m + 1, j, hj, hm, x, hx => by
    have ih := sH_ok (G := G) h0 h1 m (j + 1) (by omega) (by omega) x
    unfold sH at hx
    split at hx
    · rcases List.mem_cons.mp hx with e | e
      · subst e
        exact ⟨h0, h1, .inr (.inr ⟨rfl, hj, by show j < k + tSz (tSub t k); omega⟩)⟩
      · exact ih e
    · exact ih hx
theorem sNl_ok {G : Mm} {t : Tr} {k : Int} (h0 : 0 ≤ k) (h1 : k < tSz t) : ∀ x ∈ sNl G t k, sOk G t x.1 x.2.1 x.2.2 := by
  intro x hx
  have p := tSz_pos (tSub t k)
  unfold sNl at hx
  rcases List.mem_append.mp hx with h | h
  · split at h
    · have e := List.mem_singleton.mp h
      subst e
      exact ⟨h0, h1, .inr (.inl ⟨rfl, by assumption⟩)⟩
    · exact absurd h (by simp)
  · exact sH_ok h0 h1 _ _ (by omega) (by omega) x h
theorem sN_ok {G : Mm} {t : Tr} {k : Int} (h0 : 0 ≤ k) (h1 : k < tSz t) : ∀ x ∈ sN G t k, sOk G t x.1 x.2.1 x.2.2 := by
  intro x hx
  unfold sN at hx
  rcases List.mem_append.mp hx with h | h
  · split at h
    · have e := List.mem_singleton.mp h
      subst e
      exact ⟨h0, h1, .inl ⟨rfl, by assumption⟩⟩
    · exact absurd h (by simp)
  · exact sNl_ok h0 h1 x h
theorem sL_ok {G : Mm} {t : Tr} : ∀ (m : Nat) (k : Int), 0 ≤ k → k + m ≤ tSz t → ∀ x ∈ sL G t m k, sOk G t x.1 x.2.1 x.2.2
  | 0, k, h0, h1, x, hx => by
    unfold sL at hx
    exact absurd hx (by simp)
  | m + 1, k, h0, h1, x, hx => by
    unfold sL at hx
    rcases List.mem_append.mp hx with h | h
    · exact sN_ok h0 (by omega) x h
    · exact sL_ok m (k + 1) (by omega) (by omega) x h
def sRe (G : Mm) (t : Tr) (n : Int) : List Sg := sL G t (tSz t - n - 1).toNat (n + 1)
def sRep (G M : Mm) (t : Tr) (L : List Sg) : Prop := (0 ≤ M 149 1 ∧ M 149 1 ≤ tSz t) ∧
  ((M 149 2 = -1 ∧ M 149 3 = M 149 1 ∧ L = sL G t (tSz t - M 149 1).toNat (M 149 1))
  ∨ (M 149 1 < tSz t ∧ M 149 2 = 0 ∧ M 149 3 = M 149 1 ∧ L = sNl G t (M 149 1) ++ sRe G t (M 149 1))
  ∨ (M 149 1 < tSz t ∧ (M 149 2 = 1 ∨ M 149 2 = 2) ∧ M 149 1 ≤ M 149 3 ∧ M 149 3 < M 149 1 + tSz (tSub t (M 149 1)) ∧ L = sH G t (M 149 1) (M 149 1 + tSz (tSub t (M 149 1)) - 1 - M 149 3).toNat (M 149 3 + 1) ++ sRe G t (M 149 1)))
def sPost (G : Mm) (t : Tr) (K : Kt) (M : Mm) : List Sg → Prop
  | [] => ∀ M', (∀ c, c ≠ 149 → M' c = M c) → K 0 M'
  | (k, c, j) :: L => ∀ M', (∀ c, c ≠ 149 → M' c = M c) → M' 149 1 = k → M' 149 2 = c → (c = 2 → M' 149 3 = j) → sRep G M' t L → K 1 M'
theorem sPost_fr {G : Mm} {t : Tr} {K : Kt} {M M1 : Mm} {L : List Sg} (h : sPost G t K M L) (f : ∀ c, c ≠ 149 → M1 c = M c) : sPost G t K M1 L := by
  match L, h with
  | [], h => exact fun M' g => h M' (fun c hc => by rw [g c hc, f c hc])
  | (k, c, j) :: L, h => exact fun M' g => h M' (fun c hc => by rw [g c hc, f c hc])
theorem x_st86 {d : Nat} {G : Mm} {K : Kt} {t : Tr} {n : Int} (hg : gOk G) (hv : tVal (G 4 0) t) (h0 : 0 ≤ n) (h1 : n < tSz t) : ∀ (m : Nat) (M : Mm), xG G M → xTr M 38 t → M 149 1 = n → M 149 2 = 2 → n < M 149 3 → M 149 3 + m = n + tSz (tSub t n) → sPost G t K M (sH G t n m (M 149 3) ++ sRe G t n) →
    (∀ M', (∀ c, c ≠ 149 → M' c = M c) → M' 149 1 = n + 1 → M' 149 2 = -1 → M' 149 3 = n + 1 → sPost G t K M' (sRe G t n) → zWp (zSp (d + 3)) 60 K 0 [some (.inr (.inr 149))] [] M') →
    zWp (zSp (d + 3)) 60 K 86 [some (.inr (.inr 149))] [] M
  | 0, M, hx, ht, e1, e2, hj, hm, hP, hnx => by
    have t5 := ht.2.1
    have pb := tPl_b h0 h1
    have ez : M 44 n = tSz (tSub t n) := (xTr_at ht h0 h1).2.2.2.2.2
    rw [fe_60_86, e1, ez]
    (repeat (first | (with_reducible refine zC_i ?hob ?_; case hob => first | assumption | decide | exact zr (by omega) (by omega) | exact zs (by omega) (by omega) | exact zd (by omega) (by omega)) | (with_reducible refine zIfT ?hob ?_; case hob => first | assumption | omega | decide) | (with_reducible refine zIfF ?hob ?_; case hob => first | assumption | omega | decide)))
    rw [me_59]
    exact hnx _ (fun c hc => by rw [zUp_away hc, zUp_away hc, zUp_away hc]) (by rw [zUp_there (by decide), zUp_there (by decide), zUp_here]) (by rw [zUp_there (by decide), zUp_here]) (by rw [zUp_here]) (sPost_fr hP (fun c hc => by rw [zUp_away hc, zUp_away hc, zUp_away hc]))
  | m + 1, M, hx, ht, e1, e2, hj, hm, hP, hnx => by
    have t5 := ht.2.1
    have pb := tPl_b h0 h1
    have xb38 : xT 38 := by unfold xT; decide
    have ez : M 44 n = tSz (tSub t n) := (xTr_at ht h0 h1).2.2.2.2.2
    have gs1 := gLn_s hg.1 hv n
    have gs2 := gLn_s hg.1 hv (M 149 3)
    have gb := hg.1.1
    rw [fe_60_86, e1, ez]
    (repeat (first | (with_reducible refine zC_i ?hob ?_; case hob => first | assumption | decide | exact zr (by omega) (by omega) | exact zs (by omega) (by omega) | exact zd (by omega) (by omega)) | (with_reducible refine zIfT ?hob ?_; case hob => first | assumption | omega | decide) | (with_reducible refine zIfF ?hob ?_; case hob => first | assumption | omega | decide)))
    refine x_sortAt xb38 hg.1 hx ht hv (by omega) (by omega) ?_
    rw [e1]
    refine x_sortAt xb38 hg.1 hx ht hv (by omega) (by omega) ?_
    (repeat (first | (with_reducible refine zC_i ?hob ?_; case hob => first | assumption | decide | exact zr (by omega) (by omega) | exact zs (by omega) (by omega) | exact zd (by omega) (by omega)) | (with_reducible refine zIfT ?hob ?_; case hob => first | assumption | omega | decide) | (with_reducible refine zIfF ?hob ?_; case hob => first | assumption | omega | decide)))
    refine ⟨fun c => ?_, fun c => ?_⟩
    · have e : sH G t n (m + 1) (M 149 3) = sH G t n m (M 149 3 + 1) := if_neg c
      rw [e] at hP
      refine x_st86 hg hv h0 h1 m _ (xG_fr hx fun c c1 c2 => zUp_away (by omega)) (xTr_fr ht fun c c1 c2 => zUp_away (by omega)) (by rw [zUp_there (by decide)]; exact e1) (by rw [zUp_there (by decide)]; exact e2) (by rw [zUp_here]; omega) (by rw [zUp_here]; omega) (by rw [zUp_here]; exact sPost_fr hP fun c hc => zUp_away hc) ?_
      intro M' f1 f2 f3 f4
      exact hnx M' (fun c hc => by rw [f1 c hc, zUp_away hc]) f2 f3 f4
    · have e : sH G t n (m + 1) (M 149 3) = (n, 2, M 149 3) :: sH G t n m (M 149 3 + 1) := if_pos (by omega)
      rw [e] at hP
      refine hP M (fun _ _ => rfl) e1 e2 (fun _ => rfl) ⟨by omega, .inr (.inr ⟨by omega, .inr e2, by omega, by rw [e1]; omega, ?_⟩)⟩
      rw [e1, show (n + tSz (tSub t n) - 1 - M 149 3).toNat = m by omega]
      rfl
theorem x_st0 {d : Nat} {G : Mm} {K : Kt} {t : Tr} (hg : gOk G) (hv : tVal (G 4 0) t) : ∀ (q : Nat) (M : Mm) (n : Int), n + q = tSz t → 0 ≤ n → xG G M → xTr M 38 t → M 149 1 = n → M 149 2 = -1 → M 149 3 = n → sPost G t K M (sL G t q n) → zWp (zSp (d + 3)) 60 K 0 [some (.inr (.inr 149))] [] M
  | 0, M, n, hq, h0, hx, ht, e1, e2, e3, hP => by
    have t1 : M 38 1 = tSz t := ht.1.1
    have t5 := ht.2.1
    rw [fe_60_0, e1, t1]
    (repeat (first | (with_reducible refine zC_i ?hob ?_; case hob => first | assumption | decide | exact zr (by omega) (by omega) | exact zs (by omega) (by omega) | exact zd (by omega) (by omega)) | (with_reducible refine zIfT ?hob ?_; case hob => first | assumption | omega | decide) | (with_reducible refine zIfF ?hob ?_; case hob => first | assumption | omega | decide)))
    exact hP M (fun _ _ => rfl)
  | q + 1, M, n, hq, h0, hx, ht, e1, e2, e3, hP => by
    have t1 : M 38 1 = tSz t := ht.1.1
    have t5 := ht.2.1
    have xb38 : xT 38 := by unfold xT; decide
    have pb := tPl_b (t := t) h0 (by omega)
    have eR : sRe G t n = sL G t q (n + 1) := by unfold sRe; rw [show (tSz t - n - 1).toNat = q by omega]
    have hP : sPost G t K M (sN G t n ++ sL G t q (n + 1)) := hP
    have h71 : ∀ M1, (∀ c, c ≠ 149 → M1 c = M c) → M1 149 1 = n → M1 149 3 = n → sPost G t K M1 (sH G t n (tSz (tSub t n) - 1).toNat (n + 1) ++ sL G t q (n + 1)) → zWp (zSp (d + 3)) 60 K 71 [some (.inr (.inr 149))] [] M1 := by
      intro M1 f1 f2 f3 hP1
      rw [fe_60_71]
      have g : ∀ c, c ≠ 149 → (zUp (zUp M1 149 2 2) 149 3 (M1 149 3 + 1)) c = M c := fun c hc => by rw [zUp_away hc, zUp_away hc, f1 c hc]
      refine x_st86 hg hv h0 (by omega) (tSz (tSub t n) - 1).toNat _ (xG_fr hx fun c c1 c2 => g c (by omega)) (xTr_fr ht fun c c1 c2 => g c (by omega)) (by rw [zUp_there (by decide), zUp_there (by decide)]; exact f2) (by rw [zUp_there (by decide), zUp_here]) (by rw [zUp_here]; omega) (by rw [zUp_here]; omega) ?_ ?_
      · rw [zUp_here, f3, eR]
        exact sPost_fr hP1 fun c hc => by rw [zUp_away hc, zUp_away hc]
      · intro M' k1 k2 k3 k4 hP2
        rw [eR] at hP2
        exact x_st0 hg hv q M' (n + 1) (by omega) (by omega) (xG_fr hx fun c c1 c2 => by rw [k1 c (by omega), g c (by omega)]) (xTr_fr ht fun c c1 c2 => by rw [k1 c (by omega), g c (by omega)]) k2 k3 k4 hP2
    rw [fe_60_0, e1, t1]
    (repeat (first | (with_reducible refine zC_i ?hob ?_; case hob => first | assumption | decide | exact zr (by omega) (by omega) | exact zs (by omega) (by omega) | exact zd (by omega) (by omega)) | (with_reducible refine zIfT ?hob ?_; case hob => first | assumption | omega | decide) | (with_reducible refine zIfF ?hob ?_; case hob => first | assumption | omega | decide)))
    refine x_canCut xb38 hg.1 (xG_fr hx fun c c1 c2 => zUp_away (by omega)) (xTr_fr ht fun c c1 c2 => zUp_away (by omega)) hv h0 (by omega) ?_
    by_cases hst : tStar G t n
    · have eN : sN G t n = (n, 0, -1) :: sNl G t n := by unfold sN; rw [if_pos hst]; rfl
      rw [eN] at hP
      rw [fl_t hst]
      (repeat (first | (with_reducible refine zC_i ?hob ?_; case hob => first | assumption | decide | exact zr (by omega) (by omega) | exact zs (by omega) (by omega) | exact zd (by omega) (by omega)) | (with_reducible refine zIfT ?hob ?_; case hob => first | assumption | omega | decide) | (with_reducible refine zIfF ?hob ?_; case hob => first | assumption | omega | decide)))
      refine hP _ (fun c hc => zUp_away hc) (by rw [zUp_there (by decide)]; exact e1) (by rw [zUp_here]) (fun c => absurd c (by decide)) ⟨by rw [zUp_there (by decide)]; omega, .inr (.inl ⟨by rw [zUp_there (by decide)]; omega, by rw [zUp_here], by rw [zUp_there (by decide), zUp_there (by decide)]; omega, ?_⟩)⟩
      rw [zUp_there (by decide), e1, eR]
      rfl
    · have eN : sN G t n = sNl G t n := by unfold sN; rw [if_neg hst]; rfl
      rw [eN] at hP
      rw [fl_f hst]
      (repeat (first | (with_reducible refine zC_i ?hob ?_; case hob => first | assumption | decide | exact zr (by omega) (by omega) | exact zs (by omega) (by omega) | exact zd (by omega) (by omega)) | (with_reducible refine zIfT ?hob ?_; case hob => first | assumption | omega | decide) | (with_reducible refine zIfF ?hob ?_; case hob => first | assumption | omega | decide)))
      rw [fe_60_42, zUp_here, zUp_there (by decide), e1]
      (repeat (first | (with_reducible refine zC_i ?hob ?_; case hob => first | assumption | decide | exact zr (by omega) (by omega) | exact zs (by omega) (by omega) | exact zd (by omega) (by omega)) | (with_reducible refine zIfT ?hob ?_; case hob => first | assumption | omega | decide) | (with_reducible refine zIfF ?hob ?_; case hob => first | assumption | omega | decide)))
      refine x_canBeLeast xb38 hg (xG_fr hx fun c c1 c2 => by rw [zUp_away (by omega), zUp_away (by omega)]) (xTr_fr ht fun c c1 c2 => by rw [zUp_away (by omega), zUp_away (by omega)]) hv h0 (by omega) ?_
      by_cases hl : tLst G t n
      · have eN : sNl G t n = (n, 1, -1) :: sH G t n (tSz (tSub t n) - 1).toNat (n + 1) := by unfold sNl; rw [if_pos hl]; rfl
        rw [eN] at hP
        rw [fl_t hl]
        (repeat (first | (with_reducible refine zC_i ?hob ?_; case hob => first | assumption | decide | exact zr (by omega) (by omega) | exact zs (by omega) (by omega) | exact zd (by omega) (by omega)) | (with_reducible refine zIfT ?hob ?_; case hob => first | assumption | omega | decide) | (with_reducible refine zIfF ?hob ?_; case hob => first | assumption | omega | decide)))
        refine hP _ (fun c hc => by rw [zUp_away hc, zUp_away hc]) (by rw [zUp_there (by decide), zUp_there (by decide)]; exact e1) (by rw [zUp_here]) (fun c => absurd c (by decide)) ⟨by rw [zUp_there (by decide), zUp_there (by decide)]; omega, .inr (.inr ⟨by rw [zUp_there (by decide), zUp_there (by decide)]; omega, .inl (by rw [zUp_here]), by rw [zUp_there (by decide), zUp_there (by decide), zUp_there (by decide), zUp_there (by decide)]; omega, by rw [zUp_there (by decide), zUp_there (by decide), zUp_there (by decide), zUp_there (by decide), e1]; omega, ?_⟩)⟩
        rw [zUp_there (by decide), zUp_there (by decide), zUp_there (by decide), zUp_there (by decide), e1, e3, eR, show n + tSz (tSub t n) - 1 - n = tSz (tSub t n) - 1 by omega]
        rfl
      · have eN : sNl G t n = sH G t n (tSz (tSub t n) - 1).toNat (n + 1) := by unfold sNl; rw [if_neg hl]; rfl
        rw [eN] at hP
        rw [fl_f hl]
        (repeat (first | (with_reducible refine zC_i ?hob ?_; case hob => first | assumption | decide | exact zr (by omega) (by omega) | exact zs (by omega) (by omega) | exact zd (by omega) (by omega)) | (with_reducible refine zIfT ?hob ?_; case hob => first | assumption | omega | decide) | (with_reducible refine zIfF ?hob ?_; case hob => first | assumption | omega | decide)))
        exact h71 _ (fun c hc => by rw [zUp_away hc, zUp_away hc]) (by rw [zUp_there (by decide), zUp_there (by decide)]; exact e1) (by rw [zUp_there (by decide), zUp_there (by decide)]; exact e3) (sPost_fr hP fun c hc => by rw [zUp_away hc, zUp_away hc])
theorem x_step {d : Nat} {M G : Mm} {K : Kt} {t : Tr} {L : List Sg} (hg : gOk G) (hx : xG G M) (ht : xTr M 38 t) (hv : tVal (G 4 0) t) (hs : sRep G M t L) (hP : sPost G t K M L) : zSp (d + 4) 60 [.inr (.inr 149)] M K := by
  have t1 : M 38 1 = tSz t := ht.1.1
  have t5 := ht.2.1
  have xb38 : xT 38 := by unfold xT; decide
  rw [me_60]
  obtain ⟨hb, hs | hs | hs⟩ := hs
  · obtain ⟨s1, s2, s3⟩ := hs
    subst s3
    exact x_st0 hg hv _ M (M 149 1) (by omega) (by omega) hx ht rfl s1 s2 hP
  · -- behind a cut
    obtain ⟨s0, s1, s2, s3⟩ := hs
    subst s3
    have pb := tPl_b (t := t) hb.1 s0
    rw [fe_60_0, t1, s1]
    (repeat (first | (with_reducible refine zC_i ?hob ?_; case hob => first | assumption | decide | exact zr (by omega) (by omega) | exact zs (by omega) (by omega) | exact zd (by omega) (by omega)) | (with_reducible refine zIfT ?hob ?_; case hob => first | assumption | omega | decide) | (with_reducible refine zIfF ?hob ?_; case hob => first | assumption | omega | decide)))
    rw [fe_60_42, s1]
    (repeat (first | (with_reducible refine zC_i ?hob ?_; case hob => first | assumption | decide | exact zr (by omega) (by omega) | exact zs (by omega) (by omega) | exact zd (by omega) (by omega)) | (with_reducible refine zIfT ?hob ?_; case hob => first | assumption | omega | decide) | (with_reducible refine zIfF ?hob ?_; case hob => first | assumption | omega | decide)))
    refine x_canBeLeast xb38 hg (xG_fr hx fun c c1 c2 => zUp_away (by omega)) (xTr_fr ht fun c c1 c2 => zUp_away (by omega)) hv hb.1 s0 ?_
    by_cases hl : tLst G t (M 149 1)
    · have eN : sNl G t (M 149 1) = (M 149 1, 1, -1) :: sH G t (M 149 1) (tSz (tSub t (M 149 1)) - 1).toNat (M 149 1 + 1) := by unfold sNl; rw [if_pos hl]; rfl
      rw [eN] at hP
      rw [fl_t hl]
      (repeat (first | (with_reducible refine zC_i ?hob ?_; case hob => first | assumption | decide | exact zr (by omega) (by omega) | exact zs (by omega) (by omega) | exact zd (by omega) (by omega)) | (with_reducible refine zIfT ?hob ?_; case hob => first | assumption | omega | decide) | (with_reducible refine zIfF ?hob ?_; case hob => first | assumption | omega | decide)))
      refine hP _ (fun c hc => zUp_away hc) (by rw [zUp_there (by decide)]) (by rw [zUp_here]) (fun c => absurd c (by decide)) ⟨by rw [zUp_there (by decide)]; omega, .inr (.inr ⟨by rw [zUp_there (by decide)]; omega, .inl (by rw [zUp_here]), by rw [zUp_there (by decide), zUp_there (by decide)]; omega, by rw [zUp_there (by decide), zUp_there (by decide)]; omega, ?_⟩)⟩
      rw [zUp_there (by decide), zUp_there (by decide), s2, show M 149 1 + tSz (tSub t (M 149 1)) - 1 - M 149 1 = tSz (tSub t (M 149 1)) - 1 by omega]
      rfl
    · have eN : sNl G t (M 149 1) = sH G t (M 149 1) (tSz (tSub t (M 149 1)) - 1).toNat (M 149 1 + 1) := by unfold sNl; rw [if_neg hl]; rfl
      rw [eN] at hP
      rw [fl_f hl]
      (repeat (first | (with_reducible refine zC_i ?hob ?_; case hob => first | assumption | decide | exact zr (by omega) (by omega) | exact zs (by omega) (by omega) | exact zd (by omega) (by omega)) | (with_reducible refine zIfT ?hob ?_; case hob => first | assumption | omega | decide) | (with_reducible refine zIfF ?hob ?_; case hob => first | assumption | omega | decide)))
      rw [fe_60_71]
      have g : ∀ c, c ≠ 149 → (zUp (zUp (zUp M 149 2 1) 149 2 2) 149 3 (zUp M 149 2 1 149 3 + 1)) c = M c := fun c hc => by rw [zUp_away hc, zUp_away hc, zUp_away hc]
      have e3 : zUp M 149 2 1 149 3 = M 149 3 := zUp_there (by decide)
      refine x_st86 hg hv hb.1 s0 (tSz (tSub t (M 149 1)) - 1).toNat _ (xG_fr hx fun c c1 c2 => g c (by omega)) (xTr_fr ht fun c c1 c2 => g c (by omega)) (by rw [zUp_there (by decide), zUp_there (by decide), zUp_there (by decide)]) (by rw [zUp_there (by decide), zUp_here]) (by rw [zUp_here, e3]; omega) (by rw [zUp_here, e3]; omega) ?_ ?_
      · rw [zUp_here, e3, s2]
        exact sPost_fr hP (fun c hc => by rw [zUp_away hc, zUp_away hc, zUp_away hc])
      · intro M' k1 k2 k3 k4 hP2
        exact x_st0 hg hv _ M' (M 149 1 + 1) (by omega) (by omega) (xG_fr hx fun c c1 c2 => by rw [k1 c (by omega), g c (by omega)]) (xTr_fr ht fun c c1 c2 => by rw [k1 c (by omega), g c (by omega)]) k2 k3 k4 hP2
  · obtain ⟨s0, s1, s2, s3, s4⟩ := hs
    subst s4
    have pb := tPl_b (t := t) hb.1 s0
    rw [fe_60_0, t1]
    (repeat (first | (with_reducible refine zC_i ?hob ?_; case hob => first | assumption | decide | exact zr (by omega) (by omega) | exact zs (by omega) (by omega) | exact zd (by omega) (by omega)) | (with_reducible refine zIfT ?hob ?_; case hob => first | assumption | omega | decide) | (with_reducible refine zIfF ?hob ?_; case hob => first | assumption | omega | decide)))
    rw [fe_60_42]
    (repeat (first | (with_reducible refine zC_i ?hob ?_; case hob => first | assumption | decide | exact zr (by omega) (by omega) | exact zs (by omega) (by omega) | exact zd (by omega) (by omega)) | (with_reducible refine zIfT ?hob ?_; case hob => first | assumption | omega | decide) | (with_reducible refine zIfF ?hob ?_; case hob => first | assumption | omega | decide)))
    rw [fe_60_71]
    have g : ∀ c, c ≠ 149 → (zUp (zUp M 149 2 2) 149 3 (M 149 3 + 1)) c = M c := fun c hc => by rw [zUp_away hc, zUp_away hc]
    refine x_st86 hg hv hb.1 s0 (M 149 1 + tSz (tSub t (M 149 1)) - 1 - M 149 3).toNat _ (xG_fr hx fun c c1 c2 => g c (by omega)) (xTr_fr ht fun c c1 c2 => g c (by omega)) (by rw [zUp_there (by decide), zUp_there (by decide)]) (by rw [zUp_there (by decide), zUp_here]) (by rw [zUp_here]; omega) (by rw [zUp_here]; omega) ?_ ?_
    · rw [zUp_here]
      exact sPost_fr hP g
    · intro M' k1 k2 k3 k4 hP2
      exact x_st0 hg hv _ M' (M 149 1 + 1) (by omega) (by omega) (xG_fr hx fun c c1 c2 => by rw [k1 c (by omega), g c (by omega)]) (xTr_fr ht fun c c1 c2 => by rw [k1 c (by omega), g c (by omega)]) k2 k3 k4 hP2
theorem x_sstart {d : Nat} {M G : Mm} {K : Kt} {t : Tr} (hK : ∀ M', (∀ c, c ≠ 149 → M' c = M c) → sRep G M' t (sAll G t) → M' 149 1 = 0 → K 0 M') : zSp (d + 2) 58 [.inr (.inr 149)] M K := by
  have q := tSz_pos t
  rw [me_58, me_59]
  refine hK _ (fun c hc => by rw [zUp_away hc, zUp_away hc, zUp_away hc]) ⟨by rw [zUp_there (by decide), zUp_there (by decide), zUp_here]; omega, .inl ⟨by rw [zUp_there (by decide), zUp_here], by rw [zUp_here, zUp_there (by decide), zUp_there (by decide), zUp_here], ?_⟩⟩ (by rw [zUp_there (by decide), zUp_there (by decide), zUp_here])
  rw [zUp_there (by decide), zUp_there (by decide), zUp_here, Int.sub_zero]
  rfl
theorem sL_len {G : Mm} {t : Tr} : ∀ (m : Nat) (k : Int), 0 ≤ k → k + m ≤ tSz t → ((sL G t m k).length : Int) ≤ (tSz t + 1) * m
  | 0, k, h0, h1 => by
    show (0 : Int) ≤ _
    omega
  | m + 1, k, h0, h1 => by
    have ih := sL_len (G := G) (t := t) m (k + 1) (by omega) (by omega)
    have pb := tPl_b (t := t) h0 (by omega)
    have lN := sN_len (G := G) (t := t) (k := k)
    unfold sL
    rw [List.length_append, show (tSz t + 1) * ((m + 1 : Nat) : Int) = (tSz t + 1) * m + (tSz t + 1) by rw [Int.natCast_add, Int.mul_add]; omega]
    omega
theorem sAll_len {G : Mm} {t : Tr} (hz : tSz t ≤ 80) : (sAll G t).length ≤ 6480 := by
  have q := tSz_pos t
  have h := sL_len (G := G) (t := t) (tSz t).toNat 0 (by omega) (by omega)
  have h2 : (tSz t + 1) * ((tSz t).toNat : Int) ≤ 81 * 80 := Int.mul_le_mul (by omega) (by omega) (by omega) (by omega)
  unfold sAll
  omega
