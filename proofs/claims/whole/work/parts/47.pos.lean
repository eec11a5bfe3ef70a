/-! LAYER 3: where nodes of a changed tree stand -/
theorem bVis_f {mk : Int → Int} {f s : Tr} {i k : Int} (hk : k < i + tSz f) (h : bVis mk (.op f s) i k) : bVis mk f i k := by
  have h : (if k < i + tSz f then bVis mk f i k else _) := h
  rwa [if_pos hk] at h
theorem bVis_s {mk : Int → Int} {f s : Tr} {i k : Int} (hk : i + tSz f < k) (h : bVis mk (.op f s) i k) : mk (i + tSz f) = -1 ∧ bVis mk s (i + tSz f) k := by
  have h : (if k < i + tSz f then _ else (k = i + tSz f ∨ (mk (i + tSz f) = -1 ∧ bVis mk s (i + tSz f) k))) := h
  rw [if_neg (by omega)] at h
  rcases h with h | h
  · omega
  · exact h
theorem bPos_f {G : Mm} {mk : Int → Int} {H f s : Tr} {i k : Int} (hk : k < i + tSz f) : bPos G mk H (.op f s) i k = bPos G mk H f i k := if_pos hk
theorem bPos_s {G : Mm} {mk : Int → Int} {H f s : Tr} {i k : Int} (hk : i + tSz f ≤ k) : bPos G mk H (.op f s) i k = tSz (bR G mk H f i) + bPos G mk H s (i + tSz f) k := if_neg (by omega)
/-- parts that must be there are not cut -/
theorem bKd {G : Mm} {mk : Int → Int} {H : Tr} {need : Int} : ∀ (t : Tr) (i l : Int), tKids (fun k _ _ q _ => mk k = 0 → need ≤ q) t i l → (need ≤ tKd t → need ≤ tKd (bR G mk H t i)) ∧ (tKd t ≤ need → tKd (bR G mk H t i) = tKd t)
  | .var n, i, l, h => ⟨fun h => h, fun _ => rfl⟩
  | .op f s, i, l, h => by
    have ih := bKd (G := G) (H := H) f i l h.1
    have hs : mk (i + tSz f) = 0 → need ≤ tKd f := h.2
    by_cases c : mk (i + tSz f) = 0
    · have := hs c
      rw [bR_0 c]
      refine ⟨fun _ => ih.1 this, fun q => ?_⟩
      have q : tKd f + 1 ≤ need := q
      omega
    · have e : tKd (bR G mk H (.op f s) i) = tKd (bR G mk H f i) + 1 := by
        show tKd (if mk (i + tSz f) = 0 then _ else if mk (i + tSz f) = 1 then _ else if mk (i + tSz f) = 2 then _ else _) = _
        rw [if_neg c]
        split
        · rfl
        · split <;> rfl
      rw [e]
      refine ⟨fun q => ?_, fun q => ?_⟩
      · have q : need ≤ tKd f + 1 := q
        by_cases c2 : need ≤ tKd f
        · have := ih.1 c2; omega
        · have := ih.2 (by omega); omega
      · have q : tKd f + 1 ≤ need := q
        have := ih.2 (by omega)
        show _ = tKd f + 1
        omega
def bKept (G : Mm) (t t' : Tr) (k p : Int) : Prop := 0 < p ∧ p < tSz t' ∧ tSub t' p = tSub t k ∧ tLv t' p = tLv t k ∧ (gNeed G (tNm (tSub t (tPa t k))) ≤ tQl t k → gNeed G (tNm (tSub t' (tPa t' p))) ≤ tQl t' p)
/-- the same in a tree with one more last part -/
theorem bKept_f {G : Mm} {f s F S : Tr} {k p : Int} (h : bKept G f F k p) (hk : 0 < k ∧ k < tSz f) (hn : tNm F = tNm f) : bKept G (.op f s) (.op F S) k p := by
  obtain ⟨h1, h2, h3, h4, h5⟩ := h
  have pS := tSz_pos S
  have pb := tPl_b (t := f) (k := k) (by omega) hk.2
  have pb2 := tPl_b (t := F) (k := p) (by omega) h2
  have na : ∀ (a b : Tr) (x : Int), x < tSz a → tNm (tSub (.op a b) x) = tNm (tSub a x) := by
    intro a b x hx
    by_cases c : x = 0
    · rw [c, tSub_0, tSub_0]; rfl
    · rw [tSub_f c hx]
  refine ⟨h1, by show p < tSz F + tSz S; omega, ?_, ?_, ?_⟩
  · rw [tSub_f (by omega) h2, tSub_f (by omega) hk.2, h3]
  · rw [tLv_f h2, tLv_f hk.2, h4]
  · rw [tPa_f h2, tPa_f hk.2, tQl_f h2, tQl_f hk.2, na f s _ (by omega), na F S _ (by omega)]
    exact h5
theorem bKept_c {G : Mm} {f s F : Tr} {k p : Int} (h : bKept G f F k p) (hk : 0 < k ∧ k < tSz f) : bKept G (.op f s) F k p := by
  obtain ⟨h1, h2, h3, h4, h5⟩ := h
  have pb := tPl_b (t := f) (k := k) (by omega) hk.2
  have na : ∀ (a b : Tr) (x : Int), x < tSz a → tNm (tSub (.op a b) x) = tNm (tSub a x) := by
    intro a b x hx
    by_cases c : x = 0
    · rw [c, tSub_0, tSub_0]; rfl
    · rw [tSub_f c hx]
  refine ⟨h1, h2, ?_, ?_, ?_⟩
  · rw [tSub_f (by omega) hk.2, h3]
  · rw [tLv_f hk.2, h4]
  · rw [tPa_f hk.2, tQl_f hk.2, na f s _ (by omega)]
    exact h5
theorem bKept_s {G : Mm} {f s F S : Tr} {k p : Int} (h : bKept G s S k p) (hk : 0 < k ∧ k < tSz s) : bKept G (.op f s) (.op F S) (k + tSz f) (p + tSz F) := by
  obtain ⟨h1, h2, h3, h4, h5⟩ := h
  have pf := tSz_pos f
  have pF := tSz_pos F
  have pb := tPl_b (t := s) (k := k) (by omega) hk.2
  have pb2 := tPl_b (t := S) (k := p) (by omega) h2
  refine ⟨by omega, by show p + tSz F < tSz F + tSz S; omega, ?_, ?_, ?_⟩
  · rw [tSub_s (by omega), tSub_s (by omega), Int.add_sub_cancel, Int.add_sub_cancel, h3]
  · rw [tLv_s (by omega), tLv_s (by omega), Int.add_sub_cancel, Int.add_sub_cancel, h4]
  · rw [tPa_s (by omega), tPa_s (by omega), tQl_s (by omega), tQl_s (by omega), Int.add_sub_cancel, Int.add_sub_cancel, tSub_s (by omega), tSub_s (by omega), Int.add_sub_cancel, Int.add_sub_cancel]
    exact h5
theorem bPos_ok {G : Mm} {mk : Int → Int} {H : Tr} {nm : Int → Int} : ∀ (t : Tr) (i l : Int), (∀ k, i < k → k < i + tSz t → mk k = -1 ∨ mk k = 0 ∨ mk k = 1 ∨ mk k = 2) → nm i = tNm t → tAll (fun k u a q _ => nm k = tNm u ∧ (mk k = 0 → gNeed G (nm a) ≤ q)) t i l → ∀ k, i < k → k < i + tSz t → mk k = -1 → (∀ x, k < x → x < k + tSz (tSub t (k - i)) → mk x = -1) → bVis mk t i k → bKept G t (bR G mk H t i) (k - i) (bPos G mk H t i k)
  | .var n, i, l, hm, hn, hA, k, h0, h1, hk, hsub, hvis => by
    have h1 : k < i + 1 := h1
    omega
  | .op f s, i, l, hm, hn, hA, k, h0, h1, hk, hsub, hvis => by
    have h1 : k < i + (tSz f + tSz s) := h1
    have hm : ∀ k, i < k → k < i + (tSz f + tSz s) → mk k = -1 ∨ mk k = 0 ∨ mk k = 1 ∨ mk k = 2 := hm
    have q1 := tSz_pos f
    have q2 := tSz_pos s
    have hn' : nm i = tNm f := hn
    obtain ⟨hAf, ⟨hAn, hAe⟩, hAs⟩ := hA
    have hme := hm (i + tSz f) (by omega) (by omega)
    by_cases c : k < i + tSz f
    · rw [tSub_f (by omega) (by omega)] at hsub
      have ih := bPos_ok (G := G) (H := H) f i l (fun k c1 c2 => hm k c1 (by omega)) hn' hAf k h0 c hk hsub (bVis_f c hvis)
      rw [bPos_f c]
      rcases hme with e | e | e | e
      · rw [bR_n e]; exact bKept_f ih (by omega) (bR_nm f i)
      · rw [bR_0 e]; exact bKept_c ih (by omega)
      · rw [bR_1 e]; exact bKept_f ih (by omega) (bR_nm f i)
      · rw [bR_2 e]; exact bKept_f ih (by omega) (bR_nm f i)
    · by_cases c2 : k = i + tSz f
      · subst c2
        rw [show i + tSz f - i = tSz f by omega] at hsub ⊢
        rw [tSub_s (by omega), Int.sub_self, tSub_0] at hsub
        have hid : bR G mk H s (i + tSz f) = s := bR_id s _ hsub
        rw [bPos_s (by omega), bPos_0, bR_n hk, hid, Int.add_zero]
        have pF := tSz_pos (bR G mk H f i)
        refine ⟨by omega, by show _ < tSz _ + tSz s; omega, ?_, ?_, ?_⟩
        · rw [tSub_s (by omega), tSub_s (by omega), Int.sub_self, Int.sub_self]
        · rw [tLv_s (by omega), tLv_s (by omega), Int.sub_self, Int.sub_self]
        · rw [tPa_m, tPa_m, tQl_m, tQl_m, tSub_0, tSub_0]
          show gNeed G (tNm f) ≤ _ → gNeed G (tNm (bR G mk H f i)) ≤ _
          rw [bR_nm]
          intro hq
          refine (bKd (G := G) (H := H) f i l ?_).1 hq
          have hk2 := tAll_kids f i l hAf
          have par : ∀ (u : Tr) (i l : Int) (Φ : Int → Tr → Int → Int → Int → Prop), tKids Φ u i l → tKids (fun k u a q v => a = i ∧ Φ k u a q v) u i l := by
            intro u
            induction u with
            | var n => exact fun _ _ _ _ => trivial
            | op f s ihf ihs => exact fun i l Φ h => ⟨ihf i l Φ h.1, rfl, h.2⟩
          refine tKids_mono f i l ?_ (par f i l _ hk2)
          intro k u a q v _ _ hx hm0
          have := hx.2.2 hm0
          rw [hx.1, hn'] at this
          exact this
      · have hv := bVis_s (by omega) hvis
        have e1 : k - i - tSz f = k - (i + tSz f) := by omega
        rw [tSub_s (by omega), e1] at hsub
        have ih := bPos_ok (G := G) (H := H) s (i + tSz f) (l + 1) (fun k c1 c2 => hm k (by omega) (by omega)) hAn hAs k (by omega) (by omega) hk hsub hv.2
        rw [bPos_s (by omega), bR_n hv.1]
        have := bKept_s (f := f) (F := bR G mk H f i) ih (by omega)
        rw [show k - (i + tSz f) + tSz f = k - i by omega, Int.add_comm (bPos G mk H s (i + tSz f) k)] at this
        exact this
theorem bPos_lt {G : Mm} {mk : Int → Int} {H : Tr} : ∀ (t : Tr) (i k : Int), (∀ k, i < k → k < i + tSz t → mk k = -1 ∨ mk k = 0 ∨ mk k = 1 ∨ mk k = 2) → i ≤ k → k < i + tSz t → (k = i ∨ mk k = -1) → bVis mk t i k → 0 ≤ bPos G mk H t i k ∧ bPos G mk H t i k < tSz (bR G mk H t i)
  | .var n, i, k, hm, h0, h1, hk, hv => ⟨Int.le_refl 0, (by decide : (0 : Int) < 1)⟩
  | .op f s, i, k, hm, h0, h1, hk, hv => by
    have h1 : k < i + (tSz f + tSz s) := h1
    have hm : ∀ k, i < k → k < i + (tSz f + tSz s) → mk k = -1 ∨ mk k = 0 ∨ mk k = 1 ∨ mk k = 2 := hm
    have q1 := tSz_pos f
    have q2 := tSz_pos s
    have hme := hm (i + tSz f) (by omega) (by omega)
    have pF := tSz_pos (bR G mk H f i)
    by_cases c : k < i + tSz f
    · have ih := bPos_lt (G := G) (H := H) f i k (fun k c1 c2 => hm k c1 (by omega)) h0 c hk (bVis_f c hv)
      rw [bPos_f c]
      rcases hme with e | e | e | e
      · rw [bR_n e]
        have := tSz_pos (bR G mk H s (i + tSz f))
        show _ ∧ _ < tSz _ + tSz _; omega
      · rw [bR_0 e]; exact ih
      · rw [bR_1 e]
        have := tSz_pos (gT G 6 (G 7 (tNm s)))
        show _ ∧ _ < tSz _ + tSz _; omega
      · rw [bR_2 e]
        have := tSz_pos H
        show _ ∧ _ < tSz _ + tSz _; omega
    · have hme1 : mk (i + tSz f) = -1 := by
        by_cases c2 : k = i + tSz f
        · rw [← c2]; omega
        · exact (bVis_s (by omega) hv).1
      rw [bPos_s (by omega), bR_n hme1]
      show _ ∧ _ < tSz _ + tSz _
      by_cases c2 : k = i + tSz f
      · subst c2
        have := tSz_pos (bR G mk H s (i + tSz f))
        rw [bPos_0]; omega
      · have ih := bPos_lt (G := G) (H := H) s (i + tSz f) k (fun k c1 c2 => hm k (by omega) (by omega)) (by omega) (by omega) (by omega) (bVis_s (by omega) hv).2
        omega
theorem bPos_mono {G : Mm} {mk : Int → Int} {H : Tr} : ∀ (t : Tr) (i k k' : Int), (∀ k, i < k → k < i + tSz t → mk k = -1 ∨ mk k = 0 ∨ mk k = 1 ∨ mk k = 2) → i ≤ k → k < k' → k' < i + tSz t → (k = i ∨ mk k = -1) → mk k' = -1 → bVis mk t i k → bVis mk t i k' → bPos G mk H t i k < bPos G mk H t i k'
  | .var n, i, k, k', hm, h0, h1, h2, hk, hk', hv, hv' => by
    have h2 : k' < i + 1 := h2
    omega
  | .op f s, i, k, k', hm, h0, h1, h2, hk, hk', hv, hv' => by
    have h2 : k' < i + (tSz f + tSz s) := h2
    have hm : ∀ k, i < k → k < i + (tSz f + tSz s) → mk k = -1 ∨ mk k = 0 ∨ mk k = 1 ∨ mk k = 2 := hm
    have q1 := tSz_pos f
    have q2 := tSz_pos s
    by_cases c' : k' < i + tSz f
    · rw [bPos_f (by omega), bPos_f c']
      exact bPos_mono f i k k' (fun k c1 c2 => hm k c1 (by omega)) h0 h1 c' hk hk' (bVis_f (by omega) hv) (bVis_f c' hv')
    · by_cases c : k < i + tSz f
      · have b1 := bPos_lt (G := G) (H := H) f i k (fun k c1 c2 => hm k c1 (by omega)) h0 c hk (bVis_f c hv)
        rw [bPos_f c, bPos_s (by omega)]
        by_cases c2 : k' = i + tSz f
        · subst c2
          rw [bPos_0]; omega
        · have b2 := bPos_lt (G := G) (H := H) s (i + tSz f) k' (fun k c1 c2 => hm k (by omega) (by omega)) (by omega) (by omega) (.inr hk') (bVis_s (by omega) hv').2
          omega
      · rw [bPos_s (by omega), bPos_s (by omega)]
        have vs := (bVis_s (by omega) hv').2
        have : bPos G mk H s (i + tSz f) k < bPos G mk H s (i + tSz f) k' := by
          refine bPos_mono s (i + tSz f) k k' (fun k c1 c2 => hm k (by omega) (by omega)) (by omega) h1 (by omega) (by omega) hk' ?_ vs
          by_cases c2 : k = i + tSz f
          · subst c2
            cases s with
            | var n => trivial
            | op f' s' =>
              have self : ∀ (u : Tr) (i : Int), bVis mk u i i := by
                intro u
                induction u with
                | var n => exact fun _ => trivial
                | op a b iha ihb =>
                  intro i
                  have := tSz_pos a
                  show (if i < i + tSz a then bVis mk a i i else _)
                  rw [if_pos (by omega)]
                  exact iha i
              exact self _ _
          · exact (bVis_s (by omega) hv).2
        omega
/-- with marks on one level alone, all nodes up to it are come to -/
theorem bVis_lev {mk : Int → Int} {t0 : Tr} {lev : Int} (hmk : ∀ k, 0 < k → k < tSz t0 → mk k ≠ -1 → tLv t0 k = lev) : ∀ (t : Tr) (i l : Int), 0 ≤ i → i + tSz t ≤ tSz t0 → tAll (fun k _ _ _ v => v = tLv t0 k) t i l → ∀ k, i ≤ k → k < i + tSz t → tLv t0 k ≤ lev → (k = i ∨ l < tLv t0 k) → bVis mk t i k
  | .var n, i, l, hi, hz, hA, k, h0, h1, hl, h => trivial
  | .op f s, i, l, hi, hz, hA, k, h0, h1, hl, h => by
    have h1 : k < i + (tSz f + tSz s) := h1
    have hz : i + (tSz f + tSz s) ≤ tSz t0 := hz
    have q1 := tSz_pos f
    have q2 := tSz_pos s
    obtain ⟨hAf, hAe, hAs⟩ := hA
    have hAe : l + 1 = tLv t0 (i + tSz f) := hAe
    show (if k < i + tSz f then bVis mk f i k else (k = i + tSz f ∨ (mk (i + tSz f) = -1 ∧ bVis mk s (i + tSz f) k)))
    by_cases c : k < i + tSz f
    · rw [if_pos c]
      exact bVis_lev hmk f i l hi (by omega) hAf k h0 c hl h
    · rw [if_neg c]
      by_cases c2 : k = i + tSz f
      · exact .inl c2
      · refine .inr ?_
        have lv : l + 1 < tLv t0 k := by
          obtain ⟨u, a, q, v, _, _, _, g4, _, g⟩ := tAll_at s (i + tSz f) (l + 1) k (by omega) (by omega)
          have := (g _ hAs).1
          omega
        refine ⟨?_, bVis_lev hmk s (i + tSz f) (l + 1) (by omega) (by omega) hAs k (by omega) (by omega) hl (.inr lv)⟩
        by_cases cm : mk (i + tSz f) = -1
        · exact cm
        · have := hmk (i + tSz f) (by omega) (by omega) cm
          omega
theorem bR_lt {G : Mm} (hg : gOk G) {mk : Int → Int} {H : Tr} : ∀ (t : Tr) (i l k : Int), tVal (G 4 0) t → tAll (bMk G mk H) t i l → i < k → k < i + tSz t → bVis mk t i k → mk k ≠ -1 → (mk k = 1 → G 12 (G 7 (tNm (tSub t (k - i)))) < tSz (tSub t (k - i))) → (mk k = 2 → tSz H < tSz (tSub t (k - i))) → tSz (bR G mk H t i) < tSz t
  | .var n, i, l, k, hv, hB, h0, h1, hvis, hk, hk1, hk2 => by
    have h1 : k < i + 1 := h1
    omega
  | .op f s, i, l, k, hv, hB, h0, h1, hvis, hk, hk1, hk2 => by
    have h1 : k < i + (tSz f + tSz s) := h1
    have q1 := tSz_pos f
    have q2 := tSz_pos s
    obtain ⟨hBf, ⟨hB0, hB1, hB2⟩, hBs⟩ := hB
    have szf := bR_sz hg f i l hv.1 hBf
    have szs := bR_sz hg s _ _ hv.2 hBs
    have gsz := gT_sz hg (tVal_nm s hv.2)
    show _ < tSz f + tSz s
    by_cases c : k < i + tSz f
    · rw [tSub_f (by omega) (by omega)] at hk1 hk2
      have ih := bR_lt hg (H := H) f i l k hv.1 hBf h0 c (bVis_f c hvis) hk hk1 hk2
      rcases hB0 with e | e | e | e
      · rw [bR_n e]; show tSz _ + tSz _ < _; omega
      · rw [bR_0 e]; omega
      · rw [bR_1 e]
        have := hB1 e
        show tSz _ + tSz _ < _; omega
      · rw [bR_2 e]
        have := hB2 e
        show tSz _ + tSz _ < _; omega
    · by_cases c2 : k = i + tSz f
      · subst c2
        rw [show i + tSz f - i = tSz f by omega, tSub_s (by omega), Int.sub_self, tSub_0] at hk1 hk2
        rcases hB0 with e | e | e | e
        · exact absurd e hk
        · rw [bR_0 e]; omega
        · rw [bR_1 e]
          have := hk1 e
          show tSz _ + tSz _ < _; omega
        · rw [bR_2 e]
          have := hk2 e
          show tSz _ + tSz _ < _; omega
      · have hv2 := bVis_s (by omega) hvis
        have e1 : k - i - tSz f = k - (i + tSz f) := by omega
        rw [tSub_s (by omega), e1] at hk1 hk2
        have ih := bR_lt hg (H := H) s (i + tSz f) (l + 1) k hv.2 hBs (by omega) (by omega) hv2.2 hk hk1 hk2
        rw [bR_n hv2.1]
        show tSz _ + tSz _ < _; omega
