/-! LAYER 3: counts of a tree -/
def cHas (t : Tr) (a : Int) : Nat → Int → Int
  | 0, _ => 0
  | m + 1, k => fl (tNm (tSub t k) = a) + cHas t a m (k + 1)
def cUnd (t : Tr) (a b : Int) : Nat → Int → Int → Int → Int
  | 0, _, n, _ => n
  | m + 1, k, n, w => cUnd t a b m (k + 1) (n + fl (k < w ∧ tNm (tSub t k) = b)) (if tNm (tSub t k) = a then zMax w (k + tSz (tSub t k)) else w)
def cLast : Tr → Int
  | .var _ => -1
  | .op _ s => tNm s
def cNext (a b : Int) : Tr → Int
  | .var _ => 0
  | .op f s => cNext a b f + fl (cLast f = a ∧ tNm s = b) + cNext a b s
theorem tNm_r {t : Tr} (hv : tVal 24 t) (k : Int) : zR32 (tNm (tSub t k)) = true := by
  have := tNm_b hv k
  exact zr (by omega) (by omega)
theorem x_has_l {d : Nat} {M : Mm} {K : Kt} {b : Nat} {t : Tr} {a x3 x5 : Int} (hb : xT b) (ht : xTr M b t) (hv : tVal 24 t) (ha : zR32 a = true) : ∀ (m : Nat) (k n : Int) (u : Option Vl), k + m = tSz t → 0 ≤ k → K (n + cHas t a m k) M → zWp (zSp d) 89 K 28 [some (.inr (.inr b)), some (.inl 2), some (.inl a), some (.inl x3), some (.inl n), some (.inl x5), some (.inl k), u] [] M
  | 0, k, n, u, h1, h2, hK => by
    have t1 := ht.1.1
    have t5 := ht.2.1
    rw [fe_89_28]
    simp only [(xT_c hb).1, zC_t]
    (repeat (first | refine zC_i (by first | assumption | decide | exact zr (by omega) (by omega) | exact zs (by omega) (by omega) | exact zd (by omega) (by omega)) ?_ | refine zIfT (by first | assumption | omega | decide) ?_ | refine zIfF (by first | assumption | omega | decide) ?_))
    rw [show n + cHas t a 0 k = n from Int.add_zero n] at hK
    exact hK
  | m + 1, k, n, u, h1, h2, hK => by
    obtain ⟨o, ⟨a1, a2, a3, a4, a5, a6, a7⟩, l1, l2, l3, l4, l5, l6, l7⟩ := xT_c hb
    have t1 := ht.1.1
    have t5 := ht.2.1
    have e := (xTr_at ht h2 (by omega)).1
    have hn := tNm_r hv k
    rw [show n + cHas t a (m + 1) k = n + fl (tNm (tSub t k) = a) + cHas t a m (k + 1) from (Int.add_assoc _ _ _).symm] at hK
    rw [fe_89_28]
    simp only [o, a1, l1, zC_t, e]
    (repeat (first | refine zC_i (by first | assumption | decide | exact zr (by omega) (by omega) | exact zs (by omega) (by omega) | exact zd (by omega) (by omega)) ?_ | refine zIfT (by first | assumption | omega | decide) ?_ | refine zIfF (by first | assumption | omega | decide) ?_))
    refine ⟨fun hc => ?_, fun hc => ?_⟩
    · rw [fl_f hc, Int.add_zero] at hK
      rw [fe_89_59]
      (repeat (first | refine zC_i (by first | assumption | decide | exact zr (by omega) (by omega) | exact zs (by omega) (by omega) | exact zd (by omega) (by omega)) ?_ | refine zIfT (by first | assumption | omega | decide) ?_ | refine zIfF (by first | assumption | omega | decide) ?_))
      exact x_has_l hb ht hv ha m (k + 1) n _ (by omega) (by omega) hK
    · rw [fl_t (by omega)] at hK
      exact x_has_l hb ht hv ha m (k + 1) (n + 1) _ (by omega) (by omega) hK
theorem x_und_l {d : Nat} {M : Mm} {K : Kt} {b : Nat} {t : Tr} {a x3 : Int} (hb : xT b) (ht : xTr M b t) (hv : tVal 24 t) (ha : zR32 a = true) (h3 : zR32 x3 = true) : ∀ (m : Nat) (k n w : Int) (u : Option Vl), k + m = tSz t → 0 ≤ k → 0 ≤ w ∧ w ≤ 80 → K (cUnd t a x3 m k n w) M → zWp (zSp d) 89 K 28 [some (.inr (.inr b)), some (.inl 3), some (.inl a), some (.inl x3), some (.inl n), some (.inl w), some (.inl k), u] [] M
  | 0, k, n, w, u, h1, h2, hw, hK => by
    have t1 := ht.1.1
    have t5 := ht.2.1
    rw [fe_89_28]
    simp only [(xT_c hb).1, zC_t]
    (repeat (first | refine zC_i (by first | assumption | decide | exact zr (by omega) (by omega) | exact zs (by omega) (by omega) | exact zd (by omega) (by omega)) ?_ | refine zIfT (by first | assumption | omega | decide) ?_ | refine zIfF (by first | assumption | omega | decide) ?_))
    exact hK
  | m + 1, k, n, w, u, h1, h2, hw, hK => by
    obtain ⟨o, ⟨a1, a2, a3, a4, a5, a6, a7⟩, l1, l2, l3, l4, l5, l6, l7⟩ := xT_c hb
    have t1 := ht.1.1
    have t5 := ht.2.1
    have e := xTr_at ht h2 (by omega)
    have pb := tPl_b (t := t) h2 (by omega)
    have hn := tNm_r hv k
    have hK : K (cUnd t a x3 m (k + 1) (n + fl (k < w ∧ tNm (tSub t k) = x3)) (if tNm (tSub t k) = a then zMax w (k + tSz (tSub t k)) else w)) M := hK
    have h85 : ∀ n', n' = n + fl (k < w ∧ tNm (tSub t k) = x3) → zWp (zSp d) 89 K 85 [some (.inr (.inr b)), some (.inl 3), some (.inl a), some (.inl x3), some (.inl n'), some (.inl w), some (.inl k), u] [] M := by
      intro n' hn'
      subst hn'
      rw [fe_89_85]
      simp only [o, a1, l1, a6, l6, zC_t, e.1, e.2.2.2.2.2]
      (repeat (first | refine zC_i (by first | assumption | decide | exact zr (by omega) (by omega) | exact zs (by omega) (by omega) | exact zd (by omega) (by omega)) ?_ | refine zIfT (by first | assumption | omega | decide) ?_ | refine zIfF (by first | assumption | omega | decide) ?_))
      refine ⟨fun hc => ?_, fun hc => ?_⟩
      · rw [if_neg hc] at hK
        exact x_und_l hb ht hv ha h3 m (k + 1) _ w _ (by omega) (by omega) hw hK
      · rw [if_pos (by omega)] at hK
        (repeat (first | refine zC_i (by first | assumption | decide | exact zr (by omega) (by omega) | exact zs (by omega) (by omega) | exact zd (by omega) (by omega)) ?_ | refine zIfT (by first | assumption | omega | decide) ?_ | refine zIfF (by first | assumption | omega | decide) ?_))
        have z := @zMax_b w (k + tSz (tSub t k))
        exact x_und_l hb ht hv ha h3 m (k + 1) _ _ _ (by omega) (by omega) (by omega) hK
    rw [fe_89_28]
    simp only [o, a1, l1, zC_t, e.1]
    (repeat (first | refine zC_i (by first | assumption | decide | exact zr (by omega) (by omega) | exact zs (by omega) (by omega) | exact zd (by omega) (by omega)) ?_ | refine zIfT (by first | assumption | omega | decide) ?_ | refine zIfF (by first | assumption | omega | decide) ?_))
    rw [fe_89_59]
    simp only [o, a1, l1, zC_t, e.1]
    (repeat (first | refine zC_i (by first | assumption | decide | exact zr (by omega) (by omega) | exact zs (by omega) (by omega) | exact zd (by omega) (by omega)) ?_ | refine zIfT (by first | assumption | omega | decide) ?_ | refine zIfF (by first | assumption | omega | decide) ?_))
    refine ⟨fun hc => ?_, fun hc => ?_⟩
    · exact h85 n (by rw [fl_f (by omega)]; omega)
    · (repeat (first | refine zC_i (by first | assumption | decide | exact zr (by omega) (by omega) | exact zs (by omega) (by omega) | exact zd (by omega) (by omega)) ?_ | refine zIfT (by first | assumption | omega | decide) ?_ | refine zIfF (by first | assumption | omega | decide) ?_))
      refine ⟨fun hc2 => ?_, fun hc2 => ?_⟩
      · exact h85 n (by rw [fl_f (by omega)]; omega)
      · exact h85 (n + 1) (by rw [fl_t (by omega)])
/-- the class's look at a node and what stands behind it -/
def cG (t : Tr) (a b : Int) (k : Int) : Int := fl (tNm (tSub t k) = a ∧ k + tSz (tSub t k) < tSz t ∧ tPa t (k + tSz (tSub t k)) = tPa t k ∧ tNm (tSub t (k + tSz (tSub t k))) = b)
def cSum (g : Int → Int) : Nat → Int → Int
  | 0, _ => 0
  | m + 1, k => g k + cSum g m (k + 1)
theorem x_nxt_l {d : Nat} {M : Mm} {K : Kt} {b : Nat} {t : Tr} {a x3 x5 : Int} (hb : xT b) (ht : xTr M b t) (hv : tVal 24 t) (ha : zR32 a = true) (h3 : zR32 x3 = true) : ∀ (m : Nat) (k n : Int) (u : Option Vl), k + m = tSz t → 0 ≤ k → K (n + cSum (cG t a x3) m k) M → zWp (zSp d) 89 K 28 [some (.inr (.inr b)), some (.inl 4), some (.inl a), some (.inl x3), some (.inl n), some (.inl x5), some (.inl k), u] [] M
  | 0, k, n, u, h1, h2, hK => by
    have t1 := ht.1.1
    have t5 := ht.2.1
    rw [fe_89_28]
    simp only [(xT_c hb).1, zC_t]
    (repeat (first | refine zC_i (by first | assumption | decide | exact zr (by omega) (by omega) | exact zs (by omega) (by omega) | exact zd (by omega) (by omega)) ?_ | refine zIfT (by first | assumption | omega | decide) ?_ | refine zIfF (by first | assumption | omega | decide) ?_))
    rw [show n + cSum (cG t a x3) 0 k = n from Int.add_zero n] at hK
    exact hK
  | m + 1, k, n, u, h1, h2, hK => by
    obtain ⟨o, ⟨a1, a2, a3, a4, a5, a6, a7⟩, l1, l2, l3, l4, l5, l6, l7⟩ := xT_c hb
    have t1 := ht.1.1
    have t5 := ht.2.1
    have e := xTr_at ht h2 (by omega)
    have pb := tPl_b (t := t) h2 (by omega)
    have hn := tNm_r hv k
    rw [show n + cSum (cG t a x3) (m + 1) k = n + cG t a x3 k + cSum (cG t a x3) m (k + 1) from (Int.add_assoc _ _ _).symm] at hK
    have hz : ∀ u, cG t a x3 k = 0 → zWp (zSp d) 89 K 28 [some (.inr (.inr b)), some (.inl 4), some (.inl a), some (.inl x3), some (.inl n), some (.inl x5), some (.inl (k + 1)), u] [] M := by
      intro u h0
      rw [h0, Int.add_zero] at hK
      exact x_nxt_l hb ht hv ha h3 m (k + 1) n u (by omega) (by omega) hK
    rw [fe_89_28]
    simp only [o, a1, l1, zC_t, e.1]
    (repeat (first | refine zC_i (by first | assumption | decide | exact zr (by omega) (by omega) | exact zs (by omega) (by omega) | exact zd (by omega) (by omega)) ?_ | refine zIfT (by first | assumption | omega | decide) ?_ | refine zIfF (by first | assumption | omega | decide) ?_))
    rw [fe_89_59]
    simp only [o, a1, l1, a6, l6, a3, l3, zC_t, e.1, e.2.2.1, e.2.2.2.2.2]
    (repeat (first | refine zC_i (by first | assumption | decide | exact zr (by omega) (by omega) | exact zs (by omega) (by omega) | exact zd (by omega) (by omega)) ?_ | refine zIfT (by first | assumption | omega | decide) ?_ | refine zIfF (by first | assumption | omega | decide) ?_))
    refine ⟨fun hc => hz _ (fl_f (by omega)), fun hc => ?_⟩
    (repeat (first | refine zC_i (by first | assumption | decide | exact zr (by omega) (by omega) | exact zs (by omega) (by omega) | exact zd (by omega) (by omega)) ?_ | refine zIfT (by first | assumption | omega | decide) ?_ | refine zIfF (by first | assumption | omega | decide) ?_))
    refine ⟨fun hc2 => hz _ (fl_f (by omega)), fun hc2 => ?_⟩
    have e' := xTr_at ht (k := k + tSz (tSub t k)) (by omega) (by omega)
    have pb' := tPl_b (t := t) (k := k + tSz (tSub t k)) (by omega) (by omega)
    have hn' := tNm_r hv (k + tSz (tSub t k))
    simp only [e'.1, e'.2.2.1]
    (repeat (first | refine zC_i (by first | assumption | decide | exact zr (by omega) (by omega) | exact zs (by omega) (by omega) | exact zd (by omega) (by omega)) ?_ | refine zIfT (by first | assumption | omega | decide) ?_ | refine zIfF (by first | assumption | omega | decide) ?_))
    refine ⟨fun hc3 => hz _ (fl_f (by omega)), fun hc3 => ?_⟩
    (repeat (first | refine zC_i (by first | assumption | decide | exact zr (by omega) (by omega) | exact zs (by omega) (by omega) | exact zd (by omega) (by omega)) ?_ | refine zIfT (by first | assumption | omega | decide) ?_ | refine zIfF (by first | assumption | omega | decide) ?_))
    refine ⟨fun hc4 => hz _ (fl_f (by omega)), fun hc4 => ?_⟩
    rw [show cG t a x3 k = 1 from fl_t (by omega)] at hK
    exact x_nxt_l hb ht hv ha h3 m (k + 1) (n + 1) _ (by omega) (by omega) hK
theorem cSum_split (g : Int → Int) : ∀ (m m' : Nat) (k : Int), cSum g (m + m') k = cSum g m k + cSum g m' (k + m)
  | 0, m', k => by
    rw [Nat.zero_add, show k + ((0 : Nat) : Int) = k by omega]
    exact (Int.zero_add _).symm
  | m + 1, m', k => by
    rw [Nat.succ_add]
    show g k + cSum g (m + m') (k + 1) = g k + cSum g m (k + 1) + cSum g m' (k + ((m + 1 : Nat) : Int))
    rw [cSum_split g m m' (k + 1), show k + 1 + (m : Int) = k + ((m + 1 : Nat) : Int) by omega, Int.add_assoc]
theorem cG_sum {t : Tr} {a b : Int} (ha : 0 ≤ a) : ∀ (u : Tr) (i l : Int), 0 ≤ i → i + tSz u ≤ tSz t → tAll (fun k w p _ _ => w = tSub t k ∧ p = tPa t k) u i l → (i + tSz u = tSz t ∨ tPa t (i + tSz u) ≤ i) →
    cSum (cG t a b) (tSz u - 1).toNat (i + 1) = cNext a b u + fl (cLast u = a ∧ i + tSz u < tSz t ∧ tPa t (i + tSz u) = i ∧ tNm (tSub t (i + tSz u)) = b)
  | .var n, i, l, h0, h1, hA, h2 => by
    have e : fl (cLast (.var n) = a ∧ i + tSz (.var n) < tSz t ∧ tPa t (i + tSz (.var n)) = i ∧ tNm (tSub t (i + tSz (.var n))) = b) = 0 := fl_f (fun q => by
      have q1 : (-1 : Int) = a := q.1
      omega)
    rw [e]
    rfl
  | .op f s, i, l, h0, h1, hA, h2 => by
    have h1 : i + (tSz f + tSz s) ≤ tSz t := h1
    have h2 : i + (tSz f + tSz s) = tSz t ∨ tPa t (i + (tSz f + tSz s)) ≤ i := h2
    have q1 := tSz_pos f
    have q2 := tSz_pos s
    obtain ⟨hf, ⟨e1, e2⟩, hs⟩ := hA
    have ih1 := cG_sum (t := t) (a := a) (b := b) ha f i l h0 (by omega) hf (.inr (by omega))
    have ih2 := cG_sum (t := t) (a := a) (b := b) ha s (i + tSz f) (l + 1) (by omega) (by omega) hs (by rw [show i + tSz f + tSz s = i + (tSz f + tSz s) by omega]; omega)
    rw [show (tSz (.op f s) - 1).toNat = (tSz f - 1).toNat + ((tSz s - 1).toNat + 1) by show (tSz f + tSz s - 1).toNat = _; omega, cSum_split, ih1, show i + 1 + (((tSz f - 1).toNat : Nat) : Int) = i + tSz f by omega]
    show _ + (cG t a b (i + tSz f) + cSum (cG t a b) (tSz s - 1).toNat (i + tSz f + 1)) = cNext a b f + fl (cLast f = a ∧ tNm s = b) + cNext a b s + fl (tNm s = a ∧ i + (tSz f + tSz s) < tSz t ∧ tPa t (i + (tSz f + tSz s)) = i ∧ tNm (tSub t (i + (tSz f + tSz s))) = b)
    rw [ih2]
    unfold cG
    rw [← e1, ← e2, show i + tSz f + tSz s = i + (tSz f + tSz s) by omega]
    have g1 : fl (cLast s = a ∧ i + (tSz f + tSz s) < tSz t ∧ tPa t (i + (tSz f + tSz s)) = i + tSz f ∧ tNm (tSub t (i + (tSz f + tSz s))) = b) = 0 := fl_f (by omega)
    have g2 : fl (cLast f = a ∧ i + tSz f < tSz t ∧ i = i ∧ tNm s = b) = fl (cLast f = a ∧ tNm s = b) := by
      by_cases c : cLast f = a ∧ tNm s = b
      · rw [fl_t c, fl_t ⟨c.1, by omega, rfl, c.2⟩]
      · rw [fl_f c, fl_f (fun q => c ⟨q.1, q.2.2.2⟩)]
    rw [g1, g2]
    omega
theorem cG_all {t : Tr} {a b : Int} (ha : 0 ≤ a) : cSum (cG t a b) (tSz t).toNat 0 = cNext a b t := by
  have q1 := tSz_pos t
  have h := cG_sum (t := t) (a := a) (b := b) ha t 0 0 (by omega) (by omega) (tAll_put fun k c1 c2 => ⟨rfl, rfl⟩) (.inl (by omega))
  rw [fl_f (by omega)] at h
  rw [show (tSz t).toNat = (tSz t - 1).toNat + 1 by omega]
  show cG t a b 0 + cSum _ _ (0 + 1) = _
  rw [h, show cG t a b 0 = 0 from fl_f (by rw [tSub_0]; omega)]
  omega
def cCnt (t : Tr) (w a b : Int) : Int := if w = 0 then tSz t else if w = 1 then tDp t else if w = 2 then cHas t a (tSz t).toNat 0 else if w = 3 then cUnd t a b (tSz t).toNat 0 0 0 else cNext a b t
theorem x_countOf {d : Nat} {M : Mm} {K : Kt} {b : Nat} {t : Tr} {w a c : Int} (hb : xT b) (ht : xTr M b t) (hv : tVal 24 t) (hw : 0 ≤ w ∧ w ≤ 4) (ha : zR32 a = true) (hc : zR32 c = true) (h4 : w = 4 → 0 ≤ a) (hK : K (cCnt t w a c) M) : zSp (d + 1) 89 [.inr (.inr b), .inl w, .inl a, .inl c] M K := by
  have q1 := tSz_pos t
  have t1 := ht.1.1
  have t6 := ht.2.2.1
  unfold cCnt at hK
  rw [me_89]
  simp only [(xT_c hb).1, zC_t, t1, t6]
  have hw : w = 0 ∨ w = 1 ∨ w = 2 ∨ w = 3 ∨ w = 4 := by omega
  rcases hw with hw | hw | hw | hw | hw <;> subst hw
  · (repeat (first | refine zC_i (by first | assumption | decide | exact zr (by omega) (by omega) | exact zs (by omega) (by omega) | exact zd (by omega) (by omega)) ?_ | refine zIfT (by first | assumption | omega | decide) ?_ | refine zIfF (by first | assumption | omega | decide) ?_))
    exact hK
  · (repeat (first | refine zC_i (by first | assumption | decide | exact zr (by omega) (by omega) | exact zs (by omega) (by omega) | exact zd (by omega) (by omega)) ?_ | refine zIfT (by first | assumption | omega | decide) ?_ | refine zIfF (by first | assumption | omega | decide) ?_))
    exact hK
  · (repeat (first | refine zC_i (by first | assumption | decide | exact zr (by omega) (by omega) | exact zs (by omega) (by omega) | exact zd (by omega) (by omega)) ?_ | refine zIfT (by first | assumption | omega | decide) ?_ | refine zIfF (by first | assumption | omega | decide) ?_))
    exact x_has_l hb ht hv ha (tSz t).toNat 0 0 _ (by omega) (by omega) (by rw [Int.zero_add]; exact hK)
  · (repeat (first | refine zC_i (by first | assumption | decide | exact zr (by omega) (by omega) | exact zs (by omega) (by omega) | exact zd (by omega) (by omega)) ?_ | refine zIfT (by first | assumption | omega | decide) ?_ | refine zIfF (by first | assumption | omega | decide) ?_))
    exact x_und_l hb ht hv ha hc (tSz t).toNat 0 0 0 _ (by omega) (by omega) (by omega) hK
  · (repeat (first | refine zC_i (by first | assumption | decide | exact zr (by omega) (by omega) | exact zs (by omega) (by omega) | exact zd (by omega) (by omega)) ?_ | refine zIfT (by first | assumption | omega | decide) ?_ | refine zIfF (by first | assumption | omega | decide) ?_))
    refine x_nxt_l hb ht hv ha hc (tSz t).toNat 0 0 _ (by omega) (by omega) ?_
    rw [Int.zero_add, cG_all (h4 rfl)]
    exact hK
