/-! LAYER 3: the class builds a tree with one change -/
def sMk (k c : Int) : Int → Int := fun x => if x = k then c else -1
theorem bR_one {G : Mm} {H R : Tr} {N P N' P' : Int → Int} {k c z m above : Int} (hc : c = 0 ∨ c = 1 ∨ c = 2) (hm0 : c = 0 → m = 0) (hm1 : c ≠ 0 → m = tSz R)
    (hR : c ≠ 0 → N' k = tNm R ∧ P' k = tKd R ∧ ∀ l, tAll (fun p u _ _ _ => N' p = tNm u ∧ P' p = tKd u) R k l)
    (hN1 : ∀ x, x < k → N' x = N x) (hN2 : ∀ x, k + z ≤ x → N' (x + (m - z)) = N x) (hP1 : ∀ x, x < k → (c ≠ 0 ∨ x ≠ above) → P' x = P x) (hP2 : ∀ x, k + z ≤ x → P' (x + (m - z)) = P x) (hP3 : c = 0 → P' above = P above - 1) :
    ∀ (u : Tr) (i l : Int), i < k → k < i + tSz u → tAll (fun x w a _ _ => N x = tNm w ∧ P x = tKd w ∧ (x = k → tSz w = z ∧ a = above ∧ (c = 1 → R = gT G 6 (G 7 (tNm w))) ∧ (c = 2 → R = H))) u i l →
    tAll (fun x w _ _ _ => N' x = tNm w ∧ P' x = tKd w) (bR G (sMk k c) H u i) i l ∧ tSz (bR G (sMk k c) H u i) = tSz u + (m - z) ∧ tKd (bR G (sMk k c) H u i) = tKd u - (if c = 0 ∧ above = i then 1 else 0) ∧ i ≤ above ∧ above < k
  | .var n, i, l, h0, h1, hA => by
    have h1 : k < i + 1 := h1
    omega
  | .op f s, i, l, h0, h1, hA => by
    have h1 : k < i + (tSz f + tSz s) := h1
    have q1 := tSz_pos f
    have q2 := tSz_pos s
    obtain ⟨hf, ⟨hn, hp, he⟩, hs⟩ := hA
    by_cases c1 : k < i + tSz f
    · obtain ⟨g1, g2, g3, g4, g5⟩ := bR_one hc hm0 hm1 hR hN1 hN2 hP1 hP2 hP3 f i l h0 c1 hf
      obtain ⟨u, a, q, v, _, _, _, _, w5, w6⟩ := tAll_at f i l k h0 c1
      have wz := ((w6 _ hf).1.2.2 rfl).1
      have hmk : sMk k c (i + tSz f) = -1 := if_neg (by omega)
      have hid : bR G (sMk k c) H s (i + tSz f) = s := bR_id s _ (fun x d1 d2 => if_neg (by omega))
      rw [bR_n hmk, hid]
      refine ⟨⟨g1, ?_, ?_⟩, ?_, ?_, g4, g5⟩
      · rw [show i + tSz (bR G (sMk k c) H f i) = i + tSz f + (m - z) by omega]
        show N' (i + tSz f + (m - z)) = _ ∧ P' (i + tSz f + (m - z)) = _
        rw [hN2 _ (by omega), hP2 _ (by omega)]
        exact ⟨hn, hp⟩
      · rw [show i + tSz (bR G (sMk k c) H f i) = i + tSz f + (m - z) by omega]
        refine tAll_shift s (i + tSz f) (l + 1) ?_ hs
        intro x w a q v d1 d2 d3 hx
        rw [hN2 _ (by omega), hP2 _ (by omega)]
        exact ⟨hx.1, hx.2.1⟩
      · show tSz _ + tSz s = tSz f + tSz s + (m - z)
        omega
      · show tKd _ + 1 = tKd f + 1 - _
        omega
    · by_cases c2 : k = i + tSz f
      · subst c2
        obtain ⟨ez, ea, e1, e2⟩ := he rfl
        have hmk : sMk (i + tSz f) c (i + tSz f) = c := if_pos rfl
        have hid : bR G (sMk (i + tSz f) c) H f i = f := bR_id f _ (fun x d1 d2 => if_neg (by omega))
        have hfa : tAll (fun x w _ _ _ => N' x = tNm w ∧ P' x = tKd w) f i l := by
          refine tAll_mono f i l ?_ hf
          intro x w a q v d1 d2 d3 d4 d5 d6 hx
          have pw := tSz_pos w
          rw [hN1 x (by omega), hP1 x (by omega) (by omega)]
          exact ⟨hx.1, hx.2.1⟩
        by_cases cc : c = 0
        · have hm := hm0 cc
          rw [bR_0 (by omega), hid]
          refine ⟨hfa, ?_, ?_, by omega, by omega⟩
          · show tSz f = tSz f + tSz s + (m - z)
            omega
          · show tKd f = tKd f + 1 - _
            rw [if_pos ⟨cc, by omega⟩]
            omega
        · have hm := hm1 cc
          obtain ⟨r1, r2, r3⟩ := hR cc
          have hbr : bR G (sMk (i + tSz f) c) H (.op f s) i = .op f R := by
            rcases hc with hc | hc | hc
            · exact absurd hc cc
            · rw [bR_1 (by omega), hid, e1 hc]
            · rw [bR_2 (by omega), hid, e2 hc]
          rw [hbr]
          refine ⟨⟨hfa, ⟨r1, r2⟩, r3 _⟩, ?_, ?_, by omega, by omega⟩
          · show tSz f + tSz R = tSz f + tSz s + (m - z)
            omega
          · show tKd f + 1 = tKd f + 1 - _
            rw [if_neg (fun q => cc q.1)]
            omega
      · obtain ⟨g1, g2, g3, g4, g5⟩ := bR_one hc hm0 hm1 hR hN1 hN2 hP1 hP2 hP3 s (i + tSz f) (l + 1) (by omega) (by omega) hs
        have hmk : sMk k c (i + tSz f) = -1 := if_neg (by omega)
        have hid : bR G (sMk k c) H f i = f := bR_id f _ (fun x d1 d2 => if_neg (by omega))
        rw [bR_n hmk, hid]
        refine ⟨⟨?_, ?_, g1⟩, ?_, ?_, by omega, g5⟩
        · refine tAll_mono f i l ?_ hf
          intro x w a q v d1 d2 d3 d4 d5 d6 hx
          have pw := tSz_pos w
          rw [hN1 x (by omega), hP1 x (by omega) (by omega)]
          exact ⟨hx.1, hx.2.1⟩
        · show N' (i + tSz f) = _ ∧ P' (i + tSz f) = _
          rw [hN1 _ (by omega), bR_nm, g3]
          refine ⟨hn, ?_⟩
          by_cases cc : c = 0 ∧ above = i + tSz f
          · rw [if_pos cc, ← cc.2, hP3 cc.1, cc.2, hp]
          · rw [if_neg cc, hP1 _ (by omega) (by omega), hp]
            omega
        · show tSz f + tSz _ = tSz f + tSz s + (m - z)
          omega
        · show tKd f + 1 = tKd f + 1 - _
          rw [if_neg (by omega)]
          omega
/-- a change that can be: c 0 CUT, 1 LEAST, 2 HOIST j -/
def sOk (G : Mm) (t : Tr) (k c j : Int) : Prop := 0 ≤ k ∧ k < tSz t ∧ ((c = 0 ∧ tStar G t k) ∨ (c = 1 ∧ tLst G t k) ∨ (c = 2 ∧ k < j ∧ j < k + tSz (tSub t k)))
def sTr (G : Mm) (t : Tr) (k c j : Int) : Tr := bT G (sMk k c) (tSub t (if c = 2 then j else 0)) t
theorem sOk_mk {G : Mm} {t : Tr} {k c j : Int} (h : sOk G t k c j) : bMk G (sMk k c) (tSub t (if c = 2 then j else 0)) 0 t 0 0 0 ∧ tAll (bMk G (sMk k c) (tSub t (if c = 2 then j else 0))) t 0 0 ∧ sMk k c 0 ≠ 0 ∧ (0 ≤ (if c = 2 then j else 0) ∧ (if c = 2 then j else 0) < tSz t) ∧ (c = 2 → tSz (tSub t j) < tSz (tSub t k)) := by
  obtain ⟨h0, h1, h2⟩ := h
  have q1 := tSz_pos t
  have pb := tPl_b h0 h1
  have hz : c = 2 → 0 ≤ j ∧ j < tSz t ∧ tSz (tSub t j) < tSz (tSub t k) := by
    intro hc
    have hj : k < j ∧ j < k + tSz (tSub t k) := by omega
    have e := tSub_sub t k (j - k) h0 h1 (by omega) (by omega)
    rw [show k + (j - k) = j by omega] at e
    have pb2 := tPl_b (t := tSub t k) (k := j - k) (by omega) (by omega)
    rw [e] at pb2
    omega
  have gen : ∀ x, 0 ≤ x → x < tSz t → bMk G (sMk k c) (tSub t (if c = 2 then j else 0)) x (tSub t x) 0 0 0 := by
    intro x x0 x1
    unfold bMk sMk
    by_cases c1 : x = k
    · subst c1
      rw [if_pos rfl]
      refine ⟨by omega, fun hc => ?_, fun hc => ?_⟩
      · rcases h2 with h2 | h2 | h2
        · omega
        · have := h2.2; omega
        · omega
      · rw [if_pos hc]
        have := hz hc
        omega
    · rw [if_neg c1]
      exact ⟨.inl rfl, fun q => absurd q (by decide), fun q => absurd q (by decide)⟩
  refine ⟨?_, tAll_put fun x c1 c2 => gen x (by omega) c2, ?_, ?_, fun hc => (hz hc).2.2⟩
  · have := gen 0 (by omega) (by omega)
    rw [tSub_0] at this
    exact this
  · unfold sMk
    by_cases c1 : (0 : Int) = k
    · rw [if_pos c1]
      intro cc
      rcases h2 with h2 | h2 | h2
      · have := h2.2.1
        rw [← c1, tPa_0] at this
        omega
      · omega
      · omega
    · rw [if_neg c1]; decide
  · split
    · have := hz (by assumption); omega
    · omega
theorem sTr_sz {G : Mm} (hg : gOk G) {t : Tr} {k c j : Int} (hv : tVal (G 4 0) t) (h : sOk G t k c j) : tSz (sTr G t k c j) ≤ tSz t ∧ tVal (G 4 0) (sTr G t k c j) := by
  have m := sOk_mk h
  exact ⟨bT_sz hg hv m.1 m.2.1, bT_val hg hv (tVal_sub t _ hv)⟩
theorem x_bs_end {d : Nat} {M G : Mm} {K : Kt} {t : Tr} {k c j m : Int} (ht : xTr M 38 t) (hc : c = 0 ∨ c = 1 ∨ c = 2) (h0 : 0 ≤ k) (h1 : k < tSz t) (hck : c = 0 → 0 < k) (szs : tSz (sTr G t k c j) ≤ tSz t)
    (hK : ∀ M', xTr M' 46 (sTr G t k c j) → (∀ c, (c < 46 ∨ 54 ≤ c) → M' c = M c) → K 0 M') (M2 : Mm) (R : Tr) (u5 : Option Vl) (hm0 : c = 0 → m = 0) (hm1 : c ≠ 0 → m = tSz R) (hR1 : c = 1 → R = gT G 6 (G 7 (tNm (tSub t k)))) (hR2 : c = 2 → R = tSub t j) (hf : ∀ c, c ≠ 46 → c ≠ 47 → c ≠ 48 → M2 c = M c) (hn : M2 46 1 = k + m) (hr : c ≠ 0 → ∀ p, 0 ≤ p → p < tSz R → M2 47 (k + p) = tNm (tSub R p) ∧ M2 48 (k + p) = tKd (tSub R p)) (hx1 : ∀ x, x < k → 0 ≤ x → M2 47 x = M 39 x) (hx2 : ∀ x, x < k → 0 ≤ x → (c ≠ 0 ∨ x ≠ tPa t k) → M2 48 x = M 40 x) (hx3 : c = 0 → M2 48 (tPa t k) = M 40 (tPa t k) - 1) (hsz : m ≤ tSz (tSub t k)) : zWp (zSp (d + 3)) 90 K 76 [some (.inr (.inr 46)), some (.inr (.inr 38)), some (.inl c), some (.inl k), some (.inl j), u5] [] M2 := by
  have q1 := tSz_pos t
  have t1 := ht.1.1
  have t5 := ht.2.1
  have xb46 : xT 46 := by unfold xT; decide
  have xb38 : xT 38 := by unfold xT; decide
  have pb := tPl_b h0 h1
  have eat := xTr_at ht h0 h1
  have ez : M 44 k = tSz (tSub t k) := eat.2.2.2.2.2
  have pR := tSz_pos R
  have hmn : 0 ≤ m := by
    by_cases cc : c = 0
    · have := hm0 cc; omega
    · have := hm1 cc; omega
  rw [fe_90_76, hf 44 (by decide) (by decide) (by decide), hf 38 (by decide) (by decide) (by decide), ez, t1]
  simp only [show zObj 46 9 = true from rfl, zC_t]
  (repeat (first | refine zC_i (by first | assumption | decide | exact zr (by omega) (by omega) | exact zs (by omega) (by omega) | exact zd (by omega) (by omega)) ?_ | refine zIfT (by first | assumption | omega | decide) ?_ | refine zIfF (by first | assumption | omega | decide) ?_))
  refine x_addAll xb46 xb38 (by decide) hn (by omega) (by omega) (by omega) (by omega) (by omega) ?_
  intro M3 f1 f2 f3 f4 f5
  have f3 : ∀ i, M3 47 i = if k + m ≤ i ∧ i < k + m + (tSz t - (k + tSz (tSub t k))) then M 39 (k + tSz (tSub t k) + (i - (k + m))) else M2 47 i := by
    rw [← hf 39 (by decide) (by decide) (by decide)]; exact f3
  have f4 : ∀ i, M3 48 i = if k + m ≤ i ∧ i < k + m + (tSz t - (k + tSz (tSub t k))) then M 40 (k + tSz (tSub t k) + (i - (k + m))) else M2 48 i := by
    rw [← hf 40 (by decide) (by decide) (by decide)]; exact f4
  have hdone : xNP M3 46 (sTr G t k c j) → zSp (d + 3) 84 [.inr (.inr 46)] M3 (fun _ M2 => K 0 M2) := by
    intro hnp
    refine x_settle xb46 hnp (by omega) ?_
    intro M4 w1 w2
    refine hK M4 w1 ?_
    intro c c1
    rw [w2 c (by omega), f5 c (by omega) (by omega) (by omega), hf c (by omega) (by omega) (by omega)]
  refine hdone ?_
  clear hdone hK
  by_cases ck : k = 0
  · subst ck
    have cc : c ≠ 0 := by
      intro cc
      have := hck cc
      omega
    have hm := hm1 cc
    rw [tSub_0] at hR1 f1 f3 f4
    have eT : sTr G t 0 c j = R := by
      unfold sTr bT sMk
      rw [if_pos rfl]
      by_cases c1 : c = 1
      · rw [if_pos c1, hR1 c1]
      · have c2 : c = 2 := by omega
        rw [if_neg c1, if_pos c2, if_pos c2, hR2 c2]
    rw [eT]
    refine xNP_of (by omega) ?_
    intro p p0 p1
    have := hr cc p p0 p1
    rw [Int.zero_add] at this
    show M3 47 p = _ ∧ M3 48 p = _
    rw [f3, f4, if_neg (by omega), if_neg (by omega)]
    exact this
  · have eT : sTr G t k c j = bR G (sMk k c) (tSub t (if c = 2 then j else 0)) t 0 := by
      unfold sTr bT
      have : sMk k c 0 = -1 := if_neg (by omega)
      rw [if_neg (by omega), if_neg (by omega)]
    have pa := pb.2.2.1 (by omega)
    have one := bR_one (G := G) (H := tSub t (if c = 2 then j else 0)) (R := R) (N := M 39) (P := M 40) (N' := fun x => if x < 0 then M 39 x else if k + m + (tSz t - (k + tSz (tSub t k))) ≤ x then M 39 (x - (m - tSz (tSub t k))) else M3 47 x) (P' := fun x => if x < 0 then M 40 x else if k + m + (tSz t - (k + tSz (tSub t k))) ≤ x then M 40 (x - (m - tSz (tSub t k))) else M3 48 x) (k := k) (c := c) (z := tSz (tSub t k)) (m := m) (above := tPa t k) hc hm0 hm1 ?_ ?_ ?_ ?_ ?_ ?_ t 0 0 (by omega) (by omega) ?_
    · obtain ⟨g1, g2, g3, g4, g5⟩ := one
      rw [eT]
      have hr0 := xTr_at ht (k := 0) (by omega) (by omega)
      rw [tSub_0] at hr0
      have hr1 : M 39 0 = tNm t := hr0.1
      have hr2 : M 40 0 = tKd t := hr0.2.1
      have m1 : M3 46 1 = tSz (bR G (sMk k c) (tSub t (if c = 2 then j else 0)) t 0) := by rw [g2, f1]; omega
      refine ⟨m1, ?_, ?_, ?_⟩
      · show M3 47 0 = _
        rw [f3, if_neg (by omega), hx1 0 (by omega) (by omega), bR_nm]
        exact hr1
      · show M3 48 0 = _
        rw [f4, if_neg (by omega), g3]
        by_cases ca : c = 0 ∧ tPa t k = 0
        · rw [if_pos ca]
          have := hx3 ca.1
          rw [ca.2] at this
          rw [this, hr2]
        · rw [if_neg ca, hx2 0 (by omega) (by omega) (by omega), hr2]
          omega
      · refine tAll_mono _ 0 0 ?_ g1
        rw [g2]
        intro x w a q v d1 d2 d3 d4 d5 d6 hx
        have pw := tSz_pos w
        rw [if_neg (by omega), if_neg (by omega), if_neg (by omega), if_neg (by omega)] at hx
        exact hx
    · intro cc
      have hr' := hr cc
      have hm := hm1 cc
      have at' : ∀ p, 0 ≤ p → p < tSz R → M3 47 (k + p) = tNm (tSub R p) ∧ M3 48 (k + p) = tKd (tSub R p) := by
        intro p p0 p1
        rw [f3, f4, if_neg (by omega), if_neg (by omega)]
        exact hr' p p0 p1
      have hp : ∀ p, 0 ≤ p → p < tSz R → ¬ (k + p < 0) ∧ ¬ (k + m + (tSz t - (k + tSz (tSub t k))) ≤ k + p) := by
        intro p p0 p1
        omega
      have a0 := at' 0 (by omega) (by omega)
      have h0' := hp 0 (by omega) (by omega)
      rw [tSub_0, Int.add_zero] at a0
      rw [Int.add_zero] at h0'
      refine ⟨?_, ?_, fun l => tAll_lay ?_⟩
      · show (if _ then _ else if _ then _ else _) = _
        rw [if_neg h0'.1, if_neg h0'.2]; exact a0.1
      · show (if _ then _ else if _ then _ else _) = _
        rw [if_neg h0'.1, if_neg h0'.2]; exact a0.2
      · intro p w a q v p0 p1 e
        have a1 := at' p (by omega) p1
        have h1' := hp p (by omega) p1
        rw [Int.add_comm p k]
        show (if _ then _ else if _ then _ else _) = _ ∧ (if _ then _ else if _ then _ else _) = _
        rw [if_neg h1'.1, if_neg h1'.2, if_neg h1'.1, if_neg h1'.2, e]
        exact a1
    · intro x hx
      show (if _ then _ else if _ then _ else _) = _
      by_cases c0 : x < 0
      · rw [if_pos c0]
      · rw [if_neg c0, if_neg (by omega), f3, if_neg (by omega), hx1 x hx (by omega)]
    · intro x hx
      show (if _ then _ else if _ then _ else _) = _
      rw [if_neg (by omega)]
      by_cases c0 : tSz t ≤ x
      · rw [if_pos (by omega), Int.add_sub_cancel]
      · rw [if_neg (by omega), f3, if_pos (by omega), show k + tSz (tSub t k) + (x + (m - tSz (tSub t k)) - (k + m)) = x by omega]
    · intro x hx hor
      show (if _ then _ else if _ then _ else _) = _
      by_cases c0 : x < 0
      · rw [if_pos c0]
      · rw [if_neg c0, if_neg (by omega), f4, if_neg (by omega), hx2 x hx (by omega) hor]
    · intro x hx
      show (if _ then _ else if _ then _ else _) = _
      rw [if_neg (by omega)]
      by_cases c0 : tSz t ≤ x
      · rw [if_pos (by omega), Int.add_sub_cancel]
      · rw [if_neg (by omega), f4, if_pos (by omega), show k + tSz (tSub t k) + (x + (m - tSz (tSub t k)) - (k + m)) = x by omega]
    · intro cc
      show (if _ then _ else if _ then _ else _) = (M 40 _) - 1
      rw [if_neg (by omega), if_neg (by omega), f4, if_neg (by omega), hx3 cc]
    · refine tAll_put fun x c1 c2 => ?_
      have ea := xTr_at ht (k := x) (by omega) c2
      refine ⟨ea.1, ea.2.1, fun e => ?_⟩
      subst e
      refine ⟨rfl, rfl, hR1, fun hc => ?_⟩
      rw [if_pos hc]; exact hR2 hc
theorem x_becomeSingle {d : Nat} {M G : Mm} {K : Kt} {t : Tr} {k c j : Int} (hg : gOk G) (hx : xG G M) (ht : xTr M 38 t) (hv : tVal (G 4 0) t) (hs : sOk G t k c j)
    (hK : ∀ M', xTr M' 46 (sTr G t k c j) → (∀ c, (c < 46 ∨ 54 ≤ c) → M' c = M c) → K 0 M') : zSp (d + 4) 90 [.inr (.inr 46), .inr (.inr 38), .inl c, .inl k, .inl j] M K := by
  have q1 := tSz_pos t
  have t1 := ht.1.1
  have t5 := ht.2.1
  have xb46 : xT 46 := by unfold xT; decide
  have xb38 : xT 38 := by unfold xT; decide
  have hzj := (sOk_mk hs).2.2.2.2
  obtain ⟨h0, h1, h2⟩ := id hs
  have pb := tPl_b h0 h1
  have eat := xTr_at ht h0 h1
  have ep : M 41 k = tPa t k := eat.2.2.1
  have ez : M 44 k = tSz (tSub t k) := eat.2.2.2.2.2
  rw [me_90]
  simp only [show zObj 46 9 = true from rfl, zC_t]
  rw [me_79]
  simp only [show zObj 46 9 = true from rfl, zC_t]
  refine x_addAll xb46 xb38 (by decide) (n := 0) rfl (by omega) (by omega) (by omega) (by omega) (by omega) ?_
  intro M2 f1 f2 f3 f4 f5
  have f3 : ∀ i, M2 47 i = if 0 ≤ i ∧ i < 0 + (k - 0) then M 39 (0 + (i - 0)) else M 47 i := f3
  have f4 : ∀ i, M2 48 i = if 0 ≤ i ∧ i < 0 + (k - 0) then M 40 (0 + (i - 0)) else M 48 i := f4
  have f5' : ∀ c, c ≠ 46 → c ≠ 47 → c ≠ 48 → M2 c = M c := fun c c1 c2 c3 => by rw [f5 c c1 c2 c3, zUp_away c1]
  have g3 : ∀ x, x < k → 0 ≤ x → M2 47 x = M 39 x := fun x c1 c2 => by rw [f3, if_pos (by omega), show 0 + (x - 0) = x by omega]
  have g4 : ∀ x, x < k → 0 ≤ x → M2 48 x = M 40 x := fun x c1 c2 => by rw [f4, if_pos (by omega), show 0 + (x - 0) = x by omega]
  rcases h2 with h2 | h2 | h2
  · obtain ⟨hc, hst⟩ := h2
    subst hc
    rw [f5' 41 (by decide) (by decide) (by decide), ep]
    have pa := hst.1
    simp only [show zArr (46 + 2) 0 = true from rfl, show zLen (46 + 2) = 80 from rfl, zC_t]
    refine zC_i (by decide) (zIfF (by decide) (zC_i (zs (by omega) (by omega)) (zC_i (zr (by omega) (by omega)) (zIfF (by omega) (zC_i (zs (by omega) (by omega)) (zC_i (zs (by omega) (by omega)) ?_))))))
    rw [fe_90_39]
    have z48 : (46 : Nat) + 2 = 48 := rfl
    rw [z48]
    refine x_bs_end (m := 0) ht (.inl rfl) h0 h1 (fun _ => by omega) (sTr_sz hg hv hs).1 hK _ (.var 0) _ (fun _ => rfl) (fun q => absurd rfl q) (fun q => absurd q (by decide)) (fun q => absurd q (by decide)) ?_ ?_ (fun q => absurd rfl q) ?_ ?_ ?_ (by omega)
    · intro c c1 c2 c3
      rw [zUp_away c3, f5' c c1 c2 c3]
    · rw [zUp_away (by decide)]; omega
    · intro x c1 c2
      rw [zUp_away (by decide)]; exact g3 x c1 c2
    · intro x c1 c2 hor
      rw [zUp_there (by omega)]; exact g4 x c1 c2
    · intro _
      rw [zUp_here, g4 _ (by omega) (by omega)]
  · obtain ⟨hc, hls⟩ := h2
    subst hc
    have hx2 : xG G M2 := xG_fr hx fun c c1 c2 => f5' c (by omega) (by omega) (by omega)
    have ht2 : xTr M2 38 t := xTr_fr ht fun c c1 c2 => f5' c (by omega) (by omega) (by omega)
    have gs := gLn_s hg.1 hv k
    have nb := tNm_b hv k
    have gsz := gT_sz hg nb
    refine zC_i (by decide) (zIfT (by decide) (zC_i (by decide) (zIfF (by decide) ?_)))
    refine x_sortAt xb38 hg.1 hx2 ht2 hv h0 h1 ?_
    refine x_addLeast xb46 hg hx2 gs.1 gs.2 (n := k) (by omega) (by omega) (by omega) ?_
    intro M3 e1 e2 e3 e4 e5
    have e3 : ∀ p, M3 47 p = if k ≤ p ∧ p < k + G 12 (G 7 (tNm (tSub t k))) then tNm (tSub (gT G 6 (G 7 (tNm (tSub t k)))) (p - k)) else M2 47 p := e3
    have e4 : ∀ p, M3 48 p = if k ≤ p ∧ p < k + G 12 (G 7 (tNm (tSub t k))) then tKd (tSub (gT G 6 (G 7 (tNm (tSub t k)))) (p - k)) else M2 48 p := e4
    refine x_bs_end (m := tSz (gT G 6 (G 7 (tNm (tSub t k))))) ht (.inr (.inl rfl)) h0 h1 (fun q => absurd q (by decide)) (sTr_sz hg hv hs).1 hK _ (gT G 6 (G 7 (tNm (tSub t k)))) _ (fun q => absurd q (by decide)) (fun _ => rfl) (fun _ => rfl) (fun q => absurd q (by decide)) ?_ ?_ ?_ ?_ ?_ (fun q => absurd q (by decide)) (by omega)
    · intro c c1 c2 c3
      rw [e5 c c1 c2 c3, f5' c c1 c2 c3]
    · rw [e1, gsz.1]
    · intro _ p p0 p1
      rw [e3, e4, if_pos (by omega), if_pos (by omega), show k + p - k = p by omega]
      exact ⟨rfl, rfl⟩
    · intro x c1 c2
      rw [e3, if_neg (by omega)]; exact g3 x c1 c2
    · intro x c1 c2 hor
      rw [e4, if_neg (by omega)]; exact g4 x c1 c2
  · obtain ⟨hc, hj1, hj2⟩ := h2
    subst hc
    have hzj := hzj rfl
    have pj := tPl_b (t := t) (k := j) (by omega) (by omega)
    have ej := xTr_at ht (k := j) (by omega) (by omega)
    have ejz : M2 44 j = tSz (tSub t j) := by
      rw [f5' 44 (by decide) (by decide) (by decide)]; exact ej.2.2.2.2.2
    rw [ejz]
    refine zC_i (by decide) (zIfT (by decide) (zC_i (by decide) (zIfT (by decide) (zC_i (zs (by omega) (by omega)) ?_))))
    refine x_addAll xb46 xb38 (by decide) (n := k) (by omega) (by omega) (by omega) (by omega) (by omega) (by omega) ?_
    intro M3 e1 e2 e3 e4 e5
    have e3 : ∀ p, M3 47 p = if k ≤ p ∧ p < k + (j + tSz (tSub t j) - j) then M 39 (j + (p - k)) else M2 47 p := by
      rw [← f5' 39 (by decide) (by decide) (by decide)]; exact e3
    have e4 : ∀ p, M3 48 p = if k ≤ p ∧ p < k + (j + tSz (tSub t j) - j) then M 40 (j + (p - k)) else M2 48 p := by
      rw [← f5' 40 (by decide) (by decide) (by decide)]; exact e4
    refine x_bs_end (m := tSz (tSub t j)) ht (.inr (.inr rfl)) h0 h1 (fun q => absurd q (by decide)) (sTr_sz hg hv hs).1 hK _ (tSub t j) _ (fun q => absurd q (by decide)) (fun _ => rfl) (fun q => absurd q (by decide)) (fun _ => rfl) ?_ ?_ ?_ ?_ ?_ (fun q => absurd q (by decide)) (by omega)
    · intro c c1 c2 c3
      rw [e5 c c1 c2 c3, f5' c c1 c2 c3]
    · rw [e1]; omega
    · intro _ p p0 p1
      have es := tSub_sub t j p (by omega) (by omega) p0 p1
      have ea := xTr_at ht (k := j + p) (by omega) (by omega)
      rw [e3, e4, if_pos (by omega), if_pos (by omega), show j + (k + p - k) = j + p by omega, es]
      exact ⟨ea.1, ea.2.1⟩
    · intro x c1 c2
      rw [e3, if_neg (by omega)]; exact g3 x c1 c2
    · intro x c1 c2 hor
      rw [e4, if_neg (by omega)]; exact g4 x c1 c2
