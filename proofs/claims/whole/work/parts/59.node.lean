/-! LAYER 3: node, holding, counts, verdict, run, tried, trace, often, row -/
theorem m_parts_l {d : Nat} {M : Mm} {K : Kt} {t : Tr} {k z : Int} (ht : mTr M 0 t) (h0 : 0 ≤ k) (hz : k + z ≤ tSz t) (hkz : tSz (tSub t k) = z) : ∀ (u : Tr) (l x2 : Int), tSz u ≤ z → tKids (fun c w _ _ _ => w = tSub t c) u k l → zWp (zSp (d + 1)) 259 K 6 [some (.inr (.inr 154)), some (.inl k), some (.inl (x2 + tKd u)), some (.inl (k + tSz u))] [] M → zWp (zSp (d + 1)) 259 K 6 [some (.inr (.inr 154)), some (.inl k), some (.inl x2), some (.inl (k + 1))] [] M
  | .var _, l, x2, h1, hA, hK => by
    rw [show x2 + tKd (.var _) = x2 by show x2 + 0 = x2; omega] at hK
    exact hK
  | .op f s, l, x2, h1, hA, hK => by
    have h1 : tSz f + tSz s ≤ z := h1
    have q1 := tSz_pos f
    have q2 := tSz_pos s
    have t5 := ht.2
    have e : s = tSub t (k + tSz f) := hA.2
    refine m_parts_l ht h0 hz hkz f l x2 (by omega) hA.1 ?_
    rw [fe_259_6]
    refine m_sizeOf (by decide) ht h0 (by omega) ?_
    rw [hkz]
    (repeat (first | (with_reducible refine zC_i ?hob ?_; case hob => first | assumption | decide | exact zr (by omega) (by omega) | exact zs (by omega) (by omega) | exact zd (by omega) (by omega)) | (with_reducible refine zIfT ?hob ?_; case hob => first | assumption | omega | decide) | (with_reducible refine zIfF ?hob ?_; case hob => first | assumption | omega | decide)))
    refine m_sizeOf (by decide) ht (by omega) (by omega) ?_
    rw [← e, Int.add_assoc k, Int.add_assoc x2]
    exact hK
theorem m_partsOf {d : Nat} {M : Mm} {K : Kt} {t : Tr} {k : Int} (ht : mTr M 0 t) (h0 : 0 ≤ k) (h1 : k < tSz t) (hK : K (tKd (tSub t k)) M) : zSp (d + 2) 259 [.inr (.inr 154), .inl k] M K := by
  have pb := tPl_b h0 h1
  have t5 := ht.2
  rw [me_259]
  refine m_parts_l ht h0 (by omega) rfl (tSub t k) (tLv t k) 0 (by omega) (tAll_kids _ _ _ (tAll_getS (tAll_put (Φ := fun k w _ _ _ => w = tSub t k) fun _ _ _ => rfl) h0 h1)) ?_
  rw [fe_259_6]
  refine m_sizeOf (by decide) ht h0 h1 ?_
  (repeat (first | (with_reducible refine zC_i ?hob ?_; case hob => first | assumption | decide | exact zr (by omega) (by omega) | exact zs (by omega) (by omega) | exact zd (by omega) (by omega)) | (with_reducible refine zIfT ?hob ?_; case hob => first | assumption | omega | decide) | (with_reducible refine zIfF ?hob ?_; case hob => first | assumption | omega | decide)))
  rw [Int.zero_add]
  exact hK
def aNode (G : Mm) (t : Tr) (k w : Int) : Int := if w = 0 then tNm (tSub t k) else if w = 1 then G 7 (tNm (tSub t k)) else if w = 2 then tLv t k else if w = 3 then tSz (tSub t k) else if w = 4 then tKd (tSub t k) else if w = 5 then tPa t k else if w = 6 then tQl t k else if w = 7 then fl (tStar G t k) else -2
theorem st_12 : zStep_12 Inv := by
  intro M hI a1 h1 a2 h2
  obtain ⟨G, ot, B, J, vs, H, n, l, tn, tA, fk, fp, hP, hX, hM⟩ := hI
  have hend : Inv (zUp M 154 0 0) := ⟨G, ot, B, J, vs, H, n, l, tn, tA, fk, fp, hP, iX_thr hX _ _, iM_thr hM 0⟩
  have ob := oSz_b hP.2.1
  have xn := xTo_n hX.2.1
  have mn := mTo_n hM.2.1
  have no : ¬ (0 ≤ a1 ∧ a1 < oSz ot) → zSp 16 260 [.inr (.inr 154), .inl a1, .inl a2] M (fun z2 M2 => z2 = -2 ∧ Inv M2) := by
    intro hc
    rw [me_260]
    refine zC_i h1 (m_many (by decide) ?_)
    rw [zUp_away (by decide), mn]
    refine zC_i (zr (by omega) (by omega)) (m_isIn (d := 14) (zr_to64 h1) (by decide) (zr64 (by omega) (by omega)) ?_)
    rw [if_neg (by omega)]
    exact zC_i (by decide) ⟨fun q => absurd rfl q, fun _ => ⟨rfl, hend⟩⟩
  rw [me_109, xn]
  refine zC_i h1 ⟨fun c => no (by omega), fun c => zC_i h1 (zC_i (zr (by omega) (by omega)) ⟨fun c2 => ?_, fun c2 => no (by omega)⟩)⟩
  match ot, hX, hM, xn, mn, ob, hP, c2 with
  | none, hX, hM, xn, mn, ob, hP, c2 =>
    have : a1 < 0 := c2
    omega
  | some t, hX, hM, xn, mn, ob, hP, c2 =>
    have c2 : a1 < tSz t := c2
    have hv := (hP.2.1 t rfl).2
    have ht : xTr M 38 t := hX.2.1
    have t5 := ht.2.1
    have xb38 : xT 38 := by unfold xT; decide
    have at1 := xTr_at ht (k := a1) (by omega) c2
    obtain ⟨e1, e2, e3, e4, e5, e6⟩ := at1
    have e1 : M 39 a1 = tNm (tSub t a1) := e1
    have e2 : M 40 a1 = tKd (tSub t a1) := e2
    have e3 : M 41 a1 = tPa t a1 := e3
    have e4 : M 42 a1 = tQl t a1 := e4
    have e5 : M 43 a1 = tLv t a1 := e5
    have e6 : M 44 a1 = tSz (tSub t a1) := e6
    have mt0 : mTr (zUp M 154 0 0) 0 t := (iM_thr hM 0).2.1
    have yes : zSp 16 260 [.inr (.inr 154), .inl a1, .inl a2] M (fun z2 M2 => z2 = aNode G t a1 a2 ∧ Inv M2) := by
      rw [me_260]
      refine zC_i h1 (m_many (by decide) ?_)
      rw [zUp_away (by decide), mn]
      have mn' : oSz (some t) = tSz t := rfl
      rw [mn']
      refine zC_i (zr (by omega) (by omega)) (m_isIn (d := 14) (zr_to64 h1) (by decide) (zr64 (by omega) (by omega)) ?_)
      rw [if_pos (by omega)]
      refine zC_i (by decide) ⟨fun _ => ?_, fun q => absurd (by decide) q⟩
      refine m_lays (d := 12) hP.1.1 (iM_thr hM 0).1 (by decide) mt0 hv ?_
      intro M2 f1 f2 f3
      have mt : mTr M2 0 t := mTr_fr mt0 (fun i _ _ => by rw [f2 165 (by decide) (by decide) (by decide) (by decide) (by decide)])
      have mg : mG G M2 := mG_fr (iM_thr hM 0).1 (f2 156 (by decide) (by decide) (by decide) (by decide) (by decide)) (f2 157 (by decide) (by decide) (by decide) (by decide) (by decide)) (f2 158 (by decide) (by decide) (by decide) (by decide) (by decide)) (f2 162 (by decide) (by decide) (by decide) (by decide) (by decide)) (f2 163 (by decide) (by decide) (by decide) (by decide) (by decide))
      have la := mLay_at f1 mt (k := a1) (by omega) c2
      have hend2 : Inv M2 := ⟨G, some t, B, J, vs, H, n, l, tn, tA, fk, fp, hP, iX_up (iX_thr hX 0 0) (fun c hc => f2 c (by omega) (by omega) (by omega) (by omega) (by omega)), iM_fr (iM_thr hM 0) (fun c hc => f2 c (by omega) (by omega) (by omega) (by omega) (by omega)) (fun p _ => by rw [f2 165 (by decide) (by decide) (by decide) (by decide) (by decide)]) (fun j hj => f3 j (by omega))⟩
      unfold aNode
      refine zC_i h2 ⟨⟨fun q => ?_, fun q => ?_, fun q => ?_, fun q => ?_, fun q => ?_, fun q => ?_, fun q => ?_, fun q => ?_, trivial⟩, fun q => ?_⟩
      · exact m_nameOf (d := 14) (by decide) mt (by omega) c2 ⟨by rw [if_pos q], hend2⟩
      · exact m_sortAt (d := 13) (by decide) hP.1.1 mg mt hv (by omega) c2 ⟨by rw [if_neg (by omega), if_pos q], hend2⟩
      · exact zC_i (zs (by omega) (by omega)) ⟨by rw [if_neg (by omega), if_neg (by omega), if_pos q]; exact la.2.1, hend2⟩
      · exact m_sizeOf (d := 14) (by decide) mt (by omega) c2 ⟨by rw [if_neg (by omega), if_neg (by omega), if_neg (by omega), if_pos q], hend2⟩
      · exact m_partsOf (d := 13) mt (by omega) c2 ⟨by rw [if_neg (by omega), if_neg (by omega), if_neg (by omega), if_neg (by omega), if_pos q], hend2⟩
      · exact zC_i (zs (by omega) (by omega)) ⟨by rw [if_neg (by omega), if_neg (by omega), if_neg (by omega), if_neg (by omega), if_neg (by omega), if_pos q]; exact la.1, hend2⟩
      · exact zC_i (zs (by omega) (by omega)) ⟨by rw [if_neg (by omega), if_neg (by omega), if_neg (by omega), if_neg (by omega), if_neg (by omega), if_neg (by omega), if_pos q]; exact la.2.2.1, hend2⟩
      · refine zC_i (zs (by omega) (by omega)) (m_flag la.2.2.2.1 ⟨?_, hend2⟩)
        rw [if_neg (by omega), if_neg (by omega), if_neg (by omega), if_neg (by omega), if_neg (by omega), if_neg (by omega), if_neg (by omega), if_pos q]
        by_cases hs : tStar G t a1
        · rw [fl_t hs]; exact la.2.2.2.2.mpr hs
        · rw [fl_f hs]
          rcases la.2.2.2.1 with e | e
          · exact e
          · exact absurd (la.2.2.2.2.mp e) hs
      · exact ⟨by rw [if_neg (by omega), if_neg (by omega), if_neg (by omega), if_neg (by omega), if_neg (by omega), if_neg (by omega), if_neg (by omega), if_neg (by omega)], hend2⟩
    unfold aNode at yes
    refine zC_i h2 ⟨⟨fun q => ?_, fun q => ?_, fun q => ?_, fun q => ?_, fun q => ?_, fun q => ?_, fun q => ?_, fun q => ?_, trivial⟩, fun q => ?_⟩
    · rw [if_pos q] at yes
      rw [e1]
      exact zC_i (zs (by omega) (by omega)) yes
    · rw [if_neg (by omega), if_pos q] at yes
      exact x_sortAt (d := 14) xb38 hP.1.1 hX.1 ht hv (by omega) c2 yes
    · rw [if_neg (by omega), if_neg (by omega), if_pos q] at yes
      rw [e5]
      exact zC_i (zs (by omega) (by omega)) yes
    · rw [if_neg (by omega), if_neg (by omega), if_neg (by omega), if_pos q] at yes
      rw [e6]
      exact zC_i (zs (by omega) (by omega)) yes
    · rw [if_neg (by omega), if_neg (by omega), if_neg (by omega), if_neg (by omega), if_pos q] at yes
      rw [e2]
      exact zC_i (zs (by omega) (by omega)) yes
    · rw [if_neg (by omega), if_neg (by omega), if_neg (by omega), if_neg (by omega), if_neg (by omega), if_pos q] at yes
      rw [e3]
      exact zC_i (zs (by omega) (by omega)) yes
    · rw [if_neg (by omega), if_neg (by omega), if_neg (by omega), if_neg (by omega), if_neg (by omega), if_neg (by omega), if_pos q] at yes
      rw [e4]
      exact zC_i (zs (by omega) (by omega)) yes
    · rw [if_neg (by omega), if_neg (by omega), if_neg (by omega), if_neg (by omega), if_neg (by omega), if_neg (by omega), if_neg (by omega), if_pos q] at yes
      refine x_canCut (d := 13) xb38 hP.1.1 hX.1 ht hv (by omega) c2 ?_
      rcases @fl_b (tStar G t a1) _ with e | e
      · rw [e] at yes ⊢
        exact zC_i (by decide) ⟨fun _ => yes, fun q => absurd rfl q⟩
      · rw [e] at yes ⊢
        exact zC_i (by decide) ⟨fun q => absurd q (by decide), fun _ => yes⟩
    · rw [if_neg (by omega), if_neg (by omega), if_neg (by omega), if_neg (by omega), if_neg (by omega), if_neg (by omega), if_neg (by omega), if_neg (by omega)] at yes
      exact yes
/-- after a look of the reference that leaves 176 and 189 -/
theorem Inv_l {G : Mm} {ot : Option Tr} {B : List Bg} {J : Js} {vs : Int} {H : Int → Option Tr} {n l tn fk fp : Int} {tA : Int → Int} {M M' : Mm} (hP : iP G ot B J vs H n tn tA) (hX : iX G ot B J vs H n tn tA fk fp M) (hM : iM G ot B J vs H n l tn tA fk fp M) (f : ∀ c, c ≠ 176 → c ≠ 189 → M' c = M c) : Inv M' :=
  ⟨G, ot, B, J, vs, H, n, l, tn, tA, fk, fp, hP, iX_up hX (fun c hc => f c (by omega) (by omega)), iM_fr hM (fun c hc => f c (by omega) (by omega)) (fun p _ => by rw [f 165 (by decide) (by decide)]) (fun j _ => by rw [f 154 (by decide) (by decide)])⟩
theorem x_bits {d : Nat} {M : Mm} {K : Kt} {o : Nat} {t : Tr} {B : List Bg} {L : Int} (ho : xT o) (hB : bCx L B) (hx : xBg M B) (ht : xTr M o t) (hv : tVal L t) (hK : K (eBs t B 0 0) M) : zSp (d + 2) 6 [.inr (.inr 24), .inr (.inr o)] M K :=
  x_bitsFor (B := B) (L := L) ho ht (tVal_le hB.2.2.2 t hv) hB.2.2.2 hx.2 hB.2.2.1 hB.1 hB.2.1 (by have := xBs_len B 0 0 hx.2; omega) hK
theorem m_bits {d : Nat} {M : Mm} {K : Kt} {p : Int} {t : Tr} {B : List Bg} {L : Int} (hp : 0 ≤ p ∧ p + 161 ≤ 2093) (hB : bCx L B) (hm : mBg M B) (ht : mTr M p t) (hv : tVal L t) (hK : ∀ M', (∀ c, c ≠ 176 → c ≠ 189 → M' c = M c) → K (eBs t B 0 0) M') : zSp (d + 6) 206 [.inr (.inr 154), .inl p] M K :=
  m_holdingOf (L := L) hp ht (tVal_le hB.2.2.2 t hv) hB.2.2.2 hm.1 hB.1 hm.2 hB.2.2.1 hB.2.1 hK
theorem st_13 : zStep_13 Inv := by
  intro M hI
  obtain ⟨G, ot, B, J, vs, H, n, l, tn, tA, fk, fp, hP, hX, hM⟩ := hI
  have hend : Inv (zUp M 154 0 0) := ⟨G, ot, B, J, vs, H, n, l, tn, tA, fk, fp, hP, iX_thr hX _ _, iM_thr hM 0⟩
  have ob := oSz_b hP.2.1
  have xn := xTo_n hX.2.1
  have mn := mTo_n hM.2.1
  have xb38 : xT 38 := by unfold xT; decide
  rw [me_110, xn]
  refine zC_i (zr (by omega) (by omega)) ⟨fun c => ?_, fun c => ?_⟩
  · match ot, hX, hM, xn, mn, ob, hP, c with
    | none, hX, hM, xn, mn, ob, hP, c => exact absurd rfl c
    | some t, hX, hM, xn, mn, ob, hP, c =>
      refine x_bits (d := 13) xb38 hP.2.2.1 hX.2.2.1 hX.2.1 (hP.2.1 t rfl).2 ?_
      rw [me_261]
      refine m_many (by decide) ?_
      rw [zUp_away (by decide), mn]
      refine zC_i (zr (by omega) (by omega)) ⟨fun _ => ?_, fun q => absurd c q⟩
      refine m_bits (d := 9) (by decide) hP.2.2.1 (iM_thr hM 0).2.2.1 (iM_thr hM 0).2.1 (hP.2.1 t rfl).2 ?_
      intro M2 g
      exact ⟨rfl, Inv_l hP (iX_thr hX 0 0) (iM_thr hM 0) g⟩
  · rw [me_261]
    refine m_many (by decide) ?_
    rw [zUp_away (by decide), mn]
    exact zC_i (zr (by omega) (by omega)) ⟨fun q => absurd q c, fun _ => ⟨rfl, hend⟩⟩
theorem st_14 : zStep_14 Inv := by
  intro M hI a1 h1 a2 h2 a3 h3
  obtain ⟨G, ot, B, J, vs, H, n, l, tn, tA, fk, fp, hP, hX, hM⟩ := hI
  have hend : Inv (zUp M 154 0 0) := ⟨G, ot, B, J, vs, H, n, l, tn, tA, fk, fp, hP, iX_thr hX _ _, iM_thr hM 0⟩
  have ob := oSz_b hP.2.1
  have gb := hP.1.1.1
  have xn := xTo_n hX.2.1
  have mn := mTo_n hM.2.1
  have xb38 : xT 38 := by unfold xT; decide
  have e40 : M 4 0 = G 4 0 := by rw [hX.1 4 (by decide) (by decide)]
  have hm1 : mG G (zUp M 154 0 0) := (iM_thr hM 0).1
  -- the reference as far as its count
  have hm : ∀ (K : Kt), (¬ (oSz ot ≠ 0 ∧ 0 ≤ a1 ∧ a1 ≤ 4 ∧ (2 ≤ a1 → 0 ≤ a2 ∧ a2 < G 4 0) ∧ (3 ≤ a1 → 0 ≤ a3 ∧ a3 < G 4 0)) → K (-1) (zUp M 154 0 0)) → ((oSz ot ≠ 0 ∧ 0 ≤ a1 ∧ a1 ≤ 4 ∧ (2 ≤ a1 → 0 ≤ a2 ∧ a2 < G 4 0) ∧ (3 ≤ a1 → 0 ≤ a3 ∧ a3 < G 4 0)) → zSp 15 203 [.inr (.inr 154), .inl 0, .inl a1, .inl a2, .inl a3] (zUp M 154 0 0) (fun z1 M1 => K z1 M1)) → zSp 16 262 [.inr (.inr 154), .inl a1, .inl a2, .inl a3] M K := by
    intro K k0 k1
    have h38 : oSz ot ≠ 0 → 0 ≤ a1 ∧ a1 ≤ 4 → (2 ≤ a1 → 0 ≤ a2 ∧ a2 < G 4 0) → zWp (zSp 15) 262 K 38 [some (.inr (.inr 154)), some (.inl a1), some (.inl a2), some (.inl a3)] [] (zUp M 154 0 0) := by
      intro q1 q2 q3
      rw [fe_262_38]
      refine zC_i h1 ⟨fun c => ?_, fun c => ?_⟩
      · rw [fe_262_53]
        exact k1 ⟨q1, q2.1, q2.2, q3, fun q => by omega⟩
      · refine m_isLine (d := 13) hP.1.1 hm1 h3 ?_
        by_cases c3 : 0 ≤ a3 ∧ a3 < G 4 0
        · rw [fl_t c3]
          refine zC_i (by decide) ⟨fun _ => ?_, fun q => absurd (by decide) q⟩
          rw [fe_262_53]
          exact k1 ⟨q1, q2.1, q2.2, q3, fun _ => c3⟩
        · rw [fl_f c3]
          exact zC_i (by decide) ⟨fun q => absurd rfl q, fun _ => k0 (fun w => c3 (w.2.2.2.2 (by omega)))⟩
    rw [me_262]
    refine m_many (by decide) ?_
    rw [zUp_away (by decide), mn]
    refine zC_i (zr (by omega) (by omega)) ⟨fun c => k0 (fun w => w.1 c), fun c => zC_i h1 (m_isIn (d := 14) (zr_to64 h1) (by decide) (by decide) ?_)⟩
    by_cases c1 : 0 ≤ a1 ∧ a1 ≤ 4
    · rw [if_pos c1]
      refine zC_i (by decide) ⟨fun q => absurd q (by decide), fun _ => zC_i h1 ⟨fun c2 => h38 c c1 (fun q => by omega), fun c2 => m_isLine (d := 13) hP.1.1 hm1 h2 ?_⟩⟩
      by_cases c3 : 0 ≤ a2 ∧ a2 < G 4 0
      · rw [fl_t c3]
        exact zC_i (by decide) ⟨fun q => absurd q (by decide), fun _ => h38 c c1 (fun _ => c3)⟩
      · rw [fl_f c3]
        exact zC_i (by decide) ⟨fun _ => k0 (fun w => c3 (w.2.2.2.1 (by omega))), fun q => absurd rfl q⟩
    · rw [if_neg c1]
      exact zC_i (by decide) ⟨fun _ => k0 (fun w => c1 ⟨w.2.1, w.2.2.1⟩), fun q => absurd rfl q⟩
  have no : ¬ (oSz ot ≠ 0 ∧ 0 ≤ a1 ∧ a1 ≤ 4 ∧ (2 ≤ a1 → 0 ≤ a2 ∧ a2 < G 4 0) ∧ (3 ≤ a1 → 0 ≤ a3 ∧ a3 < G 4 0)) → zSp 16 262 [.inr (.inr 154), .inl a1, .inl a2, .inl a3] M (fun z2 M2 => z2 = -1 ∧ Inv M2) := fun hc => hm _ (fun _ => ⟨rfl, hend⟩) (fun w => absurd w hc)
  have h65 : (oSz ot ≠ 0 ∧ 0 ≤ a1 ∧ a1 ≤ 4 ∧ (2 ≤ a1 → 0 ≤ a2 ∧ a2 < G 4 0) ∧ (3 ≤ a1 → 0 ≤ a3 ∧ a3 < G 4 0)) → zWp (zSp 15) 111 (fun z M1 => zSp 16 262 [.inr (.inr 154), .inl a1, .inl a2, .inl a3] M1 (fun z2 M2 => z2 = z ∧ Inv M2)) 65 [some (.inr (.inr 0)), some (.inl a1), some (.inl a2), some (.inl a3)] [] M := by
    intro w
    match ot, hX, hM, xn, mn, ob, hP, w, hm with
    | none, hX, hM, xn, mn, ob, hP, w, hm => exact absurd rfl w.1
    | some t, hX, hM, xn, mn, ob, hP, w, hm =>
      have hv24 := tVal_le hP.2.2.1.2.2.2 t (hP.2.1 t rfl).2
      rw [fe_111_65]
      refine x_countOf (d := 14) xb38 hX.2.1 hv24 ⟨w.2.1, w.2.2.1⟩ h2 h3 (fun q => (w.2.2.2.1 (by omega)).1) ?_
      refine hm _ (fun c => absurd w c) (fun _ => ?_)
      refine m_countOf (d := 12) (by decide) (iM_thr hM 0).2.1 hv24 ⟨w.2.1, w.2.2.1⟩ h2 h3 (fun q => (w.2.2.2.1 (by omega)).1) ?_
      intro M2 g
      exact ⟨rfl, Inv_l hP (iX_thr hX 0 0) (iM_thr hM 0) (fun c _ c2 => g c c2)⟩
  have h43 : oSz ot ≠ 0 → 0 ≤ a1 → a1 ≤ 4 → (2 ≤ a1 → 0 ≤ a2 ∧ a2 < G 4 0) → zWp (zSp 15) 111 (fun z M1 => zSp 16 262 [.inr (.inr 154), .inl a1, .inl a2, .inl a3] M1 (fun z2 M2 => z2 = z ∧ Inv M2)) 43 [some (.inr (.inr 0)), some (.inl a1), some (.inl a2), some (.inl a3)] [] M := by
    intro q1 q2 q3 q4
    rw [fe_111_43, e40]
    exact zC_i h1 ⟨fun c => h65 ⟨q1, q2, q3, q4, fun q => by omega⟩, fun c => zC_i h3 ⟨fun c2 => no (fun w => by have := w.2.2.2.2 (by omega); omega), fun c2 => zC_i h3 (zC_i (zr (by omega) (by omega)) ⟨fun c3 => h65 ⟨q1, q2, q3, q4, fun _ => by omega⟩, fun c3 => no (fun w => by have := w.2.2.2.2 (by omega); omega)⟩)⟩⟩
  rw [me_111, xn, e40]
  exact zC_i (zr (by omega) (by omega)) ⟨fun c => no (fun w => w.1 c), fun c => zC_i h1 ⟨fun c2 => no (fun w => by omega), fun c2 => zC_i h1 ⟨fun c3 => zC_i h1 ⟨fun c4 => h43 c (by omega) c3 (fun q => by omega), fun c4 => zC_i h2 ⟨fun c5 => no (fun w => by have := w.2.2.2.1 (by omega); omega), fun c5 => zC_i h2 (zC_i (zr (by omega) (by omega)) ⟨fun c6 => h43 c (by omega) c3 (fun _ => by omega), fun c6 => no (fun w => by have := w.2.2.2.1 (by omega); omega)⟩)⟩⟩, fun c3 => no (fun w => by omega)⟩⟩⟩
/-- a verdict is asked for on both sides: the invariant behind it -/
theorem Inv_ask {G : Mm} {ot : Option Tr} {B : List Bg} {J J' : Js} {vs : Int} {H : Int → Option Tr} {n tn fk fp : Int} {tA : Int → Int} {M M' : Mm} (hX : iX G ot B J vs H n tn tA fk fp M) (hj : xJ M' J') (f : ∀ c, (c < 138 ∨ 148 < c) → M' c = M c) (f3 : M' 147 3 = vs) : iX G ot B J' vs H n tn tA fk fp M' := by
  obtain ⟨q1, q2, q3, q4, q5, q6, q7, q8, q9, q10⟩ := hX
  obtain ⟨a1', a2', a3', a4'⟩ := q6
  have e1 := f 1 (by omega)
  have e2 := f 2 (by omega)
  refine ⟨xG_fr q1 fun c c1 c2 => f c (by omega), xTo_fr q2 (fun c c1 c2 => f c (by omega)), xBg_fr q3 fun c c1 c2 => f c (by omega), hj, f3, ⟨a1', by rw [f 0 (by omega)]; exact a2', by unfold xPa; rw [e1]; exact a3', fun i i0 i1 => ?_⟩, by rw [e2]; exact q7, by rw [f 3 (by omega)]; exact q8, by rw [e2]; exact q9, by rw [e2]; exact q10⟩
  rw [e1]
  obtain ⟨qt, q54, qe⟩ := xPa_t a3' (i := i) i0 (by omega)
  unfold xT at qt
  exact xTo_fr (a4' i i0 i1) (fun c c1 c2 => f c (by omega))
theorem Inv_mask {G : Mm} {ot : Option Tr} {B : List Bg} {J J' : Js} {vs : Int} {H : Int → Option Tr} {n l tn fk fp : Int} {tA : Int → Int} {M M' : Mm} (hM : iM G ot B J vs H n l tn tA fk fp M) (hj : mJ M' J') (f : ∀ c, c ≠ 154 → c ≠ 176 → c ≠ 189 → (c < 181 ∨ 186 < c) → M' c = M c) (f0 : ∀ j, j ≠ 47 → j ≠ 49 → j ≠ 50 → j ≠ 51 → j ≠ 57 → M' 154 j = M 154 j) : iM G ot B J' vs H n l tn tA fk fp M' := by
  obtain ⟨w1, w2, w3, w4, w5, w6, w7, w8, w9, w10⟩ := hM
  have e : ∀ c, c ≠ 154 → (c < 176) → M' c = M c := fun c c1 c2 => f c c1 (by omega) (by omega) (by omega)
  have e165 := e 165 (by decide) (by decide)
  exact ⟨mG_fr w1 (e 156 (by decide) (by decide)) (e 157 (by decide) (by decide)) (e 158 (by decide) (by decide)) (e 162 (by decide) (by decide)) (e 163 (by decide) (by decide)), mTo_fr w2 (fun i _ _ => by rw [e165]), mBg_fr w3 (fun c hc => e c (by omega) (by omega)) (f0 37 (by decide) (by decide) (by decide) (by decide) (by decide)), hj, by rw [f0 48 (by decide) (by decide) (by decide) (by decide) (by decide)]; exact w5, mA_fr w6 (fun p _ => by rw [e165]) (f0 24 (by decide) (by decide) (by decide) (by decide) (by decide)) (f0 25 (by decide) (by decide) (by decide) (by decide) (by decide)), by rw [f0 2 (by decide) (by decide) (by decide) (by decide) (by decide)]; exact w7, by rw [e 155 (by decide) (by decide)]; exact w8, by rw [f0 8 (by decide) (by decide) (by decide) (by decide) (by decide)]; exact w9, by rw [f0 9 (by decide) (by decide) (by decide) (by decide) (by decide)]; exact w10⟩
theorem st_15 : zStep_15 Inv := by
  intro M hI
  obtain ⟨G, ot, B, J, vs, H, n, l, tn, tA, fk, fp, hP, hX, hM⟩ := hI
  have hend : Inv (zUp M 154 0 0) := ⟨G, ot, B, J, vs, H, n, l, tn, tA, fk, fp, hP, iX_thr hX _ _, iM_thr hM 0⟩
  have ob := oSz_b hP.2.1
  have xn := xTo_n hX.2.1
  have mn := mTo_n hM.2.1
  have xb38 : xT 38 := by unfold xT; decide
  rw [me_112, xn]
  refine zC_i (zr (by omega) (by omega)) ⟨fun c => ?_, fun c => ?_⟩
  · match ot, hX, hM, xn, mn, ob, hP, c with
    | none, hX, hM, xn, mn, ob, hP, c => exact absurd rfl c
    | some t, hX, hM, xn, mn, ob, hP, c =>
      have hP' := hP
      obtain ⟨p1, p2, p3, p4, p5, p6, p7, p8⟩ := hP'
      have hv := (p2 t rfl).2
      have ja := jAsk_ok (vs := vs) (t := t) (why := 0) (wh := -1) p4 (p2 t rfl).1 hv
      refine x_ask (d := 11) xb38 p3 hX.2.2.1 hX.2.1 hv hX.2.2.2.1 p4 hX.2.2.2.2.1 (by omega) ?_
      intro M1 f1 f2 f3
      have hM1 := iM_up hM (M' := M1) (fun c hc => f2 c (by omega))
      have hX1 := Inv_ask hX f1 f2 f3
      rw [me_253]
      refine m_many (by decide) ?_
      rw [zUp_away (by decide), mTo_n hM1.2.1]
      refine zC_i (zr (by omega) (by omega)) ⟨fun _ => ?_, fun q => absurd c q⟩
      have hM2 := iM_thr hM1 0
      refine m_verdictOf (d := 7) (by decide) p3 hM2.2.2.1 hM2.2.1 hv hM2.2.2.2.1 p4 hM2.2.2.2.2.1 p5 ?_
      intro M2 g1 g2 g3
      exact ⟨rfl, G, some t, B, _, vs, H, n, l, tn, tA, fk, fp, ⟨p1, p2, p3, ja.1, p5, p6, p7, p8⟩, iX_up (iX_thr hX1 0 0) (fun c hc => g2 c (by omega) (by omega) (by omega) (by omega)), Inv_mask hM2 g1 g2 g3⟩
  · rw [me_253]
    refine m_many (by decide) ?_
    rw [zUp_away (by decide), mn]
    exact zC_i (zr (by omega) (by omega)) ⟨fun q => absurd q c, fun _ => ⟨rfl, hend⟩⟩
