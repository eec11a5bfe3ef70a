/-! LAYER 3: step 2, the grammar -/
theorem zSp_wb {d μ : Nat} {as : List Vl} {M : Mm} {K : Kt} (hb : zBl M) (h : zSp d μ as M (fun z M' => zBl M' → K z M')) : zSp d μ as M K := zSp_bl d _ _ _ _ _ hb (fun _ _ b q => q b) h
/-- a text was read: it is empty, a fault is told -/
theorem iX_rd {G : Mm} {ot : Option Tr} {B : List Bg} {J : Js} {vs : Int} {H : Int → Option Tr} {n tn fk fp k q : Int} {tA : Int → Int} {M M' : Mm} (h : iX G ot B J vs H n tn tA fk fp M) (f : ∀ c, (c = 0 ∨ c = 1 ∨ (4 ≤ c ∧ c ≤ 13) ∨ (24 ≤ c ∧ c ≤ 30) ∨ (38 ≤ c ∧ c ≤ 45) ∨ (54 ≤ c ∧ c ≤ 133) ∨ (138 ≤ c ∧ c ≤ 147)) → M' c = M c) (f1 : M' 2 1 = 0) (f6 : M' 2 6 = k) (f7 : M' 2 7 = q) : iX G ot B J vs H n 0 tA k q M' := by
  obtain ⟨q1, q2, q3, q4, q5, q6, q7, q8, q9, q10⟩ := h
  have e0 := f 0 (by omega)
  have e1 := f 1 (by omega)
  have e147 := f 147 (by omega)
  obtain ⟨j1, j2, j3, j4, j5⟩ := q4
  obtain ⟨a1, a2, a3, a4⟩ := q6
  refine ⟨xG_fr q1 fun c c1 c2 => f c (by omega), xTo_fr q2 (fun c c1 c2 => f c (by omega)), xBg_fr q3 fun c c1 c2 => f c (by omega), ⟨xTd_fr j1 (fun c c1 c2 => f c (by omega)) (by rw [f 138 (by omega)]), by rw [e147]; exact j2, by rw [e147]; exact j3, by rw [e147]; exact j4, by rw [e147]; exact j5⟩, by rw [e147]; exact q5, ⟨a1, by rw [e0]; exact a2, by unfold xPa; rw [e1]; exact a3, fun i i0 i1 => ?_⟩, f1, fun i i0 i1 => by omega, f6, f7⟩
  rw [e1]
  obtain ⟨qt, q54, qe⟩ := xPa_t a3 (i := i) i0 (by omega)
  unfold xT at qt
  exact xTo_fr (a4 i i0 i1) (fun c c1 c2 => f c (by omega))
theorem iM_rd {G : Mm} {ot : Option Tr} {B : List Bg} {J : Js} {vs : Int} {H : Int → Option Tr} {n l tn fk fp k q : Int} {tA : Int → Int} {M M' : Mm} (h : iM G ot B J vs H n l tn tA fk fp M) (f : ∀ c, (c = 156 ∨ c = 157 ∨ c = 158 ∨ c = 162 ∨ c = 163 ∨ c = 168 ∨ c = 170 ∨ c = 172 ∨ c = 174 ∨ (181 ≤ c ∧ c ≤ 185)) → M' c = M c) (ft : ∀ p, ((0 ≤ p ∧ p < 161) ∨ 483 ≤ p) → M' 165 p = M 165 p) (f0 : ∀ j, (j = 24 ∨ j = 25 ∨ j = 37 ∨ j = 47 ∨ j = 48 ∨ j = 49 ∨ j = 50 ∨ j = 51 ∨ j = 57) → M' 154 j = M 154 j) (f2 : M' 154 2 = 0) (f8 : M' 154 8 = k) (f9 : M' 154 9 = q) : iM G ot B J vs H n l 0 tA k q M' := by
  obtain ⟨h1, h2, h3, h4, h5, h6, h7, h8, h9, h10⟩ := h
  exact ⟨mG_fr h1 (f 156 (by omega)) (f 157 (by omega)) (f 158 (by omega)) (f 162 (by omega)) (f 163 (by omega)), mTo_fr h2 (fun i c1 c2 => ft i (by omega)), mBg_fr h3 (fun c hc => f c (by omega)) (f0 37 (by omega)), mJ_fr h4 (fun c c1 c2 => f c (by omega)) (fun j hj => f0 j (by omega)), by rw [f0 48 (by omega)]; exact h5, mA_fr h6 (fun p hp => ft p (by omega)) (f0 24 (by omega)) (f0 25 (by omega)), f2, fun i i0 i1 => by omega, f8, f9⟩
theorem mBs_00 {M : Mm} : ∀ B : List Bg, mBs M B 0 0 → M 170 0 = 0
  | [], h => h
  | (_, _, _) :: _, h => h.1
theorem st_2 : ∀ M : Mm, Inv M → zBl M → zSp 16 99 [.inr (.inr 0)] M (fun z M1 => zSp 16 169 [.inr (.inr 154)] M1 (fun z2 M2 => z2 = z ∧ Inv M2)) := by
  intro M hI hb
  obtain ⟨G, ot, B, J, vs, H, n, l, tn, tA, fk, fp, hP, hX, hM⟩ := hI
  obtain ⟨p1, p2, p3, p4, p5, p6, p7, p8⟩ := hP
  obtain ⟨a1, a2, a3, a4, a5, a6, a7, a8, a9, a10⟩ := hX
  have hX : iX G ot B J vs H n tn tA fk fp M := ⟨a1, a2, a3, a4, a5, a6, a7, a8, a9, a10⟩
  obtain ⟨w1, w2, w3, w4, w5, w6, w7, w8, w9, w10⟩ := hM
  have hM : iM G ot B J vs H n l tn tA fk fp M := ⟨w1, w2, w3, w4, w5, w6, w7, w8, w9, w10⟩
  have hT : tpOk tA tn := ⟨p7, p8⟩
  obtain ⟨g1, g2, g3⟩ := g0_k (M := M)
  -- a fault
  have bad : ∀ (M' : Mm) (k q : Int), (((gAl tA tn 25 (g0 M) 0 false).1 ≠ 0 ∧ k = (gAl tA tn 25 (g0 M) 0 false).1 ∧ q = (gAl tA tn 25 (g0 M) 0 false).2.1) ∨ ((gAl tA tn 25 (g0 M) 0 false).1 = 0 ∧ ¬ aF (gAl tA tn 25 (g0 M) 0 false).2.2.1 ∧ k = 5 ∧ q = tn)) → M' 2 6 = k → M' 2 7 = q → fr23 M M' → zSp 16 169 [.inr (.inr 154)] (zUp M' 2 1 0) (fun z2 M2 => z2 = -1 ∧ Inv M2) := by
    intro M' k q hh f6 f7 ff
    have fc : ∀ c, c ≠ 2 → (c < 14 ∨ 23 < c) → (zUp M' 2 1 0) c = M c := fun c c1 c2 => by rw [zUp_away c1, ff c c1 c2]
    refine m_gram (d := 7) (T := tA) (n := tn) (G0 := g0 M) hT (by rw [fc 154 (by decide) (by decide)]; exact w7) (fun i i0 i1 => by rw [fc 155 (by decide) (by decide)]; exact w8 i i0 i1) g1 g2 g3 ?_ ?_
    · intro M2 k2 q2 h2 u8 u9 ⟨v1, v2, v3, v4, v5⟩ ⟨v6, v7⟩
      have ek : k2 = k ∧ q2 = q := by
        rcases hh with ⟨x1, x2, x3⟩ | ⟨x1, x2, x3, x4⟩ <;> rcases h2 with ⟨y1, y2, y3⟩ | ⟨y1, y2, y3, y4⟩
        · exact ⟨by rw [x2, y2], by rw [x3, y3]⟩
        · exact absurd y1 x1
        · exact absurd x1 y1
        · exact ⟨by rw [x3, y3], by rw [x4, y4]⟩
      rw [ek.1] at u8
      rw [ek.2] at u9
      refine ⟨rfl, G, ot, B, J, vs, H, n, l, 0, tA, k, q, ⟨p1, p2, p3, p4, p5, p6, by omega, fun i i0 i1 => by omega⟩, ?_, ?_⟩
      · exact iX_rd hX (fun c hc => by rw [v1 c (by omega), fc c (by omega) (by omega)]) (by rw [v1 2 (by decide), zUp_here]) (by rw [v1 2 (by decide), zUp_there (by decide)]; exact f6) (by rw [v1 2 (by decide), zUp_there (by decide)]; exact f7)
      · refine iM_rd hM (fun c hc => ?_) (fun p _ => ?_) (fun j hj => ?_) v5 u8 u9
        · by_cases e : 166 ≤ c
          · rw [v2 c (.inr (by omega)), fc c (by omega) (by omega)]
          · rw [v6 c (by omega), fc c (by omega) (by omega)]
        · rw [v6 165 (by omega), fc 165 (by decide) (by decide)]
        · by_cases e : j = 24 ∨ j = 37 ∨ j = 57
          · rw [v7 j e, fc 154 (by decide) (by decide)]
          · rw [v4 j (by omega) (by omega) (by omega) (by omega), fc 154 (by decide) (by decide)]
    · intro M2 F e1 e2 e3
      exfalso
      rcases hh with ⟨x1, x2, x3⟩ | ⟨x1, x2, x3, x4⟩
      · exact x1 e1
      · exact x2 e3
  rw [me_99]
  refine zSp_wb hb ?_
  refine x_gram (d := 7) (T := tA) (n := tn) hT ⟨a7, a8⟩ ?_ ?_ ?_
  · intro M' e f6 f7 ff _
    refine zC_i (by decide) ⟨fun z => absurd rfl z, fun _ => ?_⟩
    exact bad M' _ _ (.inl ⟨e, rfl, rfl⟩) f6 f7 ff
  · intro M' e na f6 f7 ff _
    refine zC_i (by decide) ⟨fun z => absurd rfl z, fun _ => ?_⟩
    exact bad M' _ _ (.inr ⟨e, na, rfl, rfl⟩) f6 f7 ff
  · intro M' e gl af cl f6 f7 ff hb'
    refine zC_i (by decide) ⟨fun _ => ?_, fun z => absurd (by decide) z⟩
    refine x_copyG (d := 14) (zBl_up hb' (fun q => absurd q (by decide))) ?_
    intro M2 c1 c2 c3 c4 c5 c6
    rw [me_79]
    refine zC_i rfl ?_
    rw [me_0]
    refine zC_i rfl (zC_i rfl ?_)
    refine x_forget (d := 13) ?_
    intro M5 d1 d2
    -- the class's memory now
    have fc : ∀ c, c ≠ 0 → c ≠ 2 → c ≠ 24 → c ≠ 38 → c ≠ 138 → c ≠ 145 → (c < 4 ∨ 23 < c) → M5 c = M c := fun c h0 h2 h24 h38 h138 h145 hr => by
      rw [d2 c h138 h145, zUp_away h0, zUp_away h24, zUp_away h24, zUp_away h38, c1 c (by omega), zUp_away h2, ff c h2 (by omega)]
    have f4 : ∀ c, 4 ≤ c → c ≤ 13 → M5 c = M2 c := fun c x y => by
      rw [d2 c (by omega) (by omega), zUp_away (by omega), zUp_away (by omega), zUp_away (by omega), zUp_away (by omega)]
    have f2' : ∀ j, M5 2 j = (zUp M' 2 1 0) 2 j := fun j => by rw [d2 2 (by decide) (by decide), zUp_away (by decide), zUp_away (by decide), zUp_away (by decide), zUp_away (by decide), c1 2 (by decide)]
    have e40 : M5 4 0 = (gAl tA tn 25 (g0 M) 0 false).2.2.1 4 0 := by
      rw [f4 4 (by decide) (by decide), c2, zUp_away (by decide)]
      rw [show M' 14 = _ from cl.1 4 (by decide) (by decide)]
    rw [e40]
    refine m_gram (d := 7) (T := tA) (n := tn) (G0 := g0 M) hT (by rw [fc 154 (by decide) (by decide) (by decide) (by decide) (by decide) (by decide) (by decide)]; exact w7) (fun i i0 i1 => by rw [fc 155 (by decide) (by decide) (by decide) (by decide) (by decide) (by decide) (by decide)]; exact w8 i i0 i1) g1 g2 g3 ?_ ?_
    · intro M6 k q h2
      exfalso
      rcases h2 with ⟨y1, y2, y3⟩ | ⟨y1, y2, y3, y4⟩
      · exact y1 e
      · exact y2 af
    · intro M6 F _ _ _ hF h6 hw k56 k57 k58 r6 k62 k63 k165 k24 k37 k57' k8 k9 ⟨v1, v2, v3, v4, v5⟩
      generalize hGr : (gAl tA tn 25 (g0 M) 0 false).2.2.1 = Gr at *
      have gb := gl.1
      have hq : gEq Gr F (roL Gr 6 q0L).2 M2 := by
        have s14 : ∀ c, 4 ≤ c → c ≤ 11 → (zUp M' 2 1 0) (c + 10) = Gr c := fun c x y => by rw [zUp_away (by omega)]; exact cl.1 c x y
        have t14 : (zUp M' 2 1 0) 14 = Gr 4 := s14 4 (by decide) (by decide)
        have t15 : (zUp M' 2 1 0) 15 = Gr 5 := s14 5 (by decide) (by decide)
        have t16 : (zUp M' 2 1 0) 16 = Gr 6 := s14 6 (by decide) (by decide)
        have t17 : (zUp M' 2 1 0) 17 = Gr 7 := s14 7 (by decide) (by decide)
        have t18 : (zUp M' 2 1 0) 18 = Gr 8 := s14 8 (by decide) (by decide)
        have t19 : (zUp M' 2 1 0) 19 = Gr 9 := s14 9 (by decide) (by decide)
        have t20 : (zUp M' 2 1 0) 20 = Gr 10 := s14 10 (by decide) (by decide)
        have t21 : (zUp M' 2 1 0) 21 = Gr 11 := s14 11 (by decide) (by decide)
        refine ⟨⟨by rw [c2, t14], by rw [c3, t14]⟩, fun i i0 i1 => ?_, fun j j0 j1 => by rw [c5 j j0 j1, t20], fun s s0 s1 => by rw [(c6 s s0 s1).1, t21], fun s s0 s1 => ?_⟩
        · obtain ⟨x1, x2, x3, x4, x5⟩ := c4 i i0 i1
          rw [x1, x2, x3, x4, x5, t15, t16, t17, t18, t19]
          exact ⟨rfl, rfl, rfl, rfl, rfl⟩
        · obtain ⟨_, x2, x3⟩ := c6 s s0 (by omega)
          obtain ⟨y1, y2⟩ := cl.2 s s0 s1
          have nn := af s s0 s1
          rw [x2, x3, zUp_away (by decide), zUp_away (by decide), y1, if_neg nn, y2 nn, h6 s s0 (by omega)]
          exact ⟨rfl, rfl⟩
      have hn : ∀ s, 0 ≤ s → s < Gr 4 1 → F s ≠ 1000000 := fun s s0 s1 => by rw [← h6 s s0 (by omega)]; exact af s s0 s1
      have ok : gOk M2 := gEq_ok gl hq hF.1 hn hw
      refine ⟨rfl, M2, none, [], jNew J J.2.1, vs, H, 0, l, 0, tA, 0, -1, ⟨ok, fun t ht => absurd ht (by simp), ⟨by decide, by decide, fun x hx => absurd hx (by simp), ok.1.1.2.1⟩, ⟨fun i j _ hj => absurd hj (Nat.not_lt_zero j), by show (0 : Nat) ≤ 600; decide, fun i hi => absurd hi (Nat.not_lt_zero i), p4.2.2.2⟩, p5, fun i i0 i1 => by omega, by omega, fun i i0 i1 => by omega⟩, ?_, ?_⟩
      · have e147 : M6 147 = M 147 := by rw [v1 147 (by decide), fc 147 (by decide) (by decide) (by decide) (by decide) (by decide) (by decide) (by decide)]
        obtain ⟨b1, b2, b3, b4⟩ := a6
        have e1 : M6 1 = M 1 := by rw [v1 1 (by decide), fc 1 (by decide) (by decide) (by decide) (by decide) (by decide) (by decide) (by decide)]
        refine ⟨fun c x y => by rw [v1 c (by omega), f4 c x y], ?_, ⟨?_, ?_⟩, ⟨xTd_fr d1 (fun c x y => v1 c (by omega)) (by rw [v1 138 (by decide)]), by rw [e147]; exact a4.2.1, by rw [e147]; exact a4.2.2.1, by rw [e147]; exact a4.2.2.2.1, by rw [e147]; exact a4.2.2.2.2⟩, by rw [e147]; exact a5, ⟨by decide, ?_, by unfold xPa; rw [e1]; exact b3, fun i i0 i1 => by omega⟩, ?_, fun i i0 i1 => by omega, ?_, ?_⟩
        · show M6 38 1 = 0
          rw [v1 38 (by decide), d2 38 (by decide) (by decide), zUp_away (by decide), zUp_away (by decide), zUp_away (by decide), zUp_here]
        · show M6 24 0 = 0
          rw [v1 24 (by decide), d2 24 (by decide) (by decide), zUp_away (by decide), zUp_there (by decide), zUp_here]
        · show M6 24 3 = 0
          rw [v1 24 (by decide), d2 24 (by decide) (by decide), zUp_away (by decide), zUp_here]
        · rw [v1 0 (by decide), d2 0 (by decide) (by decide), zUp_here]
        · rw [v1 2 (by decide), f2', zUp_here]
        · rw [v1 2 (by decide), f2', zUp_there (by decide)]; exact f6
        · rw [v1 2 (by decide), f2', zUp_there (by decide)]; exact f7
      · have fm : ∀ c, 154 ≤ c → M5 c = M c := fun c h => fc c (by omega) (by omega) (by omega) (by omega) (by omega) (by omega) (by omega)
        have f170 : M6 170 = M 170 := by rw [v2 170 (.inr (by decide)), fm 170 (by decide)]
        have fj : ∀ j, 13 < j → j ≠ 24 → j ≠ 37 → j ≠ 57 → M6 154 j = M 154 j := fun j x y z t => by rw [v4 j x y z t, fm 154 (by decide)]
        refine ⟨⟨?_, ?_, fun l l0 l1 => ?_, fun s s0 s1 => ?_⟩, k165, ⟨k37, ?_⟩, ⟨mTd_nil k57', by rw [fj 47 (by decide) (by decide) (by decide) (by decide)]; exact w4.2.1, by rw [fj 49 (by decide) (by decide) (by decide) (by decide)]; exact w4.2.2.1, by rw [fj 50 (by decide) (by decide) (by decide) (by decide)]; exact w4.2.2.2.1, by rw [fj 51 (by decide) (by decide) (by decide) (by decide)]; exact w4.2.2.2.2⟩, by rw [fj 48 (by decide) (by decide) (by decide) (by decide)]; exact w5, ⟨by decide, w6.2.1, k24, by rw [fj 25 (by decide) (by decide) (by decide) (by decide)]; exact w6.2.2.2.1, fun i i0 i1 => by omega⟩, v5, fun i i0 i1 => by omega, k8, k9⟩
        · rw [k56 192 (by decide) (by decide), r6.2.1, hq.1.1]
        · rw [k56 193 (by decide) (by decide), r6.1.1, hq.1.2]
        · rw [hq.1.1] at l1
          obtain ⟨x1, x2, x3, x4, x5, x6⟩ := r6.2.2.1 l l0 l1
          obtain ⟨y5, y6, y7, y8, y9⟩ := hq.2.1 l l0 (by omega)
          have b8 := (gl.2.1 l l0 l1).2.2.2.1
          rw [k57 l l0 (by omega), k56 _ (by omega) (by omega), k56 _ (by omega) (by omega), k56 _ (by omega) (by omega), k56 _ (by omega) (by omega), y5, y6, y7, y8, y9]
          refine ⟨x1, x2, x3, x4, x5, fun i i0 i1 => ?_⟩
          rw [k56 _ (by omega) (by omega), show 8 * l + (4 + i) = 8 * l + 4 + i by omega, hq.2.2.1 _ (by omega) (by omega)]
          exact x6 i i0 i1
        · rw [hq.1.2] at s1
          obtain ⟨y1, y2⟩ := hq.2.2.2.2 s s0 s1
          rw [k58 s s0 (by omega), r6.1.2 s s0 s1, k62 s s0 (by omega), k63 s s0 s1, y1, y2, hq.2.2.2.1 s s0 (by omega)]
          exact ⟨rfl, rfl, rfl⟩
        · show M6 170 0 = 0
          rw [f170]
          exact mBs_00 B w3.2
