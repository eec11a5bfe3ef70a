/-! LAYER 3: bugs' text, read by the class -/
theorem bNm_b {L : Int} {B : List Bg} (h : bOk L B) {i : Int} (h0 : 0 ≤ i) (h1 : i < (B.length : Int)) : 0 ≤ bNm B i ∧ bNm B i < 1073741824 := by
  unfold bNm
  rw [List.getD_eq_getElem?_getD, List.getElem?_eq_getElem (by omega)]
  exact (h _ (List.getElem_mem _)).1
theorem x_addB {d : Nat} {M : Mm} {K : Kt} {k a1 a2 : Int} (hk : M 31 0 = k) (h0 : 0 ≤ k ∧ k < 6)
    (hK : ∀ M', M' 31 0 = k + 1 → (∀ j, j ≠ 0 → M' 31 j = M 31 j) → (∀ i, M' 32 i = if i = k then a1 else M 32 i) → (∀ i, M' 33 i = if i = k then a2 else M 33 i) → (∀ c, (c < 31 ∨ 33 < c) → M' c = M c) → K 0 M') : zSp (d + 1) 3 [.inr (.inr 31), .inl a1, .inl a2] M K := by
  rw [me_3]
  simp only [zUp_away (show (31 : Nat) ≠ 31 + 1 by decide), zUp_away (show (31 : Nat) ≠ 31 + 2 by decide), hk]
  have sm : zSm k 6 = true := zs h0.1 h0.2
  refine zC_i rfl (zC_i (zr (by omega) (by omega)) ⟨fun c => absurd c (by omega), fun _ => ?_⟩)
  refine zC_i rfl (zC_i rfl (zC_i rfl (zC_i sm (zC_i rfl (zC_i rfl (zC_i rfl (zC_i sm (zC_i rfl (zC_i rfl ?_)))))))))
  refine hK _ zUp_here (fun j hj => ?_) (fun i => ?_) (fun i => ?_) (fun c h1 => ?_)
  · rw [zUp_there hj, zUp_away (by decide), zUp_away (by decide)]
  · rw [zUp_away (by decide), zUp_away (by decide)]; exact zUp_hit
  · rw [zUp_away (by decide)]
    show zUp (zUp M (31 + 1) k a1) (31 + 2) k a2 (31 + 2) i = _
    rw [zUp_hit, zUp_away (by decide)]
  · rw [zUp_away (by omega), zUp_away (by omega), zUp_away (by omega)]
theorem x_head {d : Nat} {T : Int → Int} {n p L : Int} {w : Bool} {B : List Bg} {M : Mm} {K : Kt} (hT : tpOk T n) (hB : bOk L B) (hl : (B.length : Int) ≤ 6) (hb : xBI B M) (h : xTk T n p w M)
    (hK0 : ∀ M', (gHe T n B p w).1 ≠ 0 → xB5 M M' → K 0 (zUp (zUp M' 2 6 (gHe T n B p w).1) 2 7 (gHe T n B p w).2.1))
    (hK1 : ∀ M', (gHe T n B p w).1 = 0 → M' 31 0 = (B.length : Int) + 1 → (∀ j, j ≠ 0 → M' 31 j = M 31 j) → (∀ i, M' 32 i = if i = (B.length : Int) then (gHe T n B p w).2.2.1 else M 32 i) → (∀ i, M' 33 i = if i = (B.length : Int) then (gHe T n B p w).2.2.2.1 else M 33 i) → (∀ c, 34 ≤ c → c ≤ 37 → M' c = M c) → xTk T n (gHe T n B p w).2.2.2.2 true M' → xB5 M M' → K 1 M') : zSp (d + 5) 9 [.inr (.inr 136)] M K := by
  have pn := h.2.2.2.2.2.2
  obtain ⟨b1, b2, b3, b4⟩ := hb
  have e1 := (tEn_s (T := T) pn).2.1
  have e2 := (tEn_s (T := T) e1).2.1
  have e3 := (tEn_s (T := T) e2).2.1
  unfold gHe at hK0 hK1
  rw [me_9]
  refine x_isWord h (by decide) ?_
  by_cases c1 : tKi T n p w = 1 ∧ tVa T n p = 89358336
  · rw [fl_t c1]
    rw [if_pos c1] at hK0 hK1
    refine zC_i (by decide) ⟨fun _ => ?_, fun z => absurd (by decide) z⟩
    rw [b1]
    refine zC_i (zr (by omega) (by omega)) ⟨fun c2 => ?_, fun c2 => ?_⟩
    · rw [if_neg c2] at hK0 hK1
      refine x_adv (d := d + 1) hT h ?_
      intro M1 f1 f2 f3
      rw [show decide (tKi T n p w = 1 ∨ tKi T n p w = 2) = true from decide_eq_true_iff.mpr (.inl c1.1)] at f1
      have q1 : xF M M1 := ⟨f3, f2⟩
      refine x_isName f1 ?_
      by_cases c3 : isNm T n (tEn T n p) true
      · rw [fl_t c3]
        rw [if_pos c3] at hK0 hK1
        have vb := tVa_1 e1 c3.1
        have v5 : M1 2 5 = tVa T n (tEn T n p) := f1.2.2.2.2.1 (by rw [c3.1]; decide) (by rw [c3.1]; decide)
        refine zC_i (by decide) ⟨fun _ => ?_, fun z => absurd (by decide) z⟩
        rw [v5, me_2]
        refine x_told_l (B := B) (zr (by omega) (by omega)) (by rw [f3 31 (by decide)]; exact b1) hl (fun i i0 i1 => by rw [f3 32 (by decide)]; exact b4 i i0 i1) (fun i i0 i1 => by have := bNm_b hB i0 i1; exact zr (by omega) (by omega)) ?_ B.length 0 (by omega) (by omega) rfl
        by_cases c4 : bTl B (tVa T n (tEn T n p)) = -1
        · rw [fl_f (fun z => z c4)]
          rw [if_pos c4] at hK0 hK1
          refine zC_i (by decide) ⟨fun _ => ?_, fun z => absurd rfl z⟩
          refine x_adv (d := d + 1) hT f1 ?_
          intro M2 g1 g2 g3
          rw [show decide (tKi T n (tEn T n p) true = 1 ∨ tKi T n (tEn T n p) true = 2) = true from decide_eq_true_iff.mpr (.inl c3.1)] at g1
          have q2 : xF M M2 := xF_trans q1 ⟨g3, g2⟩
          refine x_passWord (d := d) hT g1 (by decide) ?_ ?_
          · intro M3 k1 k2 h1 q3'
            have q3 := xF_trans q2 q3'
            rw [if_pos ⟨k1, k2⟩] at hK0 hK1
            refine zC_i (by decide) ⟨fun _ => ?_, fun z => absurd (by decide) z⟩
            refine x_isNum h1 ?_
            by_cases c6 : tKi T n (tEn T n (tEn T n (tEn T n p))) true = 2
            · rw [fl_t c6]
              rw [if_pos c6] at hK0 hK1
              have nb := tVa_2 e3 c6
              have v6 : M3 2 5 = tVa T n (tEn T n (tEn T n (tEn T n p))) := h1.2.2.2.2.1 (by rw [c6]; decide) (by rw [c6]; decide)
              rw [v6]
              have bad : ¬ (1 ≤ tVa T n (tEn T n (tEn T n (tEn T n p))) ∧ tVa T n (tEn T n (tEn T n (tEn T n p))) ≤ 100) → ∀ y, zWp (zSp (d + 4)) 9 K 155 [some (.inr (.inr 136)), some (.inl (tVa T n (tEn T n p))), some (.inl y)] [] M3 := by
                intro c7 y
                rw [if_neg c7] at hK0
                rw [fe_9_155]
                exact x_fail h1 (zC_i (by decide) (hK0 M3 (show (2 : Int) ≠ 0 by decide) (xB5_F q3)))
              refine zC_i (by decide) ⟨fun _ => ?_, fun z => absurd (by decide) z⟩
              refine zC_i (zr (by omega) (by omega)) ⟨fun c7 => bad (by omega) _, fun c7 => zC_i (zr (by omega) (by omega)) ⟨fun c8 => ?_, fun c8 => bad (by omega) _⟩⟩
              rw [if_pos (by omega)] at hK0 hK1
              refine x_adv (d := d + 1) hT h1 ?_
              intro M4 i1 i2 i3
              rw [show decide (tKi T n (tEn T n (tEn T n (tEn T n p))) true = 1 ∨ tKi T n (tEn T n (tEn T n (tEn T n p))) true = 2) = true from decide_eq_true_iff.mpr (.inr c6)] at i1
              have q4 : xF M M4 := xF_trans q3 ⟨i3, i2⟩
              refine x_addB (k := (B.length : Int)) (by rw [q4.1 31 (by decide)]; exact b1) (by omega) ?_
              intro M5 m1 m2 m3 m4 m5
              have t5 := xTk_fr i1 (M' := M5) (fun j _ _ => by rw [m5 2 (by decide)]) (m5 3 (by decide))
              have B5 : xB5 M M5 := xB5_trans (xB5_F q4) ⟨fun c _ c2 _ _ => m5 c (by omega), fun j _ _ _ _ => by rw [m5 2 (by decide)]⟩
              refine x_passWord (d := d) hT t5 (by decide) ?_ ?_
              · intro M6 r1 r2 r3 r4
                rw [if_pos ⟨r1, r2⟩] at hK1
                refine zC_i (by decide) (hK1 M6 rfl (by rw [r4.1 31 (by decide)]; exact m1) (fun j hj => by rw [r4.1 31 (by decide), m2 j hj, q4.1 31 (by decide)]) (fun i => by rw [r4.1 32 (by decide), m3, q4.1 32 (by decide)]) (fun i => by rw [r4.1 33 (by decide), m4, q4.1 33 (by decide)]) (fun c c1 c2 => by rw [r4.1 c (by omega), m5 c (by omega), q4.1 c (by omega)]) r3 (xB5_trans B5 (xB5_F r4)))
              · intro r
                rw [if_neg r] at hK0
                exact zC_i (by decide) (hK0 M5 (show (1 : Int) ≠ 0 by decide) B5)
            · rw [fl_f c6]
              rw [if_neg c6] at hK0
              exact zC_i (by decide) ⟨fun z => absurd rfl z, fun _ => x_fail h1 (zC_i (by decide) (hK0 M3 (show (1 : Int) ≠ 0 by decide) (xB5_F q3)))⟩
          · intro r
            rw [if_neg r] at hK0
            exact zC_i (by decide) ⟨fun z => absurd rfl z, fun _ => hK0 M2 (show (1 : Int) ≠ 0 by decide) (xB5_F q2)⟩
        · rw [fl_t c4]
          rw [if_neg c4] at hK0
          exact zC_i (by decide) ⟨fun z => absurd z (by decide), fun _ => x_fail f1 (zC_i (by decide) (hK0 M1 (show (3 : Int) ≠ 0 by decide) (xB5_F q1)))⟩
      · rw [fl_f c3]
        rw [if_neg c3] at hK0
        exact zC_i (by decide) ⟨fun z => absurd rfl z, fun _ => x_fail f1 (zC_i (by decide) (hK0 M1 (show (1 : Int) ≠ 0 by decide) (xB5_F q1)))⟩
    · rw [if_pos (Decidable.not_not.mp c2)] at hK0
      exact x_fail h (zC_i (by decide) (hK0 M (show (4 : Int) ≠ 0 by decide) xB5_refl))
  · rw [fl_f c1]
    rw [if_neg c1] at hK0
    exact zC_i (by decide) ⟨fun z => absurd rfl z, fun _ => x_fail h (zC_i (by decide) (hK0 M (show (1 : Int) ≠ 0 by decide) xB5_refl))⟩
theorem vT_0 {G : Mm} : vT G 0 [] [] := ⟨trivial, by decide, rfl, fun s hs => absurd hs (by simp)⟩
theorem x_bugs_l {d : Nat} {T : Int → Int} {n : Int} {G : Mm} {K : Kt} (hT : tpOk T n) (hg : gLn G) : ∀ (f : Nat) (B : List Bg) (M : Mm) (p : Int) (w : Bool) (x1 : Int), x1 + f = 7 → x1 = (B.length : Int) → (B.length : Int) ≤ 6 → 3 * bLen B ≤ p → bOk (G 4 0) B → xBI B M → xTk T n p w M → xG G M →
    (∀ M', (gBu T n G f B p w).1 ≠ 0 → xB5 M M' → K 0 (zUp (zUp M' 2 6 (gBu T n G f B p w).1) 2 7 (gBu T n G f B p w).2.1)) →
    (∀ M', (gBu T n G f B p w).1 = 0 → xBI (gBu T n G f B p w).2.2 M' → bOk (G 4 0) (gBu T n G f B p w).2.2 → ((gBu T n G f B p w).2.2.length : Int) ≤ 6 → 3 * bLen (gBu T n G f B p w).2.2 ≤ n → xB5 M M' → K 1 M') → zWp (zSp (d + 6)) 8 K 16 [some (.inr (.inr 136)), some (.inl x1)] [] M
  | 0, B, M, p, w, x1, hf, hx1, hl, hN, hB, hb, h, hx, hK0, hK1 => by omega
  | f + 1, B, M, p, w, x1, hf, hx1, hl, hN, hB, hb, h, hx, hK0, hK1 => by
    have hn := hT.1
    have pn := h.2.2.2.2.2.2
    have nb := bLen_nn B
    have hk := gHe_k (T := T) (w := w) (B := B) pn
    unfold gBu at hK0 hK1
    rw [fe_8_16]
    refine zC_i (zr (by omega) (by omega)) ⟨fun z => absurd z (by omega), fun _ => ?_⟩
    refine x_isEnd h ?_
    by_cases c0 : tKi T n p w = 0
    · rw [fl_t c0]
      rw [if_pos c0] at hK1
      exact zC_i (by decide) ⟨fun _ => hK1 M rfl hb hB hl (by show 3 * bLen B ≤ n; omega) xB5_refl, fun z => absurd (by decide) z⟩
    · rw [fl_f c0]
      rw [if_neg c0] at hK0 hK1
      refine zC_i (by decide) ⟨fun z => absurd rfl z, fun _ => ?_⟩
      refine x_head (d := d + 1) hT hB hl hb h ?_ ?_
      · intro M1 e q
        rw [if_pos e] at hK0
        exact zC_i (by decide) ⟨fun _ => hK0 M1 e q, fun z => absurd rfl z⟩
      · intro M1 e u1 u2 u3 u4 u5 t1 q1
        rw [if_neg (fun z => z e)] at hK0 hK1
        rcases hk with ⟨_, n6, k1, k2, k3⟩ | hk
        · generalize gHe T n B p w = H at *
          obtain ⟨_, _, nm, od, pH⟩ := H
          dsimp only at e u1 u2 u3 u4 t1 n6 k1 k2 k3 hK0 hK1
          obtain ⟨b1, b2, b3, b4⟩ := hb
          refine zC_i (by decide) ⟨fun z => absurd z (by decide), fun _ => ?_⟩
          rw [me_10]
          have ff : ∀ c, c ≠ 136 → c ≠ 137 → (zUp (zUp M1 136 4 0) 136 5 0) c = M1 c := fun c h1 _ => by rw [zUp_away h1, zUp_away h1]
          have sk0 : xSk [] (zUp (zUp M1 136 4 0) 136 5 0) := ⟨by rw [zUp_there (by decide), zUp_here]; rfl, by rw [zUp_here]; rfl, trivial⟩
          have o0 : xO (bLen B) [] (zUp (zUp M1 136 4 0) 136 5 0) := by
            refine ⟨?_, trivial⟩
            rw [ff 31 (by decide) (by decide), u2 3 (by decide), b2]
            show bLen B = bLen B + ((0 : Nat) : Int)
            omega
          have z0 : noT [] = 0 := rfl
          have z1 : (([] : List St5).length : Int) = 0 := rfl
          have x1' : xG G (zUp (zUp M1 136 4 0) 136 5 0) := xG_fr hx fun c c1 c2 => by rw [ff c (by omega) (by omega), q1.1 c (by omega) (by omega) (by omega) (by omega)]
          have t1' : xTk T n pH true (zUp (zUp M1 136 4 0) 136 5 0) := xTk_fr t1 (fun j _ _ => by rw [ff 2 (by decide) (by decide)]) (ff 3 (by decide) (by decide))
          have tk := gTe_k (T := T) (bl := bLen B + 1) (w := true) (p := pH) hg hn.2 1000 [] [] (x1 := 0) (by omega) (by omega) (by omega) k3.2 vT_0 (by omega)
          refine x_test_l (d := d) hT hg nb 1000 [] [] _ pH true 0 (by omega) (by omega) (by omega) x1' vT_0 sk0 o0 t1' (by omega) ?_ ?_
          · intro M2 e2 q2
            rw [if_pos e2] at hK0
            exact zC_i (by decide) ⟨fun z => absurd rfl z, fun _ => hK0 M2 e2 (xB5_trans q1 (xB5_trans (xB5_E (xE_sk (c0 := bLen B) ff)) (xB5_E q2)))⟩
          · intro M2 e2 s2 o2 t2 q2
            rw [if_neg (fun z => z e2)] at hK0 hK1
            rcases tk with ⟨_, y1, y2, y3, y4⟩ | tk
            · generalize gTe T n G 1000 [] [] pH true = R at *
              obtain ⟨_, _, O, pR, wR⟩ := R
              dsimp only at e2 o2 t2 y1 y2 y3 y4 hK0 hK1
              rw [me_11, s2.1]
              refine zC_i (by decide) ⟨fun _ => ?_, fun z => absurd (by decide) z⟩
              rw [me_5]
              refine zC_i rfl (x_addF o2.1 (by omega) ?_)
              intro M3 g1 g2 g3 g4 g5 g6 g7
              have E2 : xE (bLen B) M1 M2 := xE_trans (xE_sk ff) q2
              have q3 : xB5 M M3 := xB5_trans q1 (xB5_trans (xB5_E E2) ⟨fun c _ c2 _ _ => g7 c (by omega) (by omega), fun j _ _ _ _ => by rw [g7 2 (by decide) (by decide)]⟩)
              have t3 : xTk T n pR wR M3 := xTk_fr t2 (fun j _ _ => by rw [g7 2 (by decide) (by decide)]) (g7 3 (by decide) (by decide))
              refine x_passSign (d := d) hT t3 (by decide) ?_ ?_
              · intro M4 r1 r2 r3 r4
                rw [if_pos ⟨r1, r2⟩] at hK0 hK1
                have ln : ((B ++ [(nm, od, O)]).length : Int) = B.length + 1 := by rw [List.length_append]; show ((B.length + 1 : Nat) : Int) = _; omega
                have bl : bLen (B ++ [(nm, od, O)]) = bLen B + O.length + 1 := bLen_snoc B
                have nB : bOk (G 4 0) (B ++ [(nm, od, O)]) := bOk_snoc hB ⟨k1, k2, y2, wD_L O 0 y1⟩
                have f31 : ∀ j, j ≠ 3 → M4 31 j = M1 31 j := fun j hj => by rw [r4.1 31 (by decide), g2 j hj, E2.2.1 j hj]
                have f32 : ∀ c, c = 32 ∨ c = 33 → M4 c = M1 c := fun c hc => by rw [r4.1 c (by omega), g7 c (by omega) (by omega), E2.1 c (by omega) (by omega) (by omega) (by omega) (by omega)]
                have f34 : ∀ (c : Nat) (i : Int), 34 ≤ c → c ≤ 37 → i < bLen B → M4 c i = M c i := fun c i c1 c2 hi => by
                  rw [r4.1 c (by omega)]
                  have : M3 c i = M2 c i := by
                    rcases (show c = 34 ∨ c = 35 ∨ c = 36 ∨ c = 37 by omega) with e | e | e | e <;> subst e
                    · rw [g3, if_neg (by omega)]
                    · rw [g4, if_neg (by omega)]
                    · rw [g5, if_neg (by omega)]
                    · rw [g6, if_neg (by omega)]
                  rw [this, E2.2.2.2 c i c1 c2 hi, u5 c c1 c2]
                have bi : xBI (B ++ [(nm, od, O)]) M4 := by
                  have sn := bNm_snoc (x := (nm, od, O)) (B := B)
                  refine ⟨by rw [f31 0 (by decide), u1, ln], by rw [r4.1 31 (by decide), g1, bl], xBq_snoc B 0 0 (xBq_fr B 0 0 (fun j j1 j2 => ⟨?_, ?_⟩) (fun k j k1 k2 j1 j2 => f34 (31 + k) j (by omega) (by omega) (by omega)) b3) ?_ ?_ ?_ ?_, fun i i0 i1 => ?_⟩
                  · show M4 32 j = M 32 j
                    rw [f32 32 (.inl rfl), u3, if_neg (by omega)]
                  · show M4 33 j = M 33 j
                    rw [f32 33 (.inr rfl), u4, if_neg (by omega)]
                  · show M4 32 _ = nm
                    rw [f32 32 (.inl rfl), u3, if_pos (by omega)]
                  · show M4 33 _ = od
                    rw [f32 33 (.inr rfl), u4, if_pos (by omega)]
                  · rw [show 0 + bLen B = bLen B by omega]
                    refine xCd_fr2 O (bLen B) (fun k i k1 k2 i1 i2 => ?_) o2.2
                    rw [r4.1 (31 + k) (by omega)]
                    rcases (show k = 3 ∨ k = 4 ∨ k = 5 ∨ k = 6 by omega) with e | e | e | e <;> subst e
                    · show M3 34 i = M2 34 i; rw [g3, if_neg (by omega)]
                    · show M3 35 i = M2 35 i; rw [g4, if_neg (by omega)]
                    · show M3 36 i = M2 36 i; rw [g5, if_neg (by omega)]
                    · show M3 37 i = M2 37 i; rw [g6, if_neg (by omega)]
                  · show M4 34 _ = 18
                    rw [r4.1 34 (by decide), g3, if_pos (by omega)]
                  · rw [ln] at i1
                    by_cases e : i = (B.length : Int)
                    · rw [e, f32 32 (.inl rfl), u3, if_pos rfl]; exact sn.2.symm
                    · rw [f32 32 (.inl rfl), u3, if_neg e, sn.1 i i0 (by omega)]
                      exact b4 i i0 (by omega)
                have pR1 := (tEn_s (T := T) y4).1
                have pR2 := (tQ_s (T := T) y4).1
                refine zC_i (by decide) (zC_i (by decide) (zC_i (by decide) ⟨fun _ => ?_, fun z => absurd (by decide) z⟩))
                exact x_bugs_l hT hg f _ M4 _ _ (x1 + 1) (by omega) (by omega) (by omega) (by omega) nB bi r3 (xG_fr hx fun c c1 c2 => by rw [r4.1 c (by omega), q3.1 c (by omega) (by omega) (by omega) (by omega)]) (fun M' a b => hK0 M' a (xB5_trans q3 (xB5_trans (xB5_F r4) b))) (fun M' a b c e g i => hK1 M' a b c e g (xB5_trans q3 (xB5_trans (xB5_F r4) i)))
              · intro r
                rw [if_neg r] at hK0
                exact zC_i (by decide) (zC_i (by decide) (zC_i (by decide) ⟨fun z => absurd rfl z, fun _ => hK0 M3 (show (1 : Int) ≠ 0 by decide) q3⟩))
            · omega
        · omega
