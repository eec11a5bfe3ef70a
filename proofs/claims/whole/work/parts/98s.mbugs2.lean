/-! LAYER 3: bugs' text, read by the reference: heads, all bugs -/
theorem m_bugRead {d : Nat} {T : Int → Int} {n p : Int} {w : Bool} {G M : Mm} {B : List Bg} {K : Kt} (hT : tpOk T n) (hg : gLn G) (hx : mG G M) (hp : p ≤ n) (hw : tKi T n p w = 1 ∧ tVa T n p = 89358336) (hl : (B.length : Int) ≤ 6) (h6 : (B.length : Int) ≠ 6) (hO : bOk (G 4 0) B) (hB : mBI B M) (h : mTk T n (tEn T n p) true M) (hb : M 154 6 = 0) (hN : 3 * bLen B ≤ p)
    (hK0 : ∀ M' k q, gBf T n G B p w k q → mFl T n M' k q → mB5 M M' → K 0 M')
    (hK1 : ∀ M', (gHe T n B p w).1 = 0 → (gTe T n G 1000 [] [] (gHe T n B p w).2.2.2.2 true).1 = 0 → (tKi T n (gTe T n G 1000 [] [] (gHe T n B p w).2.2.2.2 true).2.2.2.1 (gTe T n G 1000 [] [] (gHe T n B p w).2.2.2.2 true).2.2.2.2 = 3 ∧ tVa T n (gTe T n G 1000 [] [] (gHe T n B p w).2.2.2.2 true).2.2.2.1 = 59) → mBI (B ++ [((gHe T n B p w).2.2.1, (gHe T n B p w).2.2.2.1, (gTe T n G 1000 [] [] (gHe T n B p w).2.2.2.2 true).2.2.1)]) M' → mTk T n (tEn T n (gTe T n G 1000 [] [] (gHe T n B p w).2.2.2.2 true).2.2.2.1) false M' → M' 154 6 = 0 → mB5 M M' → K 0 M') : zSp (d + 10) 194 [.inr (.inr 154), .inl (B.length : Int)] M K := by
  have hk := gHe_k (T := T) (w := w) (B := B) hp
  have hf : ∀ M' k q, (gHe T n B p w).1 ≠ 0 → (gHe T n B p w).1 = k → (gHe T n B p w).2.1 = q → mFl T n M' k q → mB5 M M' → K 0 M' := fun M' k q a b c e g => hK0 M' k q (.inl ⟨a, b.symm, c.symm⟩) e g
  have e1 := (tEn_s (T := T) hp).2.1
  have e2 := (tEn_s (T := T) e1).2.1
  have e3 := (tEn_s (T := T) e2).2.1
  have bf : ∀ (M1 : Mm) (k q : Int), (1 ≤ k ∧ k ≤ 5) → 1 ≤ (zUp (zUp M1 154 6 k) 154 7 q) 154 6 ∧ (zUp (zUp M1 154 6 k) 154 7 q) 154 6 ≤ 5 := fun M1 k q hk => by rw [zUp_there (by decide), zUp_here]; exact hk
  rw [me_194]
  refine m_name (d := d + 4) hT h hb ?_ ?_
  · intro M1 k1 k2 t1 g1 p12
    have c3 : isNm T n (tEn T n p) true := ⟨k1, k2⟩
    have vb := tVa_1 e1 k1
    have b1 : M1 154 6 = 0 := by rw [nG_bad g1]; exact hb
    refine m_told_l (d := d + 8) (L := G 4 0) (q := tQ T n (tEn T n p)) (zr64 (by omega) (by omega)) hO hl (fun i i0 i1 => by rw [g1.1 175 (by decide)]; exact hB.2.2 i i0 i1) b1 p12 ?_ ?_ B.length 0 (by omega) (by omega) rfl
    · intro c4 x4
      rw [fe_194_48]
      refine m_fine b1 (zC_i (by decide) ⟨fun z => absurd z (by decide), fun _ => m_packed (by decide) ?_⟩)
      rw [show pkd 111 100 100 115 0 0 = 507661312 by decide]
      refine m_takes (d := d + 4) hT t1 b1 (by decide) ?_ ?_
      · intro M2 a5 b5 t2 q2
        have g2 := nG_trans g1 (nG_of q2)
        have b2 : M2 154 6 = 0 := by rw [nG_bad g2]; exact hb
        refine zC_i (by decide) ⟨fun _ => ?_, fun z => absurd (by decide) z⟩
        rw [fe_194_79]
        refine m_fine b2 (zC_i (by decide) ⟨fun z => absurd z (by decide), fun _ => ?_⟩)
        refine m_numberP (d := d + 6) hT t2 b2 ?_ ?_
        · intro M3 a6 t3 q3 p13
          have nb := tVa_2 e3 a6
          have g3 := nG_trans g2 q3
          have b3 : M3 154 6 = 0 := by rw [nG_bad g3]; exact hb
          rw [fe_194_94]
          refine m_fine b3 (zC_i (by decide) ⟨fun z => absurd z (by decide), fun _ => zC_i (zr (by omega) (by omega)) ?_⟩)
          refine m_isIn (zr64 (by omega) (by omega)) (by decide) (by decide) ?_
          by_cases c7 : 1 ≤ tVa T n (tEn T n (tEn T n (tEn T n p))) ∧ tVa T n (tEn T n (tEn T n (tEn T n p))) ≤ 100
          · rw [if_pos c7]
            refine zC_i (by decide) ⟨fun _ => ?_, fun z => absurd (by decide) z⟩
            rw [fe_194_125]
            refine m_fine b3 (zC_i (by decide) ⟨fun z => absurd z (by decide), fun _ => m_packed (by decide) ?_⟩)
            rw [show pkd 119 104 101 110 0 0 = 780318720 by decide]
            refine m_takes (d := d + 4) hT t3 b3 (by decide) ?_ ?_
            · intro M4 a8 b8 t4 q4
              have g4 := nG_trans g3 (nG_of q4)
              have b4 : M4 154 6 = 0 := by rw [nG_bad g4]; exact hb
              have eH : gHe T n B p w = (0, 0, tVa T n (tEn T n p), tVa T n (tEn T n (tEn T n (tEn T n p))), tEn T n (tEn T n (tEn T n (tEn T n (tEn T n p))))) := by
                unfold gHe
                rw [if_pos hw, if_neg h6, if_pos c3, if_pos c4, if_pos ⟨a5, b5⟩, if_pos a6, if_pos c7, if_pos ⟨a8, b8⟩]
              refine zC_i (by decide) ⟨fun _ => ?_, fun z => absurd (by decide) z⟩
              rw [eH] at hk
              unfold gBf at hK0
              rw [eH] at hK0 hK1
              dsimp only at hK0 hK1 hk
              have hk3 : p + 3 ≤ tEn T n (tEn T n (tEn T n (tEn T n (tEn T n p)))) := by
                rcases hk with x | x
                · exact x.2.2.2.2.1
                · omega
              refine m_bug156 (d := d) hT hg (mG_B hx (mB5_G g4)) (by omega) (mBI_G hB g4) t4 b4 (by omega) ?_ ?_ ?_
              · intro M5 i1 i2 i3
                exact hK0 M5 _ _ (.inr (.inl ⟨rfl, i1, rfl, rfl⟩)) i2 (mB5_trans (mB5_G g4) i3)
              · intro M5 i1 i2 i3 i4
                exact hK0 M5 _ _ (.inr (.inr ⟨rfl, i1, i2, rfl, rfl⟩)) i3 (mB5_trans (mB5_G g4) i4)
              · intro M5 i1 i2 i3 i4 i5 i6
                exact hK1 M5 rfl i1 i2 i3 i4 i5 (mB5_trans (mB5_G g4) i6)
            · intro M4 n8 t4 q4
              have g4 := nG_trans g3 (nG_of q4)
              have b4 : M4 154 6 = 0 := by rw [nG_bad g4]; exact hb
              have eH : gHe T n B p w = (1, tQ T n (tEn T n (tEn T n (tEn T n (tEn T n p)))), 0, 0, p) := by
                unfold gHe
                rw [if_pos hw, if_neg h6, if_pos c3, if_pos c4, if_pos ⟨a5, b5⟩, if_pos a6, if_pos c7, if_neg n8]
              refine zC_i (by decide) ⟨fun z => absurd rfl z, fun _ => ?_⟩
              refine m_unlike (d := d + 7) hT t4 b4 ?_
              intro M5 j1 j2
              exact m_un156 (bf _ _ _ (by decide)) (hf _ 1 _ (by rw [eH]; show (1 : Int) ≠ 0; decide) (by rw [eH]) (by rw [eH]) (mFl_i j1) (mB5_trans (mB5_G g4) (mB5_trans (mB5_G (nG_of j2)) mB5_bad)))
          · rw [if_neg c7]
            have eH : gHe T n B p w = (2, tQ T n (tEn T n (tEn T n (tEn T n p))), 0, 0, p) := by
              unfold gHe
              rw [if_pos hw, if_neg h6, if_pos c3, if_pos c4, if_pos ⟨a5, b5⟩, if_pos a6, if_neg c7]
            refine zC_i (by decide) ⟨fun z => absurd rfl z, fun _ => ?_⟩
            rw [p13]
            refine m_fail b3 ?_
            exact m_un125 (bf _ _ _ (by decide)) (hf _ 2 _ (by rw [eH]; show (2 : Int) ≠ 0; decide) (by rw [eH]) (by rw [eH]) (mFl_i t3) (mB5_trans (mB5_G g3) mB5_bad))
        · intro M3 n6 t3 q3
          have g3 := nG_trans g2 q3
          have eH : gHe T n B p w = (1, tQ T n (tEn T n (tEn T n (tEn T n p))), 0, 0, p) := by
            unfold gHe
            rw [if_pos hw, if_neg h6, if_pos c3, if_pos c4, if_pos ⟨a5, b5⟩, if_neg n6]
          exact m_un94 (bf _ _ _ (by decide)) (hf _ 1 _ (by rw [eH]; show (1 : Int) ≠ 0; decide) (by rw [eH]) (by rw [eH]) (mFl_i t3) (mB5_trans (mB5_G g3) mB5_bad))
      · intro M2 n5 t2 q2
        have g2 := nG_trans g1 (nG_of q2)
        have b2 : M2 154 6 = 0 := by rw [nG_bad g2]; exact hb
        have eH : gHe T n B p w = (1, tQ T n (tEn T n (tEn T n p)), 0, 0, p) := by
          unfold gHe
          rw [if_pos hw, if_neg h6, if_pos c3, if_pos c4, if_neg n5]
        refine zC_i (by decide) ⟨fun z => absurd rfl z, fun _ => ?_⟩
        refine m_unlike (d := d + 7) hT t2 b2 ?_
        intro M3 j1 j2
        exact m_un79 (bf _ _ _ (by decide)) (hf _ 1 _ (by rw [eH]; show (1 : Int) ≠ 0; decide) (by rw [eH]) (by rw [eH]) (mFl_i j1) (mB5_trans (mB5_G g2) (mB5_trans (mB5_G (nG_of j2)) mB5_bad)))
    · intro c4
      have eH : gHe T n B p w = (3, tQ T n (tEn T n p), 0, 0, p) := by
        unfold gHe
        rw [if_pos hw, if_neg h6, if_pos c3, if_neg c4]
      exact hf _ 3 _ (by rw [eH]; show (3 : Int) ≠ 0; decide) (by rw [eH]) (by rw [eH]) (mFl_i t1) (mB5_trans (mB5_G g1) mB5_bad)
  · intro M1 nm t1 g1 p12
    have eH : gHe T n B p w = (1, tQ T n (tEn T n p), 0, 0, p) := by
      unfold gHe
      rw [if_pos hw, if_neg h6, if_neg nm]
    exact m_un8 (zr (by omega) (by omega)) (by decide) (bf _ _ _ (by decide)) (hf _ 1 _ (by rw [eH]; show (1 : Int) ≠ 0; decide) (by rw [eH]) (by rw [eH]) (mFl_i t1) (mB5_trans (mB5_G g1) mB5_bad))
theorem m_bugs_l {d : Nat} {T : Int → Int} {n : Int} {G : Mm} {K : Kt} (hT : tpOk T n) (hg : gLn G) : ∀ (f : Nat) (B : List Bg) (M : Mm) (p : Int) (w : Bool), (B.length : Int) + f = 7 → (B.length : Int) ≤ 6 → 3 * bLen B ≤ p → bOk (G 4 0) B → mBI B M → mTk T n p w M → M 154 6 = 0 → mG G M →
    (∀ M' x, 1 ≤ (gBu T n G f B p w).1 ∧ (gBu T n G f B p w).1 ≤ 5 → mFl T n M' (gBu T n G f B p w).1 (gBu T n G f B p w).2.1 → mB5 M M' → zWp (zSp (d + 10)) 193 K 115 [some (.inr (.inr 154)), some (.inl x), none] [] M') →
    (∀ M', (gBu T n G f B p w).1 = 0 → mBI (gBu T n G f B p w).2.2 M' → M' 154 6 = 0 → mB5 M M' → zWp (zSp (d + 10)) 193 K 115 [some (.inr (.inr 154)), some (.inl ((gBu T n G f B p w).2.2.length : Int)), none] [] M') →
    zWp (zSp (d + 10)) 193 K 35 [some (.inr (.inr 154)), some (.inl (B.length : Int)), none] [] M
  | 0, B, M, p, w, hf, hl, hN, hO, hB, h, hb, hx, hK0, hK1 => by omega
  | f + 1, B, M, p, w, hf, hl, hN, hO, hB, h, hb, hx, hK0, hK1 => by
    have hn := hT.1
    have pn := h.2.1
    have nb := bLen_nn B
    have hk := gHe_k (T := T) (w := w) (B := B) pn.2
    have bf : ∀ (M1 : Mm) (k q : Int), (1 ≤ k ∧ k ≤ 5) → 1 ≤ (zUp (zUp M1 154 6 k) 154 7 q) 154 6 ∧ (zUp (zUp M1 154 6 k) 154 7 q) 154 6 ≤ 5 := fun M1 k q hk => by rw [zUp_there (by decide), zUp_here]; exact hk
    unfold gBu at hK0 hK1
    rw [fe_193_35]
    refine m_fine hb (zC_i (by decide) ⟨fun z => absurd z (by decide), fun _ => ?_⟩)
    refine m_isOver (d := d + 8) hT h ?_
    intro M1 t1 q1
    have g1 := nG_of q1
    have b1 : M1 154 6 = 0 := by rw [nF_bad q1]; exact hb
    by_cases c0 : tKi T n p w = 0
    · rw [fl_t c0]
      rw [if_pos c0] at hK1
      exact zC_i (by decide) ⟨fun _ => hK1 M1 rfl (mBI_G hB g1) b1 (mB5_G g1), fun z => absurd (by decide) z⟩
    · rw [fl_f c0]
      rw [if_neg c0] at hK0 hK1
      refine zC_i (by decide) ⟨fun z => absurd rfl z, fun _ => m_packed (by decide) ?_⟩
      rw [show pkd 98 117 103 0 0 0 = 89358336 by decide]
      refine m_isWord (d := d + 6) hT t1 (by decide) ?_
      intro M2 t2 q2 wd
      have g2 := nG_trans g1 (nG_of q2)
      have b2 : M2 154 6 = 0 := by rw [nG_bad g2]; exact hb
      -- behind a fault
      have un90 : ∀ (M' : Mm) (k q x : Int), (1 ≤ k ∧ k ≤ 5) → (gHe T n B p w).1 = k → (gHe T n B p w).2.1 = q → mFl T n M' k q → mB5 M M' → zWp (zSp (d + 10)) 193 K 90 [some (.inr (.inr 154)), some (.inl x), none] [] M' := by
        intro M' k q x kb ek eq fl' q'
        rw [if_pos (by omega)] at hK0
        rw [fe_193_90]
        refine m_unfine (by rw [fl'.1]; exact kb) (zC_i (by decide) ⟨fun z => absurd rfl z, fun _ => ?_⟩)
        refine hK0 M' x (by show 1 ≤ (gHe T n B p w).1 ∧ (gHe T n B p w).1 ≤ 5; omega) ?_ q'
        show mFl T n M' (gHe T n B p w).1 (gHe T n B p w).2.1
        rw [ek, eq]
        exact fl'
      by_cases c1 : tKi T n p w = 1 ∧ tVa T n p = 89358336
      · rw [fl_t c1]
        refine zC_i (by decide) ⟨fun _ => zC_i (zr (by omega) (by omega)) ⟨fun c2 => ?_, fun c2 => ?_⟩, fun z => absurd (by decide) z⟩
        · rw [fe_193_90]
          refine m_fine b2 (zC_i (by decide) ⟨fun _ => ?_, fun z => absurd (by decide) z⟩)
          refine m_pass t2 c1.1 (wd c1.1) ?_
          intro M3 t3 q3
          have g3 := nG_trans g2 (nG_of q3)
          have b3 : M3 154 6 = 0 := by rw [nG_bad g3]; exact hb
          refine m_bugRead (d := d) hT hg (mG_B hx (mB5_G g3)) pn.2 c1 hl c2 hO (mBI_G hB g3) t3 b3 hN ?_ ?_
          · intro M4 k q hh fl4 q4
            have Q4 := mB5_trans (mB5_G g3) q4
            have tk : (gHe T n B p w).1 = 0 → ((gTe T n G 1000 [] [] (gHe T n B p w).2.2.2.2 true).1 = 0 ∨ (1 ≤ (gTe T n G 1000 [] [] (gHe T n B p w).2.2.2.2 true).1 ∧ (gTe T n G 1000 [] [] (gHe T n B p w).2.2.2.2 true).1 ≤ 5)) := fun e => by
              rcases hk with x | x
              · rcases gTe_k (T := T) (bl := bLen B + 1) (w := true) (p := (gHe T n B p w).2.2.2.2) hg hn.2 1000 [] [] (x1 := 0) (by omega) (by omega) (by omega) x.2.2.2.2.2 vT_0 (by show 3 * (bLen B + 1 + 0 + 0) ≤ _; omega) with y | y
                · exact .inl y.1
                · exact .inr y
              · omega
            rw [fe_193_35]
            rcases hh with ⟨x1, x2, x3⟩ | ⟨x1, x2, x3, x4⟩ | ⟨x1, x2, x3, x4, x5⟩
            · have kb : 1 ≤ k ∧ k ≤ 5 := by rcases hk with x | x <;> omega
              rw [if_pos x1] at hK0
              rw [x2, x3] at fl4
              refine m_unfine (by rw [fl4.1]; omega) (zC_i (by decide) ⟨fun _ => hK0 M4 _ (by show 1 ≤ (gHe T n B p w).1 ∧ (gHe T n B p w).1 ≤ 5; omega) fl4 Q4, fun z => absurd rfl z⟩)
            · rw [if_neg (fun z => z x1), if_pos x2] at hK0
              have kb := (tk x1).resolve_left x2
              rw [x3, x4] at fl4
              refine m_unfine (by rw [fl4.1]; omega) (zC_i (by decide) ⟨fun _ => hK0 M4 _ kb fl4 Q4, fun z => absurd rfl z⟩)
            · rw [if_neg (fun z => z x1), if_neg (fun z => z x2), if_neg x3] at hK0
              rw [x4, x5] at fl4
              refine m_unfine (by rw [fl4.1]; decide) (zC_i (by decide) ⟨fun _ => hK0 M4 _ ⟨by show (1 : Int) ≤ 1; decide, by show (1 : Int) ≤ 5; decide⟩ fl4 Q4, fun z => absurd rfl z⟩)
          · intro M4 x1 x2 x3 i1 i2 i3 i4
            have Q4 := mB5_trans (mB5_G g3) i4
            rw [if_neg (fun z => z x1), if_neg (fun z => z x2), if_pos x3] at hK0 hK1
            rcases hk with ⟨_, n6, k1, k2, k3⟩ | hk
            · rcases gTe_k (T := T) (bl := bLen B + 1) (w := true) (p := (gHe T n B p w).2.2.2.2) hg hn.2 1000 [] [] (x1 := 0) (by omega) (by omega) (by omega) k3.2 vT_0 (by show 3 * (bLen B + 1 + 0 + 0) ≤ _; omega) with ⟨_, y1, y2, y3, y4⟩ | tk
              · have ln : ((B ++ [((gHe T n B p w).2.2.1, (gHe T n B p w).2.2.2.1, (gTe T n G 1000 [] [] (gHe T n B p w).2.2.2.2 true).2.2.1)]).length : Int) = B.length + 1 := by rw [List.length_append]; show ((B.length + 1 : Nat) : Int) = _; omega
                have bl : bLen (B ++ [((gHe T n B p w).2.2.1, (gHe T n B p w).2.2.2.1, (gTe T n G 1000 [] [] (gHe T n B p w).2.2.2.2 true).2.2.1)]) = bLen B + (gTe T n G 1000 [] [] (gHe T n B p w).2.2.2.2 true).2.2.1.length + 1 := bLen_snoc B
                have nO : bOk (G 4 0) (B ++ [((gHe T n B p w).2.2.1, (gHe T n B p w).2.2.2.1, (gTe T n G 1000 [] [] (gHe T n B p w).2.2.2.2 true).2.2.1)]) := bOk_snoc hO ⟨k1, k2, y2, wD_L _ 0 y1⟩
                have pR1 := (tEn_s (T := T) y4).1
                have pR2 := (tQ_s (T := T) y4).1
                rw [← ln]
                exact m_bugs_l hT hg f _ M4 _ _ (by omega) (by omega) (by omega) nO i1 i2 i3 (mG_B hx Q4) (fun M' x a b c => hK0 M' x a b (mB5_trans Q4 c)) (fun M' a b c e => hK1 M' a b c (mB5_trans Q4 e))
              · omega
            · omega
        · have e6 := Decidable.not_not.mp c2
          have eH : gHe T n B p w = (4, tQ T n p, 0, 0, p) := by
            unfold gHe
            rw [if_pos c1, if_pos e6]
          refine m_next hT t2 ?_
          intro M3 u1 u4 u2 u3
          have nf := nx_nF u2 u3
          refine m_fail (by rw [nF_bad nf]; exact b2) ?_
          exact un90 _ 4 _ _ (by decide) (by rw [eH]) (by rw [eH]) (mFl_i u1) (mB5_trans (mB5_G g2) (mB5_trans (mB5_G (nG_of nf)) mB5_bad))
      · rw [fl_f c1]
        have eH : gHe T n B p w = (1, tQ T n p, 0, 0, p) := by
          unfold gHe
          rw [if_neg c1]
        refine zC_i (by decide) ⟨fun z => absurd rfl z, fun _ => ?_⟩
        refine m_unlike (d := d + 8) hT t2 b2 ?_
        intro M3 u1 u2
        exact un90 _ 1 _ _ (by decide) (by rw [eH]) (by rw [eH]) (mFl_i u1) (mB5_trans (mB5_G g2) (mB5_trans (mB5_G (nG_of u2)) mB5_bad))
