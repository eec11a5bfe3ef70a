/-! LAYER 3: a test's text, read by the reference: behind a fact -/
def gAg (T : Int → Int) (n : Int) (f : Nat) (S : List Int) (O : List St5) (p : Int) (w : Bool) : Jr5 := if (gCz T n f (pop1 10 10 S O).1 (pop1 10 10 S O).2 p w).1 ≠ 0 then ((gCz T n f (pop1 10 10 S O).1 (pop1 10 10 S O).2 p w).1, (gCz T n f (pop1 10 10 S O).1 (pop1 10 10 S O).2 p w).2.1, 0, [], [], 0, false)
  else gJn T n (gCz T n f (pop1 10 10 S O).1 (pop1 10 10 S O).2 p w).2.2.1 (gCz T n f (pop1 10 10 S O).1 (pop1 10 10 S O).2 p w).2.2.2.1 (gCz T n f (pop1 10 10 S O).1 (pop1 10 10 S O).2 p w).2.2.2.2.1 (gCz T n f (pop1 10 10 S O).1 (pop1 10 10 S O).2 p w).2.2.2.2.2
theorem gAg_f {T : Int → Int} {n p : Int} {S : List Int} {O : List St5} : (gAg T n 1000 S O p true).1 = (gAf T n S O p).1 ∧ (gAg T n 1000 S O p true).2.1 = (gAf T n S O p).2.1 ∧ ((gAg T n 1000 S O p true).1 = 0 → gAg T n 1000 S O p true = gAf T n S O p) := by
  unfold gAg gAf
  by_cases c : (gCz T n 1000 (pop1 10 10 S O).1 (pop1 10 10 S O).2 p true).1 ≠ 0
  · rw [if_pos c, if_pos c]
    exact ⟨rfl, rfl, fun e => absurd e c⟩
  · rw [if_neg c, if_neg c]
    exact ⟨rfl, rfl, fun _ => rfl⟩
theorem m_after_l {d : Nat} {T : Int → Int} {n c0 : Int} {G : Mm} {K : Kt} (hT : tpOk T n) (h0 : 0 ≤ c0) : ∀ (f : Nat) (S : List Int) (O : List St5) (M : Mm) (p : Int) (w : Bool) (x1 : Int), x1 + f = 1000 → 0 ≤ x1 → x1 + 1 ≤ p → vT G 1 S O → mSk S M → mO c0 O M → mTk T n p w M → M 154 6 = 0 → c0 + O.length + noT S ≤ 332 →
    (∀ M' p' w', (gAg T n f S O p w).1 = 1 → M' 154 6 = 0 → mTk T n p' w' M' → ¬ (tKi T n p' w' = 3 ∧ tVa T n p' = 59) → (gAg T n f S O p w).2.1 = tQ T n p' → mE c0 M M' → K 0 M') →
    (∀ M', (gAg T n f S O p w).1 = 1 → mFl T n M' 1 (gAg T n f S O p w).2.1 → mE c0 M M' → K 0 M') →
    (∀ M', (gAg T n f S O p w).1 = 0 → (gAg T n f S O p w).2.2.1 = 1 → mSk (gAg T n f S O p w).2.2.2.1 M' → mO c0 (gAg T n f S O p w).2.2.2.2.1 M' → mTk T n (gAg T n f S O p w).2.2.2.2.2.1 (gAg T n f S O p w).2.2.2.2.2.2 M' → M' 154 6 = 0 → mE c0 M M' → zWp (zSp (d + 6)) 192 K 12 [some (.inr (.inr 154)), some (.inl 1)] [] M') →
    (∀ M', (gAg T n f S O p w).1 = 0 → (gAg T n f S O p w).2.2.1 = 0 → mO c0 (gAg T n f S O p w).2.2.2.2.1 M' → mTk T n (gAg T n f S O p w).2.2.2.2.2.1 (gAg T n f S O p w).2.2.2.2.2.2 M' → M' 154 6 = 0 → mE c0 M M' → K 0 M') →
    zSp (d + 6) 191 [.inr (.inr 154)] M (fun z M' => zWp (zSp (d + 6)) 192 K 12 [some (.inr (.inr 154)), some (.inl z)] [] M')
  | 0, S, O, M, p, w, x1, hf, hx, h1, hv, hs, ho, h, hb, hl, hf1, hf2, hm, he => by
    have hn := hT.1
    have pn := h.2.1
    omega
  | f + 1, S, O, M, p, w, x1, hf, hx, h1, hv, hs, ho, h, hb, hl, hf1, hf2, hm, he => by
    have hn := hT.1
    have pn := h.2.1
    obtain ⟨k1, k2, k3, k4⟩ := pop1_k (G := G) (lo := 10) (hi := 10) (by decide) (by decide) S O hv
    obtain ⟨a1, a2, a3, a4⟩ := pop1_k (G := G) (lo := 11) (hi := 11) (by decide) (by decide) _ _ k1
    obtain ⟨b1, b2, b3, b4⟩ := pop1_k (G := G) (lo := 11) (hi := 12) (by decide) (by decide) _ _ k1
    have e12 := pop1_12 (S := (pop1 10 10 S O).1) (O := (pop1 10 10 S O).2) k1.1
    unfold gAg gCz at hf1 hf2 hm he
    rw [me_191]
    refine m_drops (d := d + 3) h0 (by decide) (by decide) hv.1 hv.2.1 hs ho hl ?_
    intro M1 s1 o1 q1
    have t1 := mTk_Q h q1
    have f1 : M1 154 6 = 0 := by rw [q1.2.2 6 (by decide) (by decide) (by decide)]; exact hb
    refine m_packed (by decide) ?_
    rw [show pkd 97 110 100 0 0 0 = 48365568 by decide]
    refine m_takes (d := d) hT t1 f1 (by decide) ?_ ?_
    · -- and
      intro M2 y1 y2 t2 g2
      rw [if_neg (show ¬ (tKi T n p w = 3 ∧ tVa T n p = 93) by omega)] at hm
      rw [if_neg (fun z => z rfl)] at hm
      unfold gJn at hm
      rw [if_pos ⟨y1, y2⟩] at hm
      have q2 : mE c0 M M2 := mE_trans q1.1 (mE_G (nG_of g2))
      have f2 : M2 154 6 = 0 := by rw [nF_bad g2]; exact f1
      refine zC_i (by decide) ⟨fun z => absurd z (by decide), fun _ => ?_⟩
      refine m_drops (d := d + 3) h0 (by decide) (by decide) k1.1 k1.2.1 (mSk_G s1 (nG_of g2)) (mO_G o1 (nG_of g2)) (by omega) ?_
      intro M3 s3 o3 q3
      have l20 := okA_20 a1.1 a1.2.1
      refine m_piles (c0 := c0) l20 s3 ?_
      intro M4 u1 u2 u3 u4 u5 u6
      have q4 := mQ_trans q3 u6
      refine hm M4 rfl rfl ⟨?_, ?_, u2, u3⟩ (mO_fr o3 (u4 38 (by decide)) (u5 169 (by decide) (by decide))) (mTk_Q t2 q4) (by rw [q4.2.2 6 (by decide) (by decide) (by decide)]; exact f2) (mE_trans q2 q4.1)
      · rw [u1]
        show _ = (((pop1 11 11 (pop1 10 10 S O).1 (pop1 10 10 S O).2).1.length + 1 : Nat) : Int)
        omega
      · rw [u4 41 (by decide), s3.2.1]
        show _ = (if _ then _ else _) + _
        rw [if_neg (by decide), Int.zero_add]
    · intro M2 nand t2 g2
      have q2 : mE c0 M M2 := mE_trans q1.1 (mE_G (nG_of g2))
      have f2 : M2 154 6 = 0 := by rw [nF_bad g2]; exact f1
      refine zC_i (by decide) ⟨fun _ => ?_, fun z => absurd rfl z⟩
      refine m_drops (d := d + 3) h0 (by decide) (by decide) k1.1 k1.2.1 (mSk_G s1 (nG_of g2)) (mO_G o1 (nG_of g2)) (by omega) ?_
      intro M3 s3 o3 q3
      have t3 := mTk_Q t2 q3
      have f3 : M3 154 6 = 0 := by rw [q3.2.2 6 (by decide) (by decide) (by decide)]; exact f2
      have Q3 : mE c0 M M3 := mE_trans q2 q3.1
      refine m_packed (by decide) ?_
      rw [show pkd 111 114 0 0 0 0 = 522190848 by decide]
      refine m_takes (d := d) hT t3 f3 (by decide) ?_ ?_
      · -- or
        intro M4 y1 y2 t4 g4
        rw [if_neg (show ¬ (tKi T n p w = 3 ∧ tVa T n p = 93) by omega)] at hm
        rw [if_neg (fun z => z rfl)] at hm
        unfold gJn at hm
        rw [if_neg nand, if_pos ⟨y1, y2⟩] at hm
        have Q4 : mE c0 M M4 := mE_trans Q3 (mE_G (nG_of g4))
        have f4 : M4 154 6 = 0 := by rw [nF_bad g4]; exact f3
        refine zC_i (by decide) ⟨fun z => absurd z (by decide), fun _ => ?_⟩
        refine m_drops (d := d + 3) h0 (by decide) (by decide) a1.1 a1.2.1 (mSk_G s3 (nG_of g4)) (mO_G o3 (nG_of g4)) (by omega) ?_
        intro M5 s5 o5 q5
        rw [e12] at s5 o5
        have l20 := okA_20 b1.1 b1.2.1
        refine m_piles (c0 := c0) l20 s5 ?_
        intro M6 u1 u2 u3 u4 u5 u6
        have q6 := mQ_trans q5 u6
        refine hm M6 rfl rfl ⟨?_, ?_, u2, u3⟩ (mO_fr o5 (u4 38 (by decide)) (u5 169 (by decide) (by decide))) (mTk_Q t4 q6) (by rw [q6.2.2 6 (by decide) (by decide) (by decide)]; exact f4) (mE_trans Q4 q6.1)
        · rw [u1]
          show _ = (((pop1 11 12 (pop1 10 10 S O).1 (pop1 10 10 S O).2).1.length + 1 : Nat) : Int)
          omega
        · rw [u4 41 (by decide), s5.2.1]
          show _ = (if _ then _ else _) + _
          rw [if_neg (by decide), Int.zero_add]
      · intro M4 nor t4 g4
        have Q4 : mE c0 M M4 := mE_trans Q3 (mE_G (nG_of g4))
        have f4 : M4 154 6 = 0 := by rw [nF_bad g4]; exact f3
        refine zC_i (by decide) ⟨fun _ => ?_, fun z => absurd rfl z⟩
        refine m_drops (d := d + 3) h0 (by decide) (by decide) a1.1 a1.2.1 (mSk_G s3 (nG_of g4)) (mO_G o3 (nG_of g4)) (by omega) ?_
        intro M5 s5 o5 q5
        rw [e12] at s5 o5
        have t5 := mTk_Q t4 q5
        have f5 : M5 154 6 = 0 := by rw [q5.2.2 6 (by decide) (by decide) (by decide)]; exact f4
        have Q5 : mE c0 M M5 := mE_trans Q4 q5.1
        rw [fe_192_12]
        refine m_fine f5 (zC_i (by decide) ⟨fun z => absurd z (by decide), fun _ => zC_i (by decide) ⟨fun z => absurd rfl z, fun _ => ?_⟩⟩)
        have l20 := okA_20 b1.1 b1.2.1
        by_cases cE : (pop1 11 12 (pop1 10 10 S O).1 (pop1 10 10 S O).2).1 = []
        · rw [cE] at s5
          rw [s5.1]
          refine zC_i (by decide) ⟨fun _ => ?_, fun z => absurd (by decide) z⟩
          by_cases c93 : tKi T n p w = 3 ∧ tVa T n p = 93
          · rw [if_pos c93, if_pos cE] at hf1
            rw [if_pos (show (1 : Int) ≠ 0 by decide)] at hf1
            exact hf1 M5 p w rfl f5 t5 (by omega) rfl Q5
          · rw [if_neg c93] at he
            rw [if_neg (fun z => z rfl)] at he
            unfold gJn at he
            rw [if_neg nand, if_neg nor, if_pos cE] at he
            exact he M5 rfl rfl o5 t5 f5 Q5
        · obtain ⟨R, r1, r2, r3, r4⟩ := pop1_13 (G := G) k1 (by omega) cE
          rw [r1] at s5
          obtain ⟨v1, v2, v3, v4⟩ := s5
          obtain ⟨m, hm'⟩ : ∃ m : Int, m = (R.length : Int) := ⟨_, rfl⟩
          have v1' : M5 154 40 = m + 1 := by
            rw [v1]
            show ((R.length + 1 : Nat) : Int) = m + 1
            omega
          have lr := okA_20 r2.1 r2.2.1
          rw [v1']
          refine zC_i (zr (by omega) (by omega)) ⟨fun z => absurd z (by omega), fun _ => ?_⟩
          rw [fe_192_30]
          refine zC_i (by decide) ⟨fun _ => ?_, fun z => absurd rfl z⟩
          refine m_needsSign (d := d + 2) hT t5 f5 (by unfold sgn; decide) ?_ ?_
          · intro M6 z1 z2 t6 g6
            have c93 : tKi T n p w = 3 ∧ tVa T n p = 93 := ⟨z1, z2⟩
            have f6 : M6 154 6 = 0 := by rw [nF_bad g6]; exact f5
            have ng := nG_of g6
            rw [if_pos c93, if_neg cE, r1, show (13 :: R).tail = R from rfl] at hf1 hf2 hm he
            have m40 : M6 154 40 = m + 1 := by rw [g6.2 40 (by decide) (by decide) (by decide) (by decide)]; exact v1'
            have m41 : M6 154 41 = nsT R + 1 := by rw [g6.2 41 (by decide) (by decide) (by decide) (by decide), v2, r3]
            refine m_fine f6 (zC_i (by decide) ⟨fun _ => ?_, fun z => absurd (by decide) z⟩)
            rw [m40, m41, show m + 1 - 1 = m by omega, show nsT R + 1 - 1 = nsT R by omega]
            have q7 : mQ c0 M6 (zUp (zUp M6 154 40 m) 154 41 (nsT R)) := ⟨⟨fun c h1 _ _ => by rw [zUp_away h1, zUp_away h1], fun i _ => by rw [zUp_away (by decide), zUp_away (by decide)], fun j hj => by rw [zUp_there (by omega), zUp_there (by omega)]⟩, by rw [zUp_away (by decide), zUp_away (by decide)], fun j _ h2 h3 => by rw [zUp_there h3, zUp_there h2]⟩
            have Q7 : mE c0 M (zUp (zUp M6 154 40 m) 154 41 (nsT R)) := mE_trans Q5 (mE_trans (mE_G ng) q7.1)
            have ad := tAdv (T := T) (w := w) pn.2 (by rw [z1]; decide)
            refine m_after_l (G := G) hT h0 f R _ _ (tEn T n p) false (x1 + 1) (by omega) (by omega) (by omega) r2 ⟨by rw [zUp_there (by decide), zUp_here]; exact hm', by rw [zUp_here], mSs_fr R (fun j _ _ => by rw [zUp_away (by decide), zUp_away (by decide), g6.1 176 (by decide)]) v4⟩ (mO_fr (mO_G o5 ng) (by rw [zUp_there (by decide), zUp_there (by decide)]) (by rw [zUp_away (by decide), zUp_away (by decide)])) (mTk_Q t6 q7) (by rw [zUp_there (by decide), zUp_there (by decide)]; exact f6) (by omega) ?_ ?_ ?_ ?_
            · intro M' p' w' i1 i2 i3 i4 i5 i6
              exact hf1 M' p' w' i1 i2 i3 i4 i5 (mE_trans Q7 i6)
            · intro M' i1 i2 i3
              exact hf2 M' i1 i2 (mE_trans Q7 i3)
            · intro M' i1 i2 i3 i4 i5 i6 i7
              exact hm M' i1 i2 i3 i4 i5 i6 (mE_trans Q7 i7)
            · intro M' i1 i2 i3 i4 i5 i6
              exact he M' i1 i2 i3 i4 i5 (mE_trans Q7 i6)
          · intro M6 nz t6 g6
            rw [if_neg nz] at hf2
            rw [if_neg (fun z => z rfl)] at hf2
            unfold gJn at hf2
            rw [if_neg nand, if_neg nor, if_neg cE] at hf2
            refine m_unfine (by rw [zUp_there (by decide), zUp_here]; decide) (zC_i (by decide) ⟨fun z => absurd rfl z, fun _ => ?_⟩)
            exact hf2 _ rfl (mFl_i t6) (mE_trans Q5 (mE_trans (mE_G (nG_of g6)) mE_bad))
