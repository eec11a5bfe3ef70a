/-! LAYER 3: a test's text, read by the reference: rounds -/
def gRg (T : Int → Int) (n : Int) (G : Mm) (f : Nat) (S : List Int) (O : List St5) (p : Int) (w : Bool) : Jr5 := if (gAh T n f S p w).1 ≠ 0 then ((gAh T n f S p w).1, (gAh T n f S p w).2.1, 0, [], [], 0, false)
  else if (gFa T n G (gAh T n f S p w).2.2.2.1 (gAh T n f S p w).2.2.2.2).1 ≠ 0 then ((gFa T n G (gAh T n f S p w).2.2.2.1 (gAh T n f S p w).2.2.2.2).1, (gFa T n G (gAh T n f S p w).2.2.2.1 (gAh T n f S p w).2.2.2.2).2.1, 0, [], [], 0, false)
  else gAg T n 1000 (gAh T n f S p w).2.2.1 (O ++ [(gFa T n G (gAh T n f S p w).2.2.2.1 (gAh T n f S p w).2.2.2.2).2.2.1]) (gFa T n G (gAh T n f S p w).2.2.2.1 (gAh T n f S p w).2.2.2.2).2.2.2 true
theorem gRg_f {T : Int → Int} {n p : Int} {w : Bool} {G : Mm} {S : List Int} {O : List St5} : (gRg T n G 7 S O p w).1 = (gRd T n G S O p w).1 ∧ (gRg T n G 7 S O p w).2.1 = (gRd T n G S O p w).2.1 ∧ ((gRg T n G 7 S O p w).1 = 0 → gRg T n G 7 S O p w = gRd T n G S O p w) := by
  unfold gRg gRd
  by_cases c : (gAh T n 7 S p w).1 ≠ 0
  · rw [if_pos c, if_pos c]
    exact ⟨rfl, rfl, fun e => absurd e c⟩
  · rw [if_neg c, if_neg c]
    by_cases c2 : (gFa T n G (gAh T n 7 S p w).2.2.2.1 (gAh T n 7 S p w).2.2.2.2).1 ≠ 0
    · rw [if_pos c2, if_pos c2]
      exact ⟨rfl, rfl, fun e => absurd e c2⟩
    · rw [if_neg c2, if_neg c2]
      exact gAg_f
theorem m_un12t {d : Nat} {M : Mm} {K : Kt} {x1 : Int} (h : 1 ≤ M 154 6 ∧ M 154 6 ≤ 5) (hK : K 0 M) : zWp (zSp (d + 1)) 192 K 12 [some (.inr (.inr 154)), some (.inl x1)] [] M := by
  rw [fe_192_12]
  exact m_unfine h (zC_i (by decide) ⟨fun _ => hK, fun z => absurd rfl z⟩)
theorem m_un46t {d : Nat} {M : Mm} {K : Kt} {x1 : Int} (h : 1 ≤ M 154 6 ∧ M 154 6 ≤ 5) (hK : K 0 M) : zWp (zSp (d + 1)) 192 K 46 [some (.inr (.inr 154)), some (.inl x1)] [.inl 0] M := by
  rw [fe_192_46]
  exact zC_i (by decide) ⟨fun z => absurd rfl z, fun _ => m_unfine h (zC_i (by decide) ⟨fun _ => m_un12t h hK, fun z => absurd rfl z⟩)⟩
theorem m_round_l {d : Nat} {T : Int → Int} {n c0 : Int} {G : Mm} {K : Kt} {O : List St5} (hT : tpOk T n) (hg : gLn G) (h0 : 0 ≤ c0) : ∀ (f : Nat) (S : List Int) (M : Mm) (p : Int) (w : Bool), (7 : Int) ≤ nsT S + f → 1 ≤ p → vT G 0 S O → mSk S M → mO c0 O M → mTk T n p w M → M 154 6 = 0 → mG G M → 3 * (c0 + 1 + O.length + noT S) ≤ p →
    (∀ M' p' w', (gRg T n G f S O p w).1 = 1 → M' 154 6 = 0 → mTk T n p' w' M' → ¬ (tKi T n p' w' = 3 ∧ tVa T n p' = 59) → (gRg T n G f S O p w).2.1 = tQ T n p' → mE c0 M M' → K 0 M') →
    (∀ M', 1 ≤ (gRg T n G f S O p w).1 ∧ (gRg T n G f S O p w).1 ≤ 5 → mFl T n M' (gRg T n G f S O p w).1 (gRg T n G f S O p w).2.1 → mE c0 M M' → K 0 M') →
    (∀ M', (gRg T n G f S O p w).1 = 0 → (gRg T n G f S O p w).2.2.1 = 1 → mSk (gRg T n G f S O p w).2.2.2.1 M' → mO c0 (gRg T n G f S O p w).2.2.2.2.1 M' → mTk T n (gRg T n G f S O p w).2.2.2.2.2.1 (gRg T n G f S O p w).2.2.2.2.2.2 M' → M' 154 6 = 0 → mE c0 M M' → zWp (zSp (d + 8)) 192 K 12 [some (.inr (.inr 154)), some (.inl 1)] [] M') →
    (∀ M', (gRg T n G f S O p w).1 = 0 → (gRg T n G f S O p w).2.2.1 = 0 → mO c0 (gRg T n G f S O p w).2.2.2.2.1 M' → mTk T n (gRg T n G f S O p w).2.2.2.2.2.1 (gRg T n G f S O p w).2.2.2.2.2.2 M' → M' 154 6 = 0 → mE c0 M M' → K 0 M') →
    zWp (zSp (d + 8)) 192 K 12 [some (.inr (.inr 154)), some (.inl 1)] [] M
  | 0, S, M, p, w, hf, h1, hv, hs, ho, h, hb, hx, hl, hf1, hf2, hm, he => by have := hv.2.1; omega
  | f + 1, S, M, p, w, hf, h1, hv, hs, ho, h, hb, hx, hl, hf1, hf2, hm, he => by
    have hn := hT.1
    have pn := h.2.1
    have l20 := okA_20 hv.1 hv.2.1
    have nn := nsT_nn S
    have pe := (tEn_s (T := T) pn.2).2.1
    unfold gRg gAh at hf1 hf2 hm he
    rw [fe_192_12]
    refine m_fine hb (zC_i (by decide) ⟨fun z => absurd z (by decide), fun _ => zC_i (by decide) ⟨fun _ => ?_, fun z => absurd (by decide) z⟩⟩)
    rw [fe_192_30]
    refine zC_i (by decide) ⟨fun z => absurd z (by decide), fun _ => ?_⟩
    rw [me_190]
    refine m_packed (by decide) ?_
    rw [show pkd 110 111 116 0 0 0 = 486146048 by decide]
    refine m_isWord (d := d + 3) hT h (by decide) ?_
    intro M1 f1 g1 wd1
    have b1 : M1 154 6 = 0 := by rw [nF_bad g1]; exact hb
    have s1 := mSk_G hs (nG_of g1)
    have o1 := mO_G ho (nG_of g1)
    have E1 : mE c0 M M1 := mE_G (nG_of g1)
    -- too many
    have bad : ∀ (x : Int) (M2 : Mm), nsT S = 6 → mSk S M2 → mTk T n p w M2 → M2 154 6 = 0 → mE c0 M M2 → (∀ M', 1 ≤ (4 : Int) ∧ (4 : Int) ≤ 5 → mFl T n M' 4 (tQ T n p) → mE c0 M M' → K 0 M') → zWp (zSp (d + 7)) 190 (fun z4 M4 => zC (zR32 z4) ((¬ z4 = 0 → zWp (zSp (d + 8)) 192 K 46 [some (.inr (.inr 154)), some (.inl 1)] [.inl 0] M4) ∧ (¬ (¬ z4 = 0) → zWp (zSp (d + 8)) 192 K 46 [some (.inr (.inr 154)), some (.inl 1)] [.inl 1] M4))) 36 [some (.inr (.inr 154)), some (.inl x)] [] M2 := by
      intro x M2 e6 s2 t2 b2 E2 hk
      rw [fe_190_36, s2.2.1, e6]
      refine zC_i (by decide) ⟨fun z => absurd rfl z, fun _ => ?_⟩
      refine m_next hT t2 ?_
      intro M3 u1 u4 u2 u3
      have nf := nx_nF u2 u3
      refine m_fail (by rw [nF_bad nf]; exact b2) ?_
      have bb : 1 ≤ (zUp (zUp M3 154 6 4) 154 7 (tQ T n p)) 154 6 ∧ (zUp (zUp M3 154 6 4) 154 7 (tQ T n p)) 154 6 ≤ 5 := by rw [zUp_there (by decide), zUp_here]; decide
      rw [fe_190_54]
      refine m_unfine bb (zC_i (by decide) ⟨fun z => absurd rfl z, fun _ => zC_i (by decide) ⟨fun _ => ?_, fun z => absurd (by decide) z⟩⟩)
      exact m_un46t bb (hk _ (by decide) (mFl_i u1) (mE_trans E2 (mE_trans (mE_G (nG_of nf)) mE_bad)))
    -- one more waits
    have push : ∀ (s x : Int) (w' : Bool) (M2 : Mm), (s = 10 ∧ x = 1 ∨ s = 13 ∧ x = 0) → nsT S ≠ 6 → mSk S M2 → mO c0 O M2 → mTk T n (tEn T n p) w' M2 → M2 154 6 = 0 → mE c0 M M2 → 3 * (c0 + 1 + O.length + noT (s :: S)) ≤ tEn T n p →
        (∀ M' p' w'', (gRg T n G f (s :: S) O (tEn T n p) w').1 = 1 → M' 154 6 = 0 → mTk T n p' w'' M' → ¬ (tKi T n p' w'' = 3 ∧ tVa T n p' = 59) → (gRg T n G f (s :: S) O (tEn T n p) w').2.1 = tQ T n p' → mE c0 M M' → K 0 M') →
        (∀ M', 1 ≤ (gRg T n G f (s :: S) O (tEn T n p) w').1 ∧ (gRg T n G f (s :: S) O (tEn T n p) w').1 ≤ 5 → mFl T n M' (gRg T n G f (s :: S) O (tEn T n p) w').1 (gRg T n G f (s :: S) O (tEn T n p) w').2.1 → mE c0 M M' → K 0 M') →
        (∀ M', (gRg T n G f (s :: S) O (tEn T n p) w').1 = 0 → (gRg T n G f (s :: S) O (tEn T n p) w').2.2.1 = 1 → mSk (gRg T n G f (s :: S) O (tEn T n p) w').2.2.2.1 M' → mO c0 (gRg T n G f (s :: S) O (tEn T n p) w').2.2.2.2.1 M' → mTk T n (gRg T n G f (s :: S) O (tEn T n p) w').2.2.2.2.2.1 (gRg T n G f (s :: S) O (tEn T n p) w').2.2.2.2.2.2 M' → M' 154 6 = 0 → mE c0 M M' → zWp (zSp (d + 8)) 192 K 12 [some (.inr (.inr 154)), some (.inl 1)] [] M') →
        (∀ M', (gRg T n G f (s :: S) O (tEn T n p) w').1 = 0 → (gRg T n G f (s :: S) O (tEn T n p) w').2.2.1 = 0 → mO c0 (gRg T n G f (s :: S) O (tEn T n p) w').2.2.2.2.1 M' → mTk T n (gRg T n G f (s :: S) O (tEn T n p) w').2.2.2.2.2.1 (gRg T n G f (s :: S) O (tEn T n p) w').2.2.2.2.2.2 M' → M' 154 6 = 0 → mE c0 M M' → K 0 M') →
        zWp (zSp (d + 7)) 190 (fun z4 M4 => zC (zR32 z4) ((¬ z4 = 0 → zWp (zSp (d + 8)) 192 K 46 [some (.inr (.inr 154)), some (.inl 1)] [.inl 0] M4) ∧ (¬ (¬ z4 = 0) → zWp (zSp (d + 8)) 192 K 46 [some (.inr (.inr 154)), some (.inl 1)] [.inl 1] M4))) 84 [some (.inr (.inr 154)), some (.inl x)] [] M2 := by
      intro s x w' M2 hsx n6 s2 o2 t2 b2 E2 hl2 k1 k2 k3 k4
      have es : nsT (s :: S) = nsT S + 1 := by
        rcases hsx with e | e
        · rw [e.1]; exact nsT_10
        · rw [e.1]; exact nsT_13
      have ej : njT (s :: S) = njT S := by
        show (if _ then _ else _) + _ = _
        rw [if_neg (by omega)]; omega
      have oa : okA (s :: S) := ⟨by omega, fun q => by omega, fun q => by omega, hv.1⟩
      have vs : vT G 0 (s :: S) O := ⟨oa, by have := hv.2.1; omega, by rw [ej]; exact hv.2.2.1, hv.2.2.2⟩
      have p106 : zWp (zSp (d + 7)) 190 (fun z4 M4 => zC (zR32 z4) ((¬ z4 = 0 → zWp (zSp (d + 8)) 192 K 46 [some (.inr (.inr 154)), some (.inl 1)] [.inl 0] M4) ∧ (¬ (¬ z4 = 0) → zWp (zSp (d + 8)) 192 K 46 [some (.inr (.inr 154)), some (.inl 1)] [.inl 1] M4))) 106 [some (.inr (.inr 154)), some (.inl x)] [.inl s, .inr (.inr 154)] (zUp M2 154 41 (nsT S + 1)) := by
        rw [fe_190_106, me_188, zUp_there (show (40 : Int) ≠ 41 by decide)]
        obtain ⟨m, hm'⟩ : ∃ m : Int, m = (S.length : Int) := ⟨_, rfl⟩
        rw [show M2 154 40 = m by rw [s2.1, hm']]
        refine zC_i (zs (by omega) (by omega)) (zC_i (by decide) ⟨fun z => absurd rfl z, fun _ => ?_⟩)
        rw [fe_192_46]
        refine zC_i (by decide) ⟨fun _ => ?_, fun z => absurd (by decide) z⟩
        have q3 : mQ c0 M2 (zUp (zUp (zUp M2 154 41 (nsT S + 1)) 176 m s) 154 40 (m + 1)) := ⟨⟨fun c a _ b => by rw [zUp_away a, zUp_away b, zUp_away a], fun i _ => by rw [zUp_away (by decide), zUp_away (by decide), zUp_away (by decide)], fun j hj => by rw [zUp_there (by omega), zUp_away (by decide), zUp_there (by omega)]⟩, by rw [zUp_away (by decide), zUp_away (by decide), zUp_away (by decide)], fun j _ a b => by rw [zUp_there a, zUp_away (by decide), zUp_there b]⟩
        have E3 := mE_trans E2 q3.1
        refine m_round_l hT hg h0 f (s :: S) _ (tEn T n p) w' (by omega) (by have := tQ_s (T := T) pn.2; have := tEn_s (T := T) pn.2; omega) vs ⟨?_, by rw [zUp_there (by decide), zUp_away (by decide), zUp_here, es], ?_, mSs_fr S (fun j j0 j1 => by rw [zUp_away (by decide), zUp_there (by omega), zUp_away (by decide)]) s2.2.2⟩ (mO_fr o2 (by rw [zUp_there (by decide), zUp_away (by decide), zUp_there (by decide)]) (by rw [zUp_away (by decide), zUp_away (by decide), zUp_away (by decide)])) (mTk_Q t2 q3) (by rw [q3.2.2 6 (by decide) (by decide) (by decide)]; exact b2) (mG_E hx E3) hl2 (fun M' p' w'' i1 i2 i3 i4 i5 i6 => k1 M' p' w'' i1 i2 i3 i4 i5 (mE_trans E3 i6)) (fun M' i1 i2 i3 => k2 M' i1 i2 (mE_trans E3 i3)) (fun M' i1 i2 i3 i4 i5 i6 i7 => k3 M' i1 i2 i3 i4 i5 i6 (mE_trans E3 i7)) (fun M' i1 i2 i3 i4 i5 i6 => k4 M' i1 i2 i3 i4 i5 (mE_trans E3 i6))
        · rw [zUp_here]
          show m + 1 = ((S.length + 1 : Nat) : Int)
          omega
        · rw [zUp_away (by decide), ← hm', zUp_here]
      rw [fe_190_84, s2.2.1]
      rcases hsx with e | e
      · rw [e.1, e.2] at p106
        rw [e.2]
        exact zC_i (by decide) ⟨fun z => absurd z (by decide), fun _ => p106⟩
      · rw [e.1, e.2] at p106
        rw [e.2]
        exact zC_i (by decide) ⟨fun _ => p106, fun z => absurd rfl z⟩
    by_cases c1 : tKi T n p w = 1 ∧ tVa T n p = 486146048
    · rw [fl_t c1]
      rw [if_pos c1] at hf1 hf2 hm he
      refine zC_i (by decide) ⟨fun _ => ?_, fun z => absurd (by decide) z⟩
      by_cases c2 : nsT S = 6
      · rw [if_pos c2] at hf2
        rw [if_pos (show (4 : Int) ≠ 0 by decide)] at hf2
        exact bad 1 M1 c2 s1 f1 b1 E1 hf2
      · rw [if_neg c2] at hf1 hf2 hm he
        have l3 := tLen3 pn.2 c1 (by decide)
        have eo : noT (10 :: S) = 1 + noT S := by show (if _ then _ else _) + _ = _; rw [if_neg (by decide)]
        have n6 := hv.2.1
        rw [fe_190_36, s1.2.1]
        refine zC_i (zr (by omega) (by omega)) ⟨fun _ => ?_, fun z => absurd c2 z⟩
        rw [fe_190_54]
        refine m_fine b1 (zC_i (by decide) ⟨fun _ => zC_i (by decide) ⟨fun z => absurd z (by decide), fun _ => ?_⟩, fun z => absurd (by decide) z⟩)
        refine m_pass f1 c1.1 (wd1 c1.1) ?_
        intro M2 t2 g2
        exact push 10 1 true M2 (.inl ⟨rfl, rfl⟩) c2 (mSk_G s1 (nG_of g2)) (mO_G o1 (nG_of g2)) t2 (by rw [nF_bad g2]; exact b1) (mE_trans E1 (mE_G (nG_of g2))) (by omega) hf1 hf2 hm he
    · rw [fl_f c1]
      rw [if_neg c1] at hf1 hf2 hm he
      refine zC_i (by decide) ⟨fun z => absurd rfl z, fun _ => ?_⟩
      refine m_isSign (d := d + 5) hT f1 (by unfold sgn; decide) ?_
      intro M2 t2 u4 g2
      have b2 : M2 154 6 = 0 := by rw [nF_bad g2]; exact b1
      have s2 := mSk_G s1 (nG_of g2)
      have o2 := mO_G o1 (nG_of g2)
      have E2 : mE c0 M M2 := mE_trans E1 (mE_G (nG_of g2))
      by_cases c3 : tKi T n p w = 3 ∧ tVa T n p = 91
      · rw [fl_t c3]
        rw [if_pos c3] at hf1 hf2 hm he
        refine zC_i (by decide) ⟨fun _ => ?_, fun z => absurd (by decide) z⟩
        by_cases c2 : nsT S = 6
        · rw [if_pos c2] at hf2
          rw [if_pos (show (4 : Int) ≠ 0 by decide)] at hf2
          exact bad 0 M2 c2 s2 t2 b2 E2 hf2
        · rw [if_neg c2] at hf1 hf2 hm he
          have ad := tAdv (T := T) (w := w) pn.2 (by rw [c3.1]; decide)
          have eo : noT (13 :: S) = 0 + noT S := by show (if _ then _ else _) + _ = _; rw [if_pos rfl]
          have n6 := hv.2.1
          rw [fe_190_36, s2.2.1]
          refine zC_i (zr (by omega) (by omega)) ⟨fun _ => ?_, fun z => absurd c2 z⟩
          rw [fe_190_54]
          refine m_fine b2 (zC_i (by decide) ⟨fun _ => zC_i (by decide) ⟨fun _ => ?_, fun z => absurd rfl z⟩, fun z => absurd (by decide) z⟩)
          have sg := mTk_sign t2 u4 c3.1
          exact push 13 0 false _ (.inr ⟨rfl, rfl⟩) c2 (mSk_G s2 (nG_of sg.2)) (mO_G o2 (nG_of sg.2)) sg.1 (by rw [nF_bad sg.2]; exact b2) (mE_trans E2 (mE_G (nG_of sg.2))) (by omega) hf1 hf2 hm he
      · rw [fl_f c3]
        rw [if_neg c3] at hf1 hf2 hm he
        rw [if_neg (fun z => z rfl)] at hf1 hf2 hm he
        dsimp only at hf1 hf2 hm he
        refine zC_i (by decide) ⟨fun z => absurd rfl z, fun _ => ?_⟩
        have fk := gFa_k (T := T) (w := w) hg pn.2
        refine m_fact (d := d) hT hg (mG_E hx E2) t2 b2 o2 h0 (by omega) ⟨?_, ?_⟩
        · intro M3 e3 fl3 q3
          rw [if_pos e3] at hf2
          have kb : 1 ≤ (gFa T n G p w).1 ∧ (gFa T n G p w).1 ≤ 5 := fk.elim (fun u => absurd u.1 e3) (fun u => u)
          refine zC_i (by decide) ⟨fun _ => m_un46t (by rw [fl3.1]; exact kb) ?_, fun z => absurd (by decide) z⟩
          exact hf2 M3 kb fl3 (mE_trans E2 q3)
        · intro M3 e3 o3 t3 b3 v1 v2 v3 q3
          rw [if_neg (fun z => z e3)] at hf1 hf2 hm he
          rcases fk with ⟨y1, y2, y3, y4, y5⟩ | fk
          · generalize gFa T n G p w = F at *
            obtain ⟨_, _, s5, p2⟩ := F
            dsimp only at e3 o3 t3 y1 y2 y3 y4 y5 hf1 hf2 hm he
            have E3 : mE c0 M M3 := mE_trans E2 q3
            obtain ⟨d1, d2, d3, d4⟩ := hv
            have jl := njT_len S
            have ol : ((O ++ [s5]).length : Int) = O.length + 1 := by rw [List.length_append]; show ((O.length + 1 : Nat) : Int) = _; omega
            have v5 : vT G 1 S (O ++ [s5]) := ⟨d1, d2, wD_snoc (.inr (.inr ⟨y3, by omega, by omega⟩)) O 0 d3, fun s hs => by
              rcases List.mem_append.mp hs with q | q
              · exact d4 s q
              · rw [List.mem_singleton.mp q]; exact y2⟩
            refine zC_i (by decide) ⟨fun _ => ?_, fun z => absurd (by decide) z⟩
            rw [fe_192_46]
            refine zC_i (by decide) ⟨fun z => absurd rfl z, fun _ => m_fine b3 (zC_i (by decide) ⟨fun z => absurd z (by decide), fun _ => ?_⟩)⟩
            refine m_after_l (d := d + 2) (G := G) hT h0 1000 S (O ++ [s5]) M3 p2 true 0 (by omega) (by omega) (by omega) v5 (mSk_fr s2 v2 v3 v1) o3 t3 b3 (by omega) ?_ ?_ ?_ ?_
            · intro M' p' w' i1 i2 i3 i4 i5 i6
              exact hf1 M' p' w' i1 i2 i3 i4 i5 (mE_trans E3 i6)
            · intro M' i1 i2 i3
              refine hf2 M' (by omega) ?_ (mE_trans E3 i3)
              rw [i1]; exact i2
            · intro M' i1 i2 i3 i4 i5 i6 i7
              exact hm M' i1 i2 i3 i4 i5 i6 (mE_trans E3 i7)
            · intro M' i1 i2 i3 i4 i5 i6
              exact he M' i1 i2 i3 i4 i5 (mE_trans E3 i6)
          · omega
theorem m_test_l {d : Nat} {T : Int → Int} {n c0 : Int} {G : Mm} {K : Kt} (hT : tpOk T n) (hg : gLn G) (h0 : 0 ≤ c0) : ∀ (f : Nat) (S : List Int) (O : List St5) (M : Mm) (p : Int) (w : Bool) (x1 : Int), x1 + f = 1000 → 0 ≤ x1 → x1 + 1 ≤ p → mG G M → vT G 0 S O → mSk S M → mO c0 O M → mTk T n p w M → M 154 6 = 0 → 3 * (c0 + 1 + O.length + noT S) ≤ p →
    (∀ M' p' w', (gTe T n G f S O p w).1 = 1 → M' 154 6 = 0 → mTk T n p' w' M' → ¬ (tKi T n p' w' = 3 ∧ tVa T n p' = 59) → (gTe T n G f S O p w).2.1 = tQ T n p' → mE c0 M M' → K 0 M') →
    (∀ M', 1 ≤ (gTe T n G f S O p w).1 ∧ (gTe T n G f S O p w).1 ≤ 5 → mFl T n M' (gTe T n G f S O p w).1 (gTe T n G f S O p w).2.1 → mE c0 M M' → K 0 M') →
    (∀ M', (gTe T n G f S O p w).1 = 0 → mO c0 (gTe T n G f S O p w).2.2.1 M' → mTk T n (gTe T n G f S O p w).2.2.2.1 (gTe T n G f S O p w).2.2.2.2 M' → M' 154 6 = 0 → mE c0 M M' → K 0 M') →
    zWp (zSp (d + 8)) 192 K 12 [some (.inr (.inr 154)), some (.inl 1)] [] M
  | 0, S, O, M, p, w, x1, hf, h2, h1, hx, hv, hs, ho, h, hb, hl, hf1, hf2, he => by
    have hn := hT.1
    have pn := h.2.1
    omega
  | f + 1, S, O, M, p, w, x1, hf, h2, h1, hx, hv, hs, ho, h, hb, hl, hf1, hf2, he => by
    have hn := hT.1
    have pn := h.2.1
    have nn := nsT_nn S
    have rk := gRd_k (T := T) (w := w) (bl := c0 + 1) hg hn.2 (by omega) pn.2 hv hl
    obtain ⟨g1, g2, g3⟩ := gRg_f (T := T) (n := n) (p := p) (w := w) (G := G) (S := S) (O := O)
    unfold gTe at hf1 hf2 he
    refine m_round_l hT hg h0 7 S M p w (by omega) (by omega) hv hs ho h hb hx hl ?_ ?_ ?_ ?_
    · intro M' p' w' i1 i2 i3 i4 i5 i6
      rw [if_pos (by omega)] at hf1
      exact hf1 M' p' w' (by show (gRd T n G S O p w).1 = 1; omega) i2 i3 i4 (by show (gRd T n G S O p w).2.1 = _; rw [← g2]; exact i5) i6
    · intro M' i1 i2 i3
      rw [if_pos (by omega)] at hf2
      refine hf2 M' (by show 1 ≤ (gRd T n G S O p w).1 ∧ (gRd T n G S O p w).1 ≤ 5; omega) ?_ i3
      show mFl T n M' (gRd T n G S O p w).1 (gRd T n G S O p w).2.1
      rw [← g1, ← g2]
      exact i2
    · intro M' i1 i2 i3 i4 i5 i6 i7
      have e := g3 i1
      rw [e] at i1 i2 i3 i4 i5
      rw [if_neg (fun z => z i1), if_pos i2] at hf1 hf2 he
      rcases rk with ⟨_, ⟨b1, b2, b3, b4⟩ | ⟨b1, _⟩⟩ | rk
      · exact m_test_l hT hg h0 f _ _ M' _ _ (x1 + 1) (by omega) (by omega) (by omega) (mG_E hx i7) b2 i3 i4 i5 i6 b3 (fun M2 p' w' y1 y2 y3 y4 y5 y6 => hf1 M2 p' w' y1 y2 y3 y4 y5 (mE_trans i7 y6)) (fun M2 y1 y2 y3 => hf2 M2 y1 y2 (mE_trans i7 y3)) (fun M2 y1 y2 y3 y4 y5 => he M2 y1 y2 y3 y4 (mE_trans i7 y5))
      · omega
      · omega
    · intro M' i1 i2 i3 i4 i5 i6
      have e := g3 i1
      rw [e] at i1 i2 i3 i4
      rw [if_neg (fun z => z i1), if_neg (by omega)] at he
      exact he M' rfl i3 i4 i5 i6
