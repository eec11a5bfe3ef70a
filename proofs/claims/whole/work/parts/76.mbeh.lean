/-! LAYER 3: the sorts behind a line's name, read by the reference -/
def mPt (G M : Mm) (l : Int) : Prop := ∀ i, 0 ≤ i → i < G 8 l → M 159 (8 * l + 4 + i) = G 10 (l * 4 + i)
theorem m_beh84 {d : Nat} {M : Mm} {K : Kt} {l i s : Int} {u : Option Vl} (hl : 0 ≤ l ∧ l < 24) (hs : s = 0 ∨ s = 1) (hK : K 0 (zUp (zUp M 159 (8 * l + 2) i) 159 (8 * l + 3) s)) : zWp (zSp (d + 1)) 165 K 84 [some (.inr (.inr 154)), some (.inl l), some (.inl i), some (.inl s), u] [] M := by
  rw [fe_165_84]
  refine zC_i (zs (by omega) (by omega)) (m_flag hs (zC_i (zs (by omega) (by omega)) hK))
theorem m_behind_l {d : Nat} {T : Int → Int} {n l : Int} {K : Kt} (hT : tpOk T n) (hl2 : 0 ≤ l ∧ l < 24) : ∀ (f : Nat) (M G : Mm) (i p : Int) (w : Bool) (u : Option Vl), i + f = 5 → 0 ≤ i → 1 ≤ f → gLn G → 1 ≤ G 4 0 → l = G 4 0 - 1 → G 8 l = i → G 9 l = 0 → mRs G M → mPt G M l → mTk T n p w M → M 154 6 = 0 →
    (∀ M', (gBh T n f i G p w).1 = 4 → mFl T n M' 4 (gBh T n f i G p w).2.1 → nH M M' → K 0 M') →
    (∀ M' p' w', (gBh T n f i G p w).1 = 1 → mTk T n p' w' M' → ¬ (tKi T n p' w' = 3 ∧ tVa T n p' = 59) → (gBh T n f i G p w).2.1 = tQ T n p' → M' 154 6 = 0 → nH M M' → K 0 M') →
    (∀ M', (gBh T n f i G p w).1 = 0 → mTk T n (gBh T n f i G p w).2.2.2.1 (gBh T n f i G p w).2.2.2.2 M' → M' 154 6 = 0 → mRs (gBh T n f i G p w).2.2.1 M' → mPt (gBh T n f i G p w).2.2.1 M' l → M' 159 (8 * l + 2) = (gBh T n f i G p w).2.2.1 8 l → M' 159 (8 * l + 3) = (gBh T n f i G p w).2.2.1 9 l → (∀ j, j ≠ 193 → (j < 8 * l + 2 ∨ 8 * l + 8 ≤ j) → M' 159 j = M 159 j) → M' 160 = M 160 → nH M M' → K 0 M') →
    zWp (zSp (d + 6)) 165 K 10 [some (.inr (.inr 154)), some (.inl l), some (.inl i), some (.inl 0), u] [] M
  | 0, M, G, i, p, w, u, hf, hi, h1, hg, hl, el, h8, h9, hr, hp, h, hb, hK0, hK1, hK2 => absurd h1 (by decide)
  | f + 1, M, G, i, p, w, u, hf, hi, h1, hg, hl, el, h8, h9, hr, hp, h, hb, hK0, hK1, hK2 => by
    have c0 := hg.1
    have p0 := h.2.1
    unfold gBh at hK0 hK1 hK2
    rw [fe_165_10]
    refine m_fine hb ?_
    refine zC_i (by decide) ⟨fun q => absurd q (by decide), fun _ => zC_i (by decide) ⟨fun q => absurd rfl q, fun _ => ?_⟩⟩
    refine m_isName (d := d + 2) hT h ?_
    intro M1 f1 f2 f3
    have b1 : M1 154 6 = 0 := by rw [nF_bad f2]; exact hb
    have r1 : mRs G M1 := by unfold mRs; rw [f2.1 159 (by decide), f2.1 161 (by decide)]; exact hr
    have t1 : mPt G M1 l := by unfold mPt; rw [f2.1 159 (by decide)]; exact hp
    have n1 : nH M M1 := nH_of (nG_of f2)
    have n84 : ∀ s, nH M1 (zUp (zUp M1 159 (8 * l + 2) i) 159 (8 * l + 3) s) := fun s => ⟨fun c a b _ _ => by rw [zUp_away b, zUp_away b], fun j _ => by rw [zUp_away (by decide), zUp_away (by decide)]⟩
    by_cases nm : isNm T n p w
    · have ns : ¬ (tKi T n p w = 3 ∧ tVa T n p = 59) := fun e => by have := nm.1; omega
      rw [fl_t nm]
      rw [if_neg ns] at hK0 hK1 hK2
      have bad42 : ∀ M3, mFl T n M3 4 (tQ T n p) → nH M M3 → (∀ M', mFl T n M' 4 (tQ T n p) → nH M M' → K 0 M') → zWp (zSp (d + 6)) 165 K 42 [some (.inr (.inr 154)), some (.inl l), some (.inl i), some (.inl 0), u] [] M3 := by
        intro M3 h3 n3 hk
        rw [fe_165_42]
        refine m_unsort (d := d) hT h3 (by decide) ?_
        intro M4 h4 n4
        refine m_unfine (by rw [h4.1]; decide) ?_
        exact zC_i (by decide) ⟨fun q => absurd rfl q, fun _ => hk M4 h4 (nH_trans n3 n4)⟩
      refine zC_i (by decide) ⟨fun q => absurd q (by decide), fun _ => zC_i (zr (by omega) (by omega)) ⟨fun q4 => ?_, fun q4 => ?_⟩⟩
      · rw [if_neg (fun e => q4 e.1)] at hK0 hK1 hK2
        rw [fe_165_42]
        refine m_sortRead (d := d) hT hg r1 f1 b1 ?_ ?_
        · intro M2 k hk e h2 n2
          rw [if_pos (by omega)] at hK0
          refine m_unfine (by rw [h2.1]; omega) ?_
          refine zC_i (by decide) ⟨fun q => absurd rfl q, fun _ => ?_⟩
          have k4 : k = 4 := by
            rcases hk with k1 | k4
            · exfalso
              unfold gSr at e
              rw [if_pos nm] at e
              have sf := gSf_s (v := tVa T n p) hg
              by_cases q : gSf G (tVa T n p) = -1
              · rw [if_pos q] at e
                by_cases q6 : G 4 1 = 6
                · rw [if_pos q6] at e; omega
                · rw [if_neg q6] at e; omega
              · rw [if_neg q] at e; omega
            · exact k4
          subst k4
          exact hK0 M2 (by show -(gSr T n p w G) = 4; omega) h2 (nH_trans n1 n2)
        · intro M2 _ g0 g1 g2 g3 g4 g5 g6
          obtain ⟨s1, s2, s3, s4⟩ := gSg_k hg p0.2 nm g0
          rw [if_neg (by omega)] at hK0 hK1 hK2
          have e8 : (gSg T n p G) 8 = G 8 := s4 8 (by decide) (by decide)
          have e9 : (gSg T n p G) 9 = G 9 := s4 9 (by decide) (by decide)
          have e10 : (gSg T n p G) 10 = G 10 := s4 10 (by decide) (by decide)
          have ab := gAB_k (s := gSr T n p w G) s1 (by rw [s2]; exact hl) ⟨g0, s3⟩ (by rw [e8, s2, ← el, h8]; omega)
          refine m_fine g2 ?_
          refine zC_i (by decide) ⟨fun _ => zC_i (zs (by omega) (by omega)) ?_, fun q => absurd (by decide) q⟩
          have k3 : mTk T n (tEn T n p) true (zUp M2 159 (8 * l + 4 + i) (gSr T n p w G)) := mTk_fr g1 (by rw [zUp_away (by decide)]) (by rw [zUp_away (by decide)]) (by rw [zUp_away (by decide)]) (by rw [zUp_away (by decide)])
          have b3 : (zUp M2 159 (8 * l + 4 + i) (gSr T n p w G)) 154 6 = 0 := by rw [zUp_away (by decide)]; exact g2
          have n3 : nH M (zUp M2 159 (8 * l + 4 + i) (gSr T n p w G)) := nH_trans n1 (nH_trans g6 ⟨fun c a b _ _ => zUp_away b, fun j _ => by rw [zUp_away (by decide)]⟩)
          have e8g : (gAB (gSg T n p G) (gSr T n p w G)) 8 l = i + 1 := by
            have := ab.2.2.1
            rw [s2, ← el, e8, h8] at this
            exact this
          have r3 : mRs (gAB (gSg T n p G) (gSr T n p w G)) (zUp M2 159 (8 * l + 4 + i) (gSr T n p w G)) := by
            refine ⟨by rw [zUp_there (by omega), g3.1, ab.2.1], fun s s0 s1 => ?_⟩
            rw [ab.2.1] at s1
            rw [zUp_away (by decide), ab.2.2.2 11 (by decide) (by decide)]
            exact g3.2 s s0 s1
          have t3 : mPt (gAB (gSg T n p G) (gSr T n p w G)) (zUp M2 159 (8 * l + 4 + i) (gSr T n p w G)) l := by
            intro x x0 x1
            rw [e8g] at x1
            have e : (gAB (gSg T n p G) (gSr T n p w G)) 10 (l * 4 + x) = if l * 4 + x = l * 4 + i then gSr T n p w G else G 10 (l * 4 + x) := by
              unfold gAB
              rw [zUp_away (by decide), zUp_hit, s2, ← el, e8, h8, e10]
            rw [e, zUp_hit]
            by_cases q : x = i
            · rw [if_pos (by omega), if_pos (by omega)]
            · rw [if_neg (by omega), if_neg (by omega), g4 _ (by omega)]
              exact t1 x x0 (by omega)
          have o3 : ∀ j, j ≠ 193 → (j < 8 * l + 2 ∨ 8 * l + 8 ≤ j) → (zUp M2 159 (8 * l + 4 + i) (gSr T n p w G)) 159 j = M 159 j := fun j j1 j2 => by rw [zUp_there (by omega), g4 j j1, f2.1 159 (by decide)]
          have l3 : (zUp M2 159 (8 * l + 4 + i) (gSr T n p w G)) 160 = M 160 := by rw [zUp_away (by decide), g5, f2.1 160 (by decide)]
          have e9g : (gAB (gSg T n p G) (gSr T n p w G)) 9 = G 9 := by rw [ab.2.2.2 9 (by decide) (by decide), e9]
          have e40 : (gAB (gSg T n p G) (gSr T n p w G)) 4 0 = G 4 0 := by rw [ab.2.1, s2]
          generalize (zUp M2 159 (8 * l + 4 + i) (gSr T n p w G)) = M3 at k3 b3 n3 r3 t3 o3 l3 ⊢
          refine m_takesSign (d := d + 3) hT k3 b3 (by unfold sgn; decide) ?_ ?_
          · intro M4 q1 q2 m1 m2
            rw [if_pos ⟨q1, q2⟩] at hK2
            dsimp only at hK2
            have b4 : M4 154 6 = 0 := by rw [nF_bad m2]; exact b3
            rw [fe_165_10]
            refine m_fine b4 ?_
            refine zC_i (by decide) ⟨fun q => absurd q (by decide), fun _ => zC_i (by decide) ⟨fun _ => ?_, fun q => absurd (by decide) q⟩⟩
            refine m_beh84 hl2 (.inr rfl) ?_
            have e159 : M4 159 = M3 159 := m2.1 159 (by decide)
            refine hK2 _ rfl (mTk_fr m1 (by rw [zUp_away (by decide), zUp_away (by decide)]) (by rw [zUp_away (by decide), zUp_away (by decide)]) (by rw [zUp_away (by decide), zUp_away (by decide)]) (by rw [zUp_away (by decide), zUp_away (by decide)])) (by rw [zUp_away (by decide), zUp_away (by decide)]; exact b4) ?_ ?_ ?_ ?_ ?_ ?_ ?_
            · refine ⟨by rw [zUp_there (by omega), zUp_there (by omega), e159, zUp_away (by decide)]; exact r3.1, fun s s0 s1 => ?_⟩
              rw [zUp_away (by decide), zUp_away (by decide), m2.1 161 (by decide), zUp_away (by decide)]
              rw [zUp_away (by decide)] at s1
              exact r3.2 s s0 s1
            · intro x x0 x1
              rw [zUp_away (by decide)] at x1
              rw [e8g] at x1
              rw [zUp_there (by omega), zUp_there (by omega), e159, zUp_away (by decide)]
              exact t3 x x0 (by rw [e8g]; exact x1)
            · show zUp (zUp M4 159 (8 * l + 2) (i + 1)) 159 (8 * l + 3) 1 159 (8 * l + 2) = _
              rw [zUp_there (by omega), zUp_here, zUp_away (by decide), e8g]
            · show zUp (zUp M4 159 (8 * l + 2) (i + 1)) 159 (8 * l + 3) 1 159 (8 * l + 3) = _
              rw [zUp_here, ← el, zUp_here]
            · intro j j1 j2
              rw [zUp_there (by omega), zUp_there (by omega), e159]
              exact o3 j j1 j2
            · rw [zUp_away (by decide), zUp_away (by decide), m2.1 160 (by decide)]
              exact l3
            · exact nH_trans n3 (nH_trans (nH_of (nG_of m2)) ⟨fun c a b _ _ => by rw [zUp_away b, zUp_away b], fun j _ => by rw [zUp_away (by decide), zUp_away (by decide)]⟩)
          · intro M4 q1 m1 m2
            rw [if_neg q1] at hK0 hK1 hK2
            have b4 : M4 154 6 = 0 := by rw [nF_bad m2]; exact b3
            have n4 := nH_trans n3 (nH_of (nG_of m2))
            have e159 : M4 159 = M3 159 := m2.1 159 (by decide)
            have e161 : M4 161 = M3 161 := m2.1 161 (by decide)
            refine m_behind_l hT hl2 f M4 _ (i + 1) (tEn T n p) true _ (by omega) (by omega) (by omega) ab.1 (by rw [e40]; exact hl) (by rw [e40]; exact el) e8g (by rw [e9g]; exact h9) (by unfold mRs; rw [e159, e161]; exact r3) (by unfold mPt; rw [e159]; exact t3) m1 b4 ?_ ?_ ?_
            · intro M5 a b e
              exact hK0 M5 a b (nH_trans n4 e)
            · intro M5 p' w' a b e g x y
              exact hK1 M5 p' w' a b e g x (nH_trans n4 y)
            · intro M5 a1 a2 a3 a4 a5 a6 a7 a8 a9 a10
              exact hK2 M5 a1 a2 a3 a4 a5 a6 a7 (fun j j1 j2 => by rw [a8 j j1 j2, e159]; exact o3 j j1 j2) (by rw [a9, m2.1 160 (by decide)]; exact l3) (nH_trans n4 a10)
      · have q4 := Decidable.not_not.mp q4
        rw [if_pos ⟨q4, nm⟩] at hK0
        refine m_next hT f1 ?_
        intro M2 g1 g2 g3 g4
        have nf := nx_nF g3 g4
        refine m_fail (by rw [nF_bad nf]; exact b1) ?_
        exact bad42 _ (mFl_i g1) (nH_trans n1 (nH_trans (nH_of (nG_of nf)) nH_bad)) (fun M' a b => hK0 M' rfl a b)
    · rw [fl_f nm]
      refine zC_i (by decide) ⟨fun _ => ?_, fun q => absurd rfl q⟩
      refine m_beh84 hl2 (.inl rfl) ?_
      have mk : mTk T n p w (zUp (zUp M1 159 (8 * l + 2) i) 159 (8 * l + 3) 0) := mTk_fr f1 (by rw [zUp_away (by decide), zUp_away (by decide)]) (by rw [zUp_away (by decide), zUp_away (by decide)]) (by rw [zUp_away (by decide), zUp_away (by decide)]) (by rw [zUp_away (by decide), zUp_away (by decide)])
      have bk : (zUp (zUp M1 159 (8 * l + 2) i) 159 (8 * l + 3) 0) 154 6 = 0 := by rw [zUp_away (by decide), zUp_away (by decide)]; exact b1
      have nk := nH_trans n1 (n84 0)
      by_cases c1 : tKi T n p w = 3 ∧ tVa T n p = 59
      · rw [if_pos c1] at hK2
        refine hK2 _ rfl mk bk ⟨by rw [zUp_there (by omega), zUp_there (by omega)]; exact r1.1, fun s s0 s1 => by rw [zUp_away (by decide), zUp_away (by decide)]; exact r1.2 s s0 s1⟩ (fun x x0 x1 => ?_) ?_ ?_ (fun j j1 j2 => by rw [zUp_there (by omega), zUp_there (by omega), f2.1 159 (by decide)]) (by rw [zUp_away (by decide), zUp_away (by decide), f2.1 160 (by decide)]) nk
        · rw [zUp_there (by omega), zUp_there (by omega)]
          exact t1 x x0 x1
        · rw [zUp_there (by omega), zUp_here]; exact h8.symm
        · rw [zUp_here]; exact h9.symm
      · rw [if_neg c1, if_neg (fun e => nm e.2)] at hK1
        have e : gSr T n p w G = -1 := by unfold gSr; rw [if_neg nm]
        rw [if_pos (by omega)] at hK1
        exact hK1 _ p w (by show -(gSr T n p w G) = 1; omega) mk c1 rfl bk nk
