/-! LAYER 3: all lines of a grammar -/
theorem gSr_f {T : Int → Int} {n p : Int} {w : Bool} {G : Mm} (hg : gLn G) (h : gSr T n p w G < 0) : gSr T n p w G = -1 ∨ gSr T n p w G = -4 := by
  have c0 := hg.1
  have sf := gSf_s (v := tVa T n p) hg
  unfold gSr at h ⊢
  by_cases c : isNm T n p w
  · rw [if_pos c] at h ⊢
    by_cases q : gSf G (tVa T n p) = -1
    · rw [if_pos q] at h ⊢
      by_cases q6 : G 4 1 = 6
      · rw [if_pos q6]; exact .inr rfl
      · rw [if_neg q6] at h; omega
    · rw [if_neg q] at h; omega
  · rw [if_neg c]; exact .inl rfl
theorem gBh_f {T : Int → Int} {n : Int} : ∀ (f : Nat) (i : Int) (G : Mm) (p : Int) (w : Bool), i + f = 5 → 0 ≤ i → 1 ≤ f → gLn G → 1 ≤ G 4 0 → G 8 (G 4 0 - 1) = i → p ≤ n → (gBh T n f i G p w).1 = 0 ∨ (gBh T n f i G p w).1 = 1 ∨ (gBh T n f i G p w).1 = 4
  | 0, i, G, p, w, hf, hi, h1, hg, hl, h8, hp => absurd h1 (by decide)
  | f + 1, i, G, p, w, hf, hi, h1, hg, hl, h8, hp => by
    unfold gBh
    by_cases c1 : tKi T n p w = 3 ∧ tVa T n p = 59
    · rw [if_pos c1]; exact .inl rfl
    · rw [if_neg c1]
      by_cases c2 : i = 4 ∧ isNm T n p w
      · rw [if_pos c2]; exact .inr (.inr rfl)
      · rw [if_neg c2]
        by_cases c3 : gSr T n p w G < 0
        · rw [if_pos c3]
          have := gSr_f hg c3
          show -(gSr T n p w G) = 0 ∨ -(gSr T n p w G) = 1 ∨ -(gSr T n p w G) = 4
          omega
        · rw [if_neg c3]
          have nm : isNm T n p w := by
            by_cases q : isNm T n p w
            · exact q
            · exfalso
              unfold gSr at c3
              rw [if_neg q] at c3
              omega
          have i3 : i ≤ 3 := by
            by_cases q : i = 4
            · exact absurd ⟨q, nm⟩ c2
            · omega
          have g0 : 0 ≤ gSr T n p w G := by omega
          obtain ⟨s1, s2, s3, s4⟩ := gSg_k hg hp nm g0
          have e8 : (gSg T n p G) 8 = G 8 := s4 8 (by decide) (by decide)
          have ab := gAB_k (s := gSr T n p w G) s1 (by rw [s2]; exact hl) ⟨g0, s3⟩ (by rw [e8, s2, h8]; exact i3)
          have e40 : (gAB (gSg T n p G) (gSr T n p w G)) 4 0 = G 4 0 := by rw [ab.2.1, s2]
          have e8g : (gAB (gSg T n p G) (gSr T n p w G)) 8 (G 4 0 - 1) = i + 1 := by
            have := ab.2.2.1
            rw [s2, e8, h8] at this
            exact this
          by_cases c4 : tKi T n (tEn T n p) true = 3 ∧ tVa T n (tEn T n p) = 42
          · rw [if_pos c4]; exact .inl rfl
          · rw [if_neg c4]
            exact gBh_f (T := T) (n := n) f (i + 1) _ (tEn T n p) true (by omega) (by omega) (by omega) ab.1 (by rw [e40]; exact hl) (by rw [e40]; exact e8g) (tEn_s hp).2.1
theorem gCl_k {T : Int → Int} {n p : Int} {w : Bool} {G : Mm} : ((gCl T n G p w).1 = 0 ∨ (gCl T n G p w).1 = 1) ∧ (gCl T n G p w).2.2.1 = G := by
  unfold gCl
  split
  · exact ⟨.inl rfl, rfl⟩
  · exact ⟨.inr rfl, rfl⟩
theorem gLi_k {T : Int → Int} {n p : Int} {w : Bool} {G : Mm} (hg : gLn G) (hp : p ≤ n) : ((gLi T n G p w).1 = 0 ∧ gLn (gLi T n G p w).2.2.1 ∧ (gLi T n G p w).2.2.1 4 0 = G 4 0 + 1 ∧ G 4 0 < 24) ∨ (1 ≤ (gLi T n G p w).1 ∧ (gLi T n G p w).1 ≤ 4) := by
  have c0 := hg.1
  unfold gLi
  by_cases c1 : tKi T n p w = 1 ∧ (tVa T n p = 217658368 ∨ tVa T n p = 407934976)
  · rw [if_pos c1]
    by_cases c2 : G 4 0 = 24
    · rw [if_pos c2]; exact .inr (show (1 : Int) ≤ 4 ∧ (4 : Int) ≤ 4 by decide)
    · rw [if_neg c2]
      have hf : ∀ fm : Int, fm = 0 ∨ fm = 1 → ((gLb T n G (tEn T n p) fm).1 = 0 ∧ gLn (gLb T n G (tEn T n p) fm).2.2.1 ∧ (gLb T n G (tEn T n p) fm).2.2.1 4 0 = G 4 0 + 1 ∧ G 4 0 < 24) ∨ (1 ≤ (gLb T n G (tEn T n p) fm).1 ∧ (gLb T n G (tEn T n p) fm).1 ≤ 4) := by
        intro fm hf
        have pe := (tEn_s (T := T) hp).2.1
        have pe2 := (tEn_s (T := T) pe).2.1
        unfold gLb
        by_cases c3 : isNm T n (tEn T n p) true
        · rw [if_pos c3]
          have vb := tVa_1 pe c3.1
          by_cases c4 : gLf G (tVa T n (tEn T n p)) = -1
          · rw [if_pos c4]
            by_cases c5 : gSr T n (tEn T n (tEn T n p)) true G < 0
            · rw [if_pos c5]
              have := gSr_f hg c5
              refine .inr (show 1 ≤ -(gSr T n (tEn T n (tEn T n p)) true G) ∧ -(gSr T n (tEn T n (tEn T n p)) true G) ≤ 4 by omega)
            · rw [if_neg c5]
              have g0 : 0 ≤ gSr T n (tEn T n (tEn T n p)) true G := by omega
              have nm : isNm T n (tEn T n (tEn T n p)) true := by
                by_cases q : isNm T n (tEn T n (tEn T n p)) true
                · exact q
                · exfalso
                  unfold gSr at c5
                  rw [if_neg q] at c5
                  omega
              obtain ⟨s1, s2, s3, s4⟩ := gSg_k hg pe2 nm g0
              obtain ⟨al1, al2, al3, al4, al5⟩ := gAL_k (nm := tVa T n (tEn T n p)) (s := gSr T n (tEn T n (tEn T n p)) true G) (fm := fm) s1 (by rw [s2]; omega) vb ⟨g0, s3⟩ hf
              rw [s2] at al2 al4 al5
              have cl : ∀ (G' : Mm) (p' : Int) (w' : Bool), gLn G' → G' 4 0 = G 4 0 + 1 → ((gCl T n G' p' w').1 = 0 ∧ gLn (gCl T n G' p' w').2.2.1 ∧ (gCl T n G' p' w').2.2.1 4 0 = G 4 0 + 1 ∧ G 4 0 < 24) ∨ (1 ≤ (gCl T n G' p' w').1 ∧ (gCl T n G' p' w').1 ≤ 4) := by
                intro G' p' w' x1 x2
                have q := gCl_k (T := T) (n := n) (p := p') (w := w') (G := G')
                rw [q.2]
                rcases q.1 with e | e
                · exact .inl ⟨e, x1, x2, by omega⟩
                · exact .inr (by omega)
              by_cases c6 : fm = 0
              · rw [if_pos c6]
                exact cl _ _ _ al1 al2
              · rw [if_neg c6]
                unfold gFm
                split
                · have pe3 := (tEn_s (T := T) (tEn_s (T := T) pe2).2.1).2.1
                  have bf := gBh_f (T := T) (n := n) 5 0 _ (tEn T n (tEn T n (tEn T n (tEn T n p)))) false (by omega) (by omega) (by omega) al1 (by omega) (by rw [al2, show G 4 0 + 1 - 1 = G 4 0 by omega]; exact al4) (by first | exact pe3 | exact (tEn_s (T := T) pe3).2.1)
                  split
                  · rename_i z
                    have bk := gBh_keep (T := T) (n := n) 5 0 _ _ false (by omega) (by omega) (by omega) al1 (by omega) (by rw [al2, show G 4 0 + 1 - 1 = G 4 0 by omega]; exact al4) (by first | exact pe3 | exact (tEn_s (T := T) pe3).2.1) z
                    exact cl _ _ _ bk.1 (by rw [bk.2.1, al2])
                  · rename_i z
                    exact .inr (by omega)
                · exact .inr (show (1 : Int) ≤ 1 ∧ (1 : Int) ≤ 4 by decide)
          · rw [if_neg c4]; exact .inr (show (1 : Int) ≤ 3 ∧ (3 : Int) ≤ 4 by decide)
        · rw [if_neg c3]; exact .inr (show (1 : Int) ≤ 1 ∧ (1 : Int) ≤ 4 by decide)
      exact hf _ (by split <;> omega)
  · rw [if_neg c1]; exact .inr (show (1 : Int) ≤ 1 ∧ (1 : Int) ≤ 4 by decide)
def gAl (T : Int → Int) (n : Int) : Nat → Mm → Int → Bool → Gr
  | 0, G, p, w => (0, 0, G, p, w)
  | f + 1, G, p, w => if (gLi T n G p w).1 = 0 ∧ tKi T n (gLi T n G p w).2.2.2.1 (gLi T n G p w).2.2.2.2 ≠ 0 then gAl T n f (gLi T n G p w).2.2.1 (gLi T n G p w).2.2.2.1 (gLi T n G p w).2.2.2.2 else gLi T n G p w
theorem x_lines_l {d : Nat} {T : Int → Int} {n : Int} {K : Kt} (hT : tpOk T n) : ∀ (f : Nat) (M G : Mm) (p : Int) (w : Bool) (i : Int), i + f = 25 → 0 ≤ i → 1 ≤ f → gLn G → G 4 0 = i → xR G M → xTk T n p w M →
    (∀ M', (gAl T n f G p w).1 ≠ 0 → xQ M M' → K 0 (zUp (zUp M' 2 6 (gAl T n f G p w).1) 2 7 (gAl T n f G p w).2.1)) →
    (∀ M' x2, (gAl T n f G p w).1 = 0 → gLn (gAl T n f G p w).2.2.1 → xR (gAl T n f G p w).2.2.1 M' → xTk T n (gAl T n f G p w).2.2.2.1 (gAl T n f G p w).2.2.2.2 M' → tKi T n (gAl T n f G p w).2.2.2.1 (gAl T n f G p w).2.2.2.2 = 0 → xQ M M' → zWp (zSp (d + 7)) 34 K 42 [some (.inr (.inr 2)), some (.inr (.inr 14)), some (.inl x2)] [] M') →
    zWp (zSp (d + 7)) 34 K 10 [some (.inr (.inr 2)), some (.inr (.inr 14)), some (.inl i)] [] M
  | 0, M, G, p, w, i, hf, hi, h1, hg, h4, hx, h, hK0, hK1 => absurd h1 (by decide)
  | f + 1, M, G, p, w, i, hf, hi, h1, hg, h4, hx, h, hK0, hK1 => by
    have c0 := hg.1
    have pn := h.2.2.2.2.2.2
    unfold gAl at hK0 hK1
    have lk := gLi_k (T := T) (w := w) hg pn
    rw [fe_34_10]
    refine zC_i (zr (by omega) (by omega)) ⟨fun q => absurd q (by omega), fun _ => ?_⟩
    refine x_readLine (d := d) hT hg hx h ⟨?_, ?_⟩
    · intro M1 e f1
      rw [if_neg (fun q => e q.1)] at hK0
      exact zC_i (by decide) ⟨fun q => absurd rfl q, fun _ => hK0 M1 e f1⟩
    · intro M1 e f1 f2 f3
      rcases lk with ⟨_, g1, g2, g3⟩ | u
      · refine zC_i (by decide) ⟨fun _ => ?_, fun q => absurd (by decide) q⟩
        refine x_isEnd f2 ?_
        by_cases ke : tKi T n (gLi T n G p w).2.2.2.1 (gLi T n G p w).2.2.2.2 = 0
        · rw [fl_t ke]
          rw [if_neg (fun q => q.2 ke)] at hK1
          exact zC_i (by decide) ⟨fun q => absurd q (by decide), fun _ => hK1 M1 i e g1 f1 f2 ke f3⟩
        · rw [fl_f ke]
          rw [if_pos ⟨e, ke⟩] at hK0 hK1
          refine zC_i (by decide) ⟨fun _ => ?_, fun q => absurd rfl q⟩
          exact x_lines_l hT f M1 _ _ _ (i + 1) (by omega) (by omega) (by omega) g1 (by omega) f1 f2 (fun M' a b => hK0 M' a (xQ_trans f3 b)) (fun M' x2 a b c d' k q => hK1 M' x2 a b c d' k (xQ_trans f3 q))
      · omega
theorem m_lines_l {d : Nat} {T : Int → Int} {n x : Int} {K : Kt} (hT : tpOk T n) : ∀ (f : Nat) (M G : Mm) (p : Int) (w : Bool), G 4 0 + f = 25 → 1 ≤ f → gLn G → mR G M → mTk T n p w M → M 154 6 = 0 → tKi T n p w ≠ 0 →
    (∀ M', 1 ≤ (gAl T n f G p w).1 ∧ (gAl T n f G p w).1 ≤ 4 → mFl T n M' (gAl T n f G p w).1 (gAl T n f G p w).2.1 → nH M M' → zWp (zSp (d + 8)) 169 K 63 [some (.inr (.inr 154)), some (.inl x)] [] M') →
    (∀ M', (gAl T n f G p w).1 = 0 → gLn (gAl T n f G p w).2.2.1 → mR (gAl T n f G p w).2.2.1 M' → mTk T n (gAl T n f G p w).2.2.2.1 (gAl T n f G p w).2.2.2.2 M' → tKi T n (gAl T n f G p w).2.2.2.1 (gAl T n f G p w).2.2.2.2 = 0 → M' 154 6 = 0 → nH M M' → zWp (zSp (d + 8)) 169 K 63 [some (.inr (.inr 154)), some (.inl x)] [] M') →
    zWp (zSp (d + 8)) 169 K 42 [some (.inr (.inr 154)), some (.inl x)] [] M
  | 0, M, G, p, w, hf, h1, hg, hr, h, hb, hk, hK0, hK1 => absurd h1 (by decide)
  | f + 1, M, G, p, w, hf, h1, hg, hr, h, hb, hk, hK0, hK1 => by
    have c0 := hg.1
    have pn := h.2.1.2
    have lk := gLi_k (T := T) (w := w) hg pn
    unfold gAl at hK0 hK1
    rw [fe_169_42]
    refine m_fine hb ?_
    refine zC_i (by decide) ⟨fun q => absurd q (by decide), fun _ => ?_⟩
    refine m_isOver (d := d + 6) hT h ?_
    intro M1 f1 f2
    rw [fl_f hk]
    have r1 : mR G M1 := mR_fr hr (f2.1 159 (by decide)) (f2.1 160 (by decide)) (f2.1 161 (by decide))
    have b1 : M1 154 6 = 0 := by rw [nF_bad f2]; exact hb
    have n1 : nH M M1 := nH_of (nG_of f2)
    refine zC_i (by decide) ⟨fun q => absurd rfl q, fun _ => ?_⟩
    refine m_lineRead (d := d) hT hg r1 f1 b1 ⟨?_, ?_⟩
    · intro M2 e g1 g2
      rw [if_neg (fun q => e q.1)] at hK0
      have eb : 1 ≤ (gLi T n G p w).1 ∧ (gLi T n G p w).1 ≤ 4 := lk.elim (fun u => absurd u.1 e) (fun u => u)
      rw [fe_169_42]
      refine m_unfine (by rw [g1.1]; omega) ?_
      exact zC_i (by decide) ⟨fun _ => hK0 M2 eb g1 (nH_trans n1 g2), fun q => absurd rfl q⟩
    · intro M2 e g1 g2 g3 g4
      rcases lk with ⟨_, l1, l2, l3⟩ | u
      · by_cases ke : tKi T n (gLi T n G p w).2.2.2.1 (gLi T n G p w).2.2.2.2 = 0
        · rw [if_neg (fun q => q.2 ke)] at hK1
          rw [fe_169_42]
          refine m_fine g2 ?_
          refine zC_i (by decide) ⟨fun q => absurd q (by decide), fun _ => ?_⟩
          refine m_isOver (d := d + 6) hT g1 ?_
          intro M3 k1 k2
          rw [fl_t ke]
          refine zC_i (by decide) ⟨fun _ => ?_, fun q => absurd (by decide) q⟩
          exact hK1 M3 e l1 (mR_fr g3 (k2.1 159 (by decide)) (k2.1 160 (by decide)) (k2.1 161 (by decide))) k1 ke (by rw [nF_bad k2]; exact g2) (nH_trans n1 (nH_trans g4 (nH_of (nG_of k2))))
        · rw [if_pos ⟨e, ke⟩] at hK0 hK1
          exact m_lines_l hT f M2 _ _ _ (by omega) (by omega) l1 g3 g1 g2 ke (fun M' a b c => hK0 M' a b (nH_trans n1 (nH_trans g4 c))) (fun M' a b c e' k q r => hK1 M' a b c e' k q (nH_trans n1 (nH_trans g4 r)))
      · omega
