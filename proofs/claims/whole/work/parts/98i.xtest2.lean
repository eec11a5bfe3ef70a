/-! LAYER 3: a test's text, read by the class: facts, rounds -/
def xA2 (M M' : Mm) : Prop := (∀ c, c ≠ 2 → c ≠ 136 → c ≠ 137 → M' c = M c) ∧ (∀ j, j ≠ 2 → j ≠ 3 → j ≠ 4 → j ≠ 5 → M' 2 j = M 2 j)
theorem xA2_refl {M : Mm} : xA2 M M := ⟨fun _ _ _ _ => rfl, fun _ _ _ _ _ => rfl⟩
theorem xA2_trans {M M' M'' : Mm} (h : xA2 M M') (h' : xA2 M' M'') : xA2 M M'' := ⟨fun c a b e => by rw [h'.1 c a b e, h.1 c a b e], fun j a b c d => by rw [h'.2 j a b c d, h.2 j a b c d]⟩
theorem xE_A {c0 : Int} {M M' : Mm} (h : xA2 M M') : xE c0 M M' := ⟨fun c a _ _ e f => h.1 c a e f, fun j _ => by rw [h.1 31 (by decide) (by decide) (by decide)], h.2, fun c i a b _ => by rw [h.1 c (by omega) (by omega) (by omega)]⟩
theorem xO_A {c0 : Int} {O : List St5} {M M' : Mm} (h : xO c0 O M) (f : xA2 M M') : xO c0 O M' := xO_fr h (by rw [f.1 31 (by decide) (by decide) (by decide)]) (fun c a b => f.1 c (by omega) (by omega) (by omega))
theorem nsT_10 {S : List Int} : nsT (10 :: S) = nsT S + 1 := by show (if _ then _ else _) + _ = _; rw [if_pos (.inl rfl)]; omega
theorem nsT_13 {S : List Int} : nsT (13 :: S) = nsT S + 1 := by show (if _ then _ else _) + _ = _; rw [if_pos (.inr rfl)]; omega
theorem x_ahead_l {d : Nat} {T : Int → Int} {n : Int} {K : Kt} (hT : tpOk T n) : ∀ (f : Nat) (x1 : Int) (S : List Int) (M : Mm) (p : Int) (w : Bool) (u : Option Vl), x1 + f = 7 → 0 ≤ x1 → x1 ≤ nsT S → okA S → nsT S ≤ 6 → xSk S M → xTk T n p w M →
    (∀ M', (gAh T n f S p w).1 ≠ 0 → xA2 M M' → K 0 (zUp (zUp M' 2 6 (gAh T n f S p w).1) 2 7 (gAh T n f S p w).2.1)) →
    (∀ M', (gAh T n f S p w).1 = 0 → xSk (gAh T n f S p w).2.2.1 M' → xTk T n (gAh T n f S p w).2.2.2.1 (gAh T n f S p w).2.2.2.2 M' → xA2 M M' → K 1 M') → zWp (zSp (d + 3)) 13 K 2 [some (.inr (.inr 136)), some (.inl x1), u] [] M
  | 0, x1, S, M, p, w, u, hf, h0, hx, ha, hn, hs, h, hK0, hK1 => by omega
  | f + 1, x1, S, M, p, w, u, hf, h0, hx, ha, hn, hs, h, hK0, hK1 => by
    have l20 := okA_20 ha hn
    have nn := nsT_nn S
    unfold gAh at hK0 hK1
    -- too many
    have bad : ∀ x2 : Int, nsT S = 6 → (∀ M', (4 : Int) ≠ 0 → xA2 M M' → K 0 (zUp (zUp M' 2 6 4) 2 7 (tQ T n p))) → zWp (zSp (d + 3)) 13 K 36 [some (.inr (.inr 136)), some (.inl x1), some (.inl x2)] [] M := by
      intro x2 e hk
      rw [fe_13_36, hs.2.1, e]
      exact zC_i (by decide) ⟨fun z => absurd rfl z, fun _ => x_fail h (zC_i (by decide) (hk M (by decide) xA2_refl))⟩
    -- one more waits
    have push : ∀ (s x2 : Int) (w' : Bool), (s = 10 ∧ x2 = 1 ∨ s = 13 ∧ x2 = 0) → nsT S ≠ 6 → decide (tKi T n p w = 1 ∨ tKi T n p w = 2) = w' → (∀ M', (gAh T n f (s :: S) (tEn T n p) w').1 ≠ 0 → xA2 M M' → K 0 (zUp (zUp M' 2 6 (gAh T n f (s :: S) (tEn T n p) w').1) 2 7 (gAh T n f (s :: S) (tEn T n p) w').2.1)) → (∀ M', (gAh T n f (s :: S) (tEn T n p) w').1 = 0 → xSk (gAh T n f (s :: S) (tEn T n p) w').2.2.1 M' → xTk T n (gAh T n f (s :: S) (tEn T n p) w').2.2.2.1 (gAh T n f (s :: S) (tEn T n p) w').2.2.2.2 M' → xA2 M M' → K 1 M') → zWp (zSp (d + 3)) 13 K 36 [some (.inr (.inr 136)), some (.inl x1), some (.inl x2)] [] M := by
      intro s x2 w' hsx n6 hw' hk0 hk1
      have es : nsT (s :: S) = nsT S + 1 := by
        rcases hsx with e | e
        · rw [e.1]; exact nsT_10
        · rw [e.1]; exact nsT_13
      have oa : okA (s :: S) := ⟨by omega, fun q => by omega, fun q => by omega, ha⟩
      have p65 : zWp (zSp (d + 3)) 13 K 65 [some (.inr (.inr 136)), some (.inl x1), some (.inl x2)] [.inl (cwT s), .inr (.inr 136)] M := by
        rw [fe_13_65]
        refine x_hold hs.1 l20 hs.2.2 ?_
        intro M1 g1 g2 g3 g4 g5
        rw [g2, hs.2.1]
        have t1 : xTk T n p w (zUp M1 136 5 (nsT S + 1)) := xTk_fr h (fun j _ _ => by rw [zUp_away (by decide), g5 2 (by decide) (by decide)]) (by rw [zUp_away (by decide), g5 3 (by decide) (by decide)])
        refine x_adv (d := d) hT t1 ?_
        intro M2 k1 k2 k3
        rw [hw'] at k1
        have a2 : xA2 M M2 := ⟨fun c c1 c2 c3 => by rw [k3 c c1, zUp_away c2, g5 c c2 c3], fun j j1 j2 j3 j4 => by rw [k2 j j1 j2 j3 j4, zUp_away (by decide), g5 2 (by decide) (by decide)]⟩
        have sk : xSk (s :: S) M2 := by
          refine ⟨?_, by rw [k3 136 (by decide), zUp_here, es], ?_, xSs_fr S (fun j _ _ => by rw [k3 137 (by decide), zUp_away (by decide)]) g4⟩
          · rw [k3 136 (by decide), zUp_there (by decide), g1]
            show _ = ((S.length + 1 : Nat) : Int)
            omega
          · rw [k3 137 (by decide), zUp_away (by decide), g3]
        exact x_ahead_l hT f (x1 + 1) (s :: S) M2 _ _ _ (by omega) (by omega) (by omega) oa (by omega) sk k1 (fun M' a b => hk0 M' a (xA2_trans a2 b)) (fun M' a b c e => hk1 M' a b c (xA2_trans a2 e))
      rw [fe_13_36, hs.2.1]
      refine zC_i (zr (by omega) (by omega)) ⟨fun _ => ?_, fun z => absurd n6 z⟩
      rcases hsx with e | e
      · rw [e.1, show cwT 10 = 15 by decide] at p65
        rw [e.2] at p65 ⊢
        exact zC_i (by decide) ⟨fun z => absurd z (by decide), fun _ => p65⟩
      · rw [e.1, show cwT 13 = 0 by decide] at p65
        rw [e.2] at p65 ⊢
        exact zC_i (by decide) ⟨fun _ => p65, fun z => absurd rfl z⟩
    rw [fe_13_2]
    refine zC_i (zr (by omega) (by omega)) ⟨fun z => absurd z (by omega), fun _ => ?_⟩
    refine x_isWord h (by decide) ?_
    by_cases c1 : tKi T n p w = 1 ∧ tVa T n p = 486146048
    · rw [fl_t c1]
      rw [if_pos c1] at hK0 hK1
      refine zC_i (by decide) ⟨fun _ => ?_, fun z => absurd (by decide) z⟩
      by_cases c2 : nsT S = 6
      · rw [if_pos c2] at hK0
        exact bad 1 c2 hK0
      · rw [if_neg c2] at hK0 hK1
        exact push 10 1 true (.inl ⟨rfl, rfl⟩) c2 (decide_eq_true_iff.mpr (.inl c1.1)) hK0 hK1
    · rw [fl_f c1]
      rw [if_neg c1] at hK0 hK1
      refine zC_i (by decide) ⟨fun z => absurd rfl z, fun _ => ?_⟩
      refine x_isSign hT h (by decide) ?_
      by_cases c3 : tKi T n p w = 3 ∧ tVa T n p = 91
      · rw [fl_t c3]
        rw [if_pos c3] at hK0 hK1
        refine zC_i (by decide) ⟨fun _ => ?_, fun z => absurd (by decide) z⟩
        by_cases c2 : nsT S = 6
        · rw [if_pos c2] at hK0
          exact bad 0 c2 hK0
        · rw [if_neg c2] at hK0 hK1
          exact push 13 0 false (.inr ⟨rfl, rfl⟩) c2 (decide_eq_false_iff_not.mpr (by omega)) hK0 hK1
      · rw [fl_f c3]
        rw [if_neg c3] at hK1
        exact zC_i (by decide) ⟨fun z => absurd rfl z, fun _ => hK1 M rfl hs h xA2_refl⟩
theorem x_cnt18 {d : Nat} {T : Int → Int} {n p : Int} {w : Bool} {M : Mm} {K : Kt} (h : xTk T n p w M) (hK : K (gCn T n p w) M) : zSp (d + 2) 18 [.inr (.inr 136)] M K := by
  unfold gCn at hK
  rw [me_18]
  refine x_isWord h (by decide) ?_
  by_cases c0 : tKi T n p w = 1 ∧ tVa T n p = 647828480
  · rw [if_pos c0] at hK
    rw [fl_t c0]
    exact zC_i (by decide) ⟨fun z => absurd z (by decide), fun _ => hK⟩
  · rw [if_neg c0] at hK
    rw [fl_f c0]
    refine zC_i (by decide) ⟨fun _ => x_isWord h (by decide) ?_, fun z => absurd rfl z⟩
    by_cases c1 : tKi T n p w = 1 ∧ tVa T n p = 139640832
    · rw [if_pos c1] at hK
      rw [fl_t c1]
      exact zC_i (by decide) ⟨fun z => absurd z (by decide), fun _ => hK⟩
    · rw [if_neg c1] at hK
      rw [fl_f c1]
      refine zC_i (by decide) ⟨fun _ => x_isWord h (by decide) ?_, fun z => absurd rfl z⟩
      by_cases c2 : tKi T n p w = 1 ∧ tVa T n p = 270106624
      · rw [if_pos c2] at hK
        rw [fl_t c2]
        exact zC_i (by decide) ⟨fun z => absurd z (by decide), fun _ => hK⟩
      · rw [if_neg c2] at hK
        rw [fl_f c2]
        refine zC_i (by decide) ⟨fun _ => x_isWord h (by decide) ?_, fun z => absurd rfl z⟩
        by_cases c3 : tKi T n p w = 1 ∧ tVa T n p = 719459904
        · rw [if_pos c3] at hK
          rw [fl_t c3]
          exact zC_i (by decide) ⟨fun z => absurd z (by decide), fun _ => hK⟩
        · rw [if_neg c3] at hK
          rw [fl_f c3]
          refine zC_i (by decide) ⟨fun _ => x_isWord h (by decide) ?_, fun z => absurd rfl z⟩
          by_cases c4 : tKi T n p w = 1 ∧ tVa T n p = 475811840
          · rw [if_pos c4] at hK
            rw [fl_t c4]
            exact zC_i (by decide) ⟨fun z => absurd z (by decide), fun _ => hK⟩
          · rw [if_neg c4] at hK
            rw [fl_f c4]
            exact zC_i (by decide) ⟨fun _ => hK, fun z => absurd rfl z⟩
/-- the class's number of a sign -/
def gSc (g : Int) : Int := if g = 2 then -1 else if g < 0 then 0 else if 0 < g then 1 else 2
theorem x_sgn19 {d : Nat} {T : Int → Int} {n p : Int} {M : Mm} {K : Kt} (hT : tpOk T n) (h : xTk T n p true M) (hK : K (gSc (gSn T n p)) M) : zSp (d + 2) 19 [.inr (.inr 136)] M K := by
  unfold gSn at hK
  rw [me_19]
  refine x_isSign hT h (by decide) ?_
  by_cases c0 : tKi T n p true = 3 ∧ tVa T n p = 60
  · rw [if_pos c0, show gSc (-1) = 0 by decide] at hK
    rw [fl_t c0]
    exact zC_i (by decide) ⟨fun z => absurd z (by decide), fun _ => hK⟩
  · rw [if_neg c0] at hK
    rw [fl_f c0]
    refine zC_i (by decide) ⟨fun _ => x_isSign hT h (by decide) ?_, fun z => absurd rfl z⟩
    by_cases c1 : tKi T n p true = 3 ∧ tVa T n p = 62
    · rw [if_pos c1, show gSc 1 = 1 by decide] at hK
      rw [fl_t c1]
      exact zC_i (by decide) ⟨fun z => absurd z (by decide), fun _ => hK⟩
    · rw [if_neg c1] at hK
      rw [fl_f c1]
      refine zC_i (by decide) ⟨fun _ => x_isSign hT h (by decide) ?_, fun z => absurd rfl z⟩
      by_cases c2 : tKi T n p true = 3 ∧ tVa T n p = 61
      · rw [if_pos c2, show gSc 0 = 2 by decide] at hK
        rw [fl_t c2]
        exact zC_i (by decide) ⟨fun z => absurd z (by decide), fun _ => hK⟩
      · rw [if_neg c2, show gSc 2 = -1 by decide] at hK
        rw [fl_f c2]
        exact zC_i (by decide) ⟨fun _ => hK, fun z => absurd rfl z⟩
theorem x_nm20 {d : Nat} {T : Int → Int} {n p : Int} {G M : Mm} {K : Kt} (hT : tpOk T n) (hg : gLn G) (hx : xG G M) (h : xTk T n p true M)
    (hK0 : (gNmT T n G p).1 ≠ 0 → K (-1) (zUp (zUp M 2 6 (gNmT T n G p).1) 2 7 (gNmT T n G p).2.1))
    (hK1 : ∀ M', (gNmT T n G p).1 = 0 → xTk T n (tEn T n p) true M' → xF M M' → K (gNmT T n G p).2.2 M') : zSp (d + 4) 20 [.inr (.inr 136)] M K := by
  have c0 := hg.1
  have pn := h.2.2.2.2.2.2
  have lf := gLf_s (v := tVa T n p) hg
  unfold gNmT at hK0 hK1
  rw [me_20]
  refine x_isName h ?_
  by_cases c1 : isNm T n p true
  · rw [fl_t c1]
    rw [if_pos c1] at hK0 hK1
    have vb := tVa_1 pn c1.1
    have v5 : M 2 5 = tVa T n p := h.2.2.2.2.1 (by rw [c1.1]; decide) (by rw [c1.1]; decide)
    refine zC_i (by decide) ⟨fun _ => ?_, fun q => absurd (by decide) q⟩
    rw [v5]
    refine x_lineOf hg hx (zr (by omega) (by omega)) ?_
    refine zC_i (zr (by omega) (by omega)) ⟨fun c2 => ?_, fun c2 => ?_⟩
    · rw [if_neg c2] at hK1
      refine x_adv (d := d) hT h ?_
      intro M1 f1 f2 f3
      rw [show decide (tKi T n p true = 1 ∨ tKi T n p true = 2) = true from decide_eq_true_iff.mpr (.inl c1.1)] at f1
      exact hK1 M1 rfl f1 ⟨f3, f2⟩
    · rw [if_pos (Decidable.not_not.mp c2)] at hK0
      exact x_fail h (hK0 (show (3 : Int) ≠ 0 by decide))
  · rw [fl_f c1]
    rw [if_neg c1] at hK0
    exact zC_i (by decide) ⟨fun q => absurd rfl q, fun _ => x_fail h (hK0 (show (1 : Int) ≠ 0 by decide))⟩
def xPF (T : Int → Int) (n c0 : Int) (O : List St5) (K : Kt) (M : Mm) (r : Fr5) : Prop := (∀ M', r.1 ≠ 0 → xF M M' → K 0 (zUp (zUp M' 2 6 r.1) 2 7 r.2.1)) ∧ (∀ M', r.1 = 0 → xO c0 (O ++ [r.2.2.1]) M' → xTk T n r.2.2.2 true M' → xE c0 M M' → M' 136 = M 136 → M' 137 = M 137 → K 1 M')
theorem xPF_q {T : Int → Int} {n c0 : Int} {O : List St5} {K : Kt} {M M1 : Mm} {r : Fr5} (h : xPF T n c0 O K M r) (q : xF M M1) : xPF T n c0 O K M1 r := ⟨fun M' a b => h.1 M' a (xF_trans q b), fun M' a b c e f g => h.2 M' a b c (xE_trans (xE_F q) e) (by rw [f, q.1 136 (by decide)]) (by rw [g, q.1 137 (by decide)])⟩
theorem x_nb64 {d : Nat} {T : Int → Int} {n c0 c a b p x2 x3 : Int} {O : List St5} {M : Mm} {K : Kt} (hT : tpOk T n) (hc : 0 ≤ c ∧ c ≤ 4) (ha : (c < 2 → x2 = -1) ∧ (2 ≤ c → x2 = a)) (hb : (c < 3 → x3 = -1) ∧ (3 ≤ c → x3 = b)) (h : xTk T n p true M) (ho : xO c0 O M) (h0 : 0 ≤ c0) (hl : c0 + O.length < 333) (hP : xPF T n c0 O K M (gNb T n c a b p)) : zWp (zSp (d + 4)) 17 K 64 [some (.inr (.inr 136)), some (.inl c), some (.inl x2), some (.inl x3), none] [] M := by
  have sk := gSn_k (T := T) (n := n) (p := p)
  have pn := h.2.2.2.2.2.2
  unfold gNb at hP
  rw [fe_17_64]
  refine x_sgn19 hT h ?_
  by_cases c1 : gSn T n p = 2
  · rw [c1, show gSc 2 = -1 by decide]
    rw [if_pos c1] at hP
    exact zC_i (by decide) ⟨fun z => absurd rfl z, fun _ => x_fail h (zC_i (by decide) (hP.1 M (show (1 : Int) ≠ 0 by decide) ⟨fun _ _ => rfl, fun _ _ _ _ _ => rfl⟩))⟩
  · rw [if_neg c1] at hP
    obtain ⟨k3, kv⟩ := sk.resolve_left c1
    have eg : gSc (gSn T n p) = if gSn T n p < 0 then 0 else if 0 < gSn T n p then 1 else 2 := by unfold gSc; rw [if_neg c1]
    have gb : 0 ≤ gSc (gSn T n p) ∧ gSc (gSn T n p) ≤ 2 := by rw [eg]; split <;> (try split) <;> omega
    refine zC_i (zr (by omega) (by omega)) ⟨fun _ => ?_, fun z => absurd (by omega) z⟩
    refine x_adv (d := d + 1) hT h ?_
    intro M1 f1 f2 f3
    rw [show decide (tKi T n p true = 1 ∨ tKi T n p true = 2) = false from decide_eq_false_iff_not.mpr (by omega)] at f1
    have q1 : xF M M1 := ⟨f3, f2⟩
    have hP := xPF_q hP q1
    have pe := (tEn_s (T := T) pn).2.1
    refine x_isNum f1 ?_
    by_cases c2 : tKi T n (tEn T n p) false = 2
    · rw [fl_t c2]
      rw [if_pos c2] at hP
      have v5 : M1 2 5 = tVa T n (tEn T n p) := f1.2.2.2.2.1 (by rw [c2]; decide) (by rw [c2]; decide)
      refine zC_i (by decide) ⟨fun _ => ?_, fun z => absurd (by decide) z⟩
      rw [v5]
      refine x_wr (s := (c, a, b, gSn T n p, tVa T n (tEn T n p))) (xO_F ho q1) h0 hl (fun M' g1 g2 g3 g4 => ?_) ?_
      · unfold xStp
        refine ⟨fun e => ?_, fun e => ?_, fun e => ?_, fun _ => ⟨?_, fun e => ?_, fun e => ?_, fun e => ?_, fun e => ?_, g4⟩⟩
        · have e : c = 10 := e
          omega
        · have e : c = 11 := e
          omega
        · have e : c = 12 := e
          omega
        · show M' 34 _ = 3 * c + (if gSn T n p < 0 then 0 else if 0 < gSn T n p then 1 else 2)
          rw [g1, eg]; omega
        · show M' 35 _ = a
          have e : 2 ≤ c := e
          rw [g2]; exact ha.2 e
        · show M' 36 _ = b
          have e : 3 ≤ c := e
          rw [g3]; exact hb.2 e
        · show M' 35 _ = -1
          have e : c < 2 := e
          rw [g2]; exact ha.1 e
        · show M' 36 _ = -1
          have e : c < 3 := e
          rw [g3]; exact hb.1 e
      · intro M2 g1 g2 g3 g4 g5 g6
        have t2 : xTk T n (tEn T n p) false M2 := xTk_fr f1 (fun j _ _ => by rw [g5]) g6
        refine x_adv (d := d + 1) hT t2 ?_
        intro M3 k1 k2 k3
        rw [show decide (tKi T n (tEn T n p) false = 1 ∨ tKi T n (tEn T n p) false = 2) = true from decide_eq_true_iff.mpr (.inr c2)] at k1
        have q3 : xF M2 M3 := ⟨k3, k2⟩
        exact hP.2 M3 rfl (xO_F g1 q3) k1 (xE_trans g2 (xE_F q3)) (by rw [k3 136 (by decide), g3]) (by rw [k3 137 (by decide), g4])
    · rw [fl_f c2]
      rw [if_neg c2] at hP
      exact zC_i (by decide) ⟨fun z => absurd rfl z, fun _ => x_fail f1 (zC_i (by decide) (hP.1 M1 (show (1 : Int) ≠ 0 by decide) ⟨fun _ _ => rfl, fun _ _ _ _ _ => rfl⟩))⟩
theorem x_fact {d : Nat} {T : Int → Int} {n c0 p : Int} {w : Bool} {O : List St5} {G M : Mm} {K : Kt} (hT : tpOk T n) (hg : gLn G) (hx : xG G M) (h : xTk T n p w M) (ho : xO c0 O M) (h0 : 0 ≤ c0) (hl : c0 + O.length < 333) (hP : xPF T n c0 O K M (gFa T n G p w)) : zSp (d + 5) 17 [.inr (.inr 136)] M K := by
  have g0 := hg.1
  have pn := h.2.2.2.2.2.2
  have ck := gCn_k (T := T) (w := w) pn
  have pe := (tEn_s (T := T) pn).2.1
  have pe2 := (tEn_s (T := T) pe).2.1
  unfold gFa at hP
  rw [me_17]
  refine x_cnt18 h ?_
  by_cases c1 : gCn T n p w = -1
  · rw [c1]
    rw [if_pos c1] at hP
    exact zC_i (by decide) ⟨fun z => absurd rfl z, fun _ => x_fail h (zC_i (by decide) (hP.1 M (show (1 : Int) ≠ 0 by decide) ⟨fun _ _ => rfl, fun _ _ _ _ _ => rfl⟩))⟩
  · rw [if_neg c1] at hP
    obtain ⟨k1, k2, k3⟩ := ck.resolve_left c1
    refine zC_i (zr (by omega) (by omega)) ⟨fun _ => ?_, fun z => absurd c1 z⟩
    refine x_adv (d := d + 1) hT h ?_
    intro M1 f1 f2 f3
    rw [show decide (tKi T n p w = 1 ∨ tKi T n p w = 2) = true from decide_eq_true_iff.mpr (.inl k2)] at f1
    have q1 : xF M M1 := ⟨f3, f2⟩
    have hP := xPF_q hP q1
    have o1 := xO_F ho q1
    have x1 : xG G M1 := xG_fr hx fun c a b => f3 c (by omega)
    refine zC_i (zr (by omega) (by omega)) ⟨fun c2 => ?_, fun c2 => ?_⟩
    · rw [if_pos c2] at hP
      rw [fe_17_47]
      refine zC_i (zr (by omega) (by omega)) ⟨fun _ => ?_, fun z => absurd (by omega) z⟩
      exact x_nb64 hT k1 ⟨fun _ => rfl, fun q => by omega⟩ ⟨fun _ => rfl, fun q => by omega⟩ f1 o1 h0 hl hP
    · rw [if_neg c2] at hP
      refine x_nm20 (d := d) hT hg x1 f1 ?_ ?_
      · intro e
        rw [if_pos e] at hP
        exact zC_i (by decide) ⟨fun z => absurd rfl z, fun _ => hP.1 M1 e ⟨fun _ _ => rfl, fun _ _ _ _ _ => rfl⟩⟩
      · intro M2 e f1' q2
        rw [if_neg (fun z => z e)] at hP
        have hP := xPF_q hP q2
        have o2 := xO_F o1 q2
        have x2 : xG G M2 := xG_fr x1 fun c a b => q2.1 c (by omega)
        rcases gNmT_k (T := T) hg pe with ⟨y1, y2, y3, y4, y5, y6⟩ | y | y
        · refine zC_i (zr (by omega) (by omega)) ⟨fun _ => ?_, fun z => absurd (by omega) z⟩
          rw [fe_17_47]
          refine zC_i (zr (by omega) (by omega)) ⟨fun c3 => ?_, fun c3 => ?_⟩
          · rw [if_pos c3] at hP
            exact x_nb64 hT k1 ⟨fun q => by omega, fun _ => rfl⟩ ⟨fun _ => rfl, fun q => by omega⟩ f1' o2 h0 hl hP
          · rw [if_neg c3] at hP
            refine x_nm20 (d := d) hT hg x2 f1' ?_ ?_
            · intro e2
              rw [if_pos e2] at hP
              exact zC_i (by decide) ⟨fun z => absurd rfl z, fun _ => hP.1 M2 e2 ⟨fun _ _ => rfl, fun _ _ _ _ _ => rfl⟩⟩
            · intro M3 e2 f3' q3
              rw [if_neg (fun z => z e2)] at hP
              have hP := xPF_q hP q3
              have o3 := xO_F o2 q3
              rcases gNmT_k (T := T) hg pe2 with ⟨u1, u2, u3, u4, u5, u6⟩ | u | u
              · refine zC_i (zr (by omega) (by omega)) ⟨fun _ => ?_, fun z => absurd (by omega) z⟩
                exact x_nb64 hT k1 ⟨fun q => by omega, fun _ => rfl⟩ ⟨fun q => by omega, fun _ => rfl⟩ f3' o3 h0 hl hP
              · omega
              · omega
        · omega
        · omega
