/-! LAYER 3: the grammar, both sides -/
theorem x_start {d : Nat} {T : Int → Int} {n : Int} {M : Mm} {K : Kt} (hT : tpOk T n) (hx : xTp T n M) (hK : ∀ M', xTk T n 0 false M' → M' 2 6 = 0 → M' 2 7 = -1 → (∀ c, c ≠ 2 → M' c = M c) → K 0 M') : zSp (d + 4) 65 [.inr (.inr 2)] M K := by
  have hn := hT.1
  have e3 : (zUp (zUp (zUp (zUp M 2 2 0) 2 3 0) 2 6 0) 2 7 (-1)) 2 3 = 0 := by rw [zUp_there (by decide), zUp_there (by decide), zUp_here]
  rw [me_65]
  refine x_advance (d := d) (T := T) (n := n) (p := 0) (w := false) hT (by omega) ⟨by rw [zUp_there (by decide), zUp_there (by decide), zUp_there (by decide), zUp_there (by decide)]; exact hx.1, fun i i0 i1 => by rw [zUp_away (by decide), zUp_away (by decide), zUp_away (by decide), zUp_away (by decide)]; exact hx.2 i i0 i1⟩ (by rw [zUp_there (by decide), zUp_there (by decide), zUp_there (by decide), zUp_here]) (by rw [e3]; decide) ⟨fun q => absurd q (by decide), fun q => by rw [e3] at q; omega⟩ ?_
  intro M1 f1 f2 f3
  exact hK M1 f1 (by rw [f2 6 (by decide) (by decide) (by decide) (by decide), zUp_there (by decide), zUp_here]) (by rw [f2 7 (by decide) (by decide) (by decide) (by decide), zUp_here]) (fun c hc => by rw [f3 c hc, zUp_away hc, zUp_away hc, zUp_away hc, zUp_away hc])
def g0 (M : Mm) : Mm := fun c => (zUp (zUp M 14 0 0) 14 1 0) (c + 10)
theorem g0_k {M : Mm} : gLn (g0 M) ∧ g0 M 4 0 = 0 ∧ g0 M 4 1 = 0 := by
  have e0 : g0 M 4 0 = 0 := by show (zUp (zUp M 14 0 0) 14 1 0) 14 0 = 0; rw [zUp_there (by decide), zUp_here]
  have e1 : g0 M 4 1 = 0 := by show (zUp (zUp M 14 0 0) 14 1 0) 14 1 = 0; rw [zUp_here]
  exact ⟨⟨by omega, fun l l0 l1 => by omega, fun s s0 s1 => by omega⟩, e0, e1⟩
def aF (G : Mm) : Prop := ∀ s, 0 ≤ s → s < G 4 1 → (roL G 6 q0L).1 s ≠ 1000000
def fr23 (M M' : Mm) : Prop := ∀ c, c ≠ 2 → (c < 14 ∨ 23 < c) → M' c = M c
theorem x_gram {d : Nat} {T : Int → Int} {n : Int} {M : Mm} {K : Kt} (hT : tpOk T n) (hx : xTp T n M)
    (hKf : ∀ M', (gAl T n 25 (g0 M) 0 false).1 ≠ 0 → M' 2 6 = (gAl T n 25 (g0 M) 0 false).1 → M' 2 7 = (gAl T n 25 (g0 M) 0 false).2.1 → fr23 M M' → K 0 M')
    (hK5 : ∀ M', (gAl T n 25 (g0 M) 0 false).1 = 0 → ¬ aF (gAl T n 25 (g0 M) 0 false).2.2.1 → M' 2 6 = 5 → M' 2 7 = n → fr23 M M' → K 0 M')
    (hK1 : ∀ M', (gAl T n 25 (g0 M) 0 false).1 = 0 → gLn (gAl T n 25 (g0 M) 0 false).2.2.1 → aF (gAl T n 25 (g0 M) 0 false).2.2.1 → cLp (gAl T n 25 (g0 M) 0 false).2.2.1 (roL (gAl T n 25 (g0 M) 0 false).2.2.1 6 q0L) M' → M' 2 6 = 0 → M' 2 7 = -1 → fr23 M M' → K 1 M') : zSp (d + 8) 34 [.inr (.inr 2), .inr (.inr 14)] M K := by
  have hn := hT.1
  obtain ⟨g1, g2, g3⟩ := g0_k (M := M)
  rw [me_34, me_21]
  refine zC_i rfl (zC_i rfl ?_)
  refine x_start (d := d + 3) (T := T) (n := n) hT ⟨by rw [zUp_away (by decide), zUp_away (by decide)]; exact hx.1, fun i i0 i1 => by rw [zUp_away (by decide), zUp_away (by decide)]; exact hx.2 i i0 i1⟩ ?_
  intro M1 f1 f2 f3 f4
  have x1 : xR (g0 M) M1 := fun c c1 c2 => by rw [f4 (c + 10) (by omega)]; rfl
  have fr1 : fr23 M M1 := fun c a b => by rw [f4 c a, zUp_away (by omega), zUp_away (by omega)]
  have frq : ∀ {M'}, xQ M1 M' → fr23 M M' := fun q c a b => by rw [q.1 c a b, fr1 c a b]
  refine x_lines_l (d := d) hT 25 M1 (g0 M) 0 false 0 (by omega) (by omega) (by omega) g1 g2 x1 f1 ?_ ?_
  · intro M2 e q
    refine hKf _ e (by rw [zUp_there (by decide), zUp_here]) zUp_here (fun c a b => by rw [zUp_away a, zUp_away a, frq q c a b])
  · intro M2 x2 e gl xr xt ke q
    rw [fe_34_42]
    have l6 : M2 2 6 = 0 := by rw [q.2 6 (by decide) (by decide) (by decide) (by decide)]; exact f2
    have l7 : M2 2 7 = -1 := by rw [q.2 7 (by decide) (by decide) (by decide) (by decide)]; exact f3
    refine x_findLeast (d := d + 4) gl (fun c c1 c2 => xr c c1 (by omega)) ?_ ?_
    · intro M3 a b f
      have e2 : M3 2 = M2 2 := f 2 (by decide) (by decide)
      exact zC_i (by decide) ⟨fun _ => hK1 M3 e gl a b (by rw [e2]; exact l6) (by rw [e2]; exact l7) (fun c c1 c2 => by rw [f c (by omega) (by omega), frq q c c1 c2]), fun z => absurd (by decide) z⟩
    · intro M3 a f
      refine zC_i (by decide) ⟨fun z => absurd rfl z, fun _ => ?_⟩
      have xt3 := xTk_fr xt (fun j _ _ => by rw [f 2 (by decide) (by decide)]) (f 3 (by decide) (by decide))
      refine x_fail xt3 ?_
      have pn := xt.2.2.2.2.2.2
      have tq := tQ_s (T := T) pn
      have tn := tKi_0.mp ke
      refine zC_i (by decide) ⟨fun _ => hK5 _ e (fun h => ?_) (by rw [zUp_there (by decide), zUp_here]) (by rw [zUp_here]; omega) (fun c c1 c2 => by rw [zUp_away c1, zUp_away c1, f c (by omega) (by omega), frq q c c1 c2]), fun z => absurd rfl z⟩
      obtain ⟨s, s1, s2⟩ := a
      exact h s s1.1 s1.2 s2
/-- what the reference's reading of a grammar keeps -/
def frm (M M' : Mm) : Prop := (∀ c, c < 154 → M' c = M c) ∧ (∀ c, (c = 155 ∨ (166 ≤ c ∧ c ≤ 191)) → M' c = M c) ∧ (∀ j, j ≠ 0 → M' 165 j = M 165 j) ∧ (∀ j, 13 < j → j ≠ 24 → j ≠ 37 → j ≠ 57 → M' 154 j = M 154 j) ∧ M' 154 2 = 0
def frk (M M' : Mm) : Prop := (∀ c, (c = 156 ∨ c = 157 ∨ c = 158 ∨ c = 162 ∨ c = 163 ∨ c = 165) → M' c = M c) ∧ (∀ j, (j = 24 ∨ j = 37 ∨ j = 57) → M' 154 j = M 154 j)
theorem m_gram {d : Nat} {T : Int → Int} {n : Int} {M G0 : Mm} {K : Kt} (hT : tpOk T n) (h2 : M 154 2 = n) (h155 : ∀ i, 0 ≤ i → i < n → M 155 i = T i) (hg0 : gLn G0) (e40 : G0 4 0 = 0) (e41 : G0 4 1 = 0)
    (hKf : ∀ M' k q, ((gAl T n 25 G0 0 false).1 ≠ 0 ∧ k = (gAl T n 25 G0 0 false).1 ∧ q = (gAl T n 25 G0 0 false).2.1) ∨ ((gAl T n 25 G0 0 false).1 = 0 ∧ ¬ aF (gAl T n 25 G0 0 false).2.2.1 ∧ k = 5 ∧ q = n) → M' 154 8 = k → M' 154 9 = q → frm M M' → frk M M' → K (-1) M')
    (hK1 : ∀ M' F, (gAl T n 25 G0 0 false).1 = 0 → gLn (gAl T n 25 G0 0 false).2.2.1 → aF (gAl T n 25 G0 0 false).2.2.1 → fxL (gAl T n 25 G0 0 false).2.2.1 F → (∀ s, 0 ≤ s → s < 6 → (roL (gAl T n 25 G0 0 false).2.2.1 6 q0L).1 s = F s) → (∀ s, 0 ≤ s → s < (gAl T n 25 G0 0 false).2.2.1 4 1 → lwL (gAl T n 25 G0 0 false).2.2.1 F s ((roL (gAl T n 25 G0 0 false).2.2.1 6 q0L).2 s)) →
      (∀ j, 0 ≤ j → j < 194 → M' 156 j = M' 159 j) → (∀ j, 0 ≤ j → j < 24 → M' 157 j = M' 160 j) → (∀ j, 0 ≤ j → j < 6 → M' 158 j = M' 161 j) → mR (gAl T n 25 G0 0 false).2.2.1 M' → (∀ s, 0 ≤ s → s < 6 → M' 162 s = F s) → (∀ s, 0 ≤ s → s < (gAl T n 25 G0 0 false).2.2.1 4 1 → M' 163 s = (roL (gAl T n 25 G0 0 false).2.2.1 6 q0L).2 s) → M' 165 0 = 0 → M' 154 24 = 0 → M' 154 37 = 0 → M' 154 57 = 0 → M' 154 8 = 0 → M' 154 9 = -1 → frm M M' → K ((gAl T n 25 G0 0 false).2.2.1 4 0) M') : zSp (d + 9) 169 [.inr (.inr 154)] M K := by
  have hn := hT.1
  rw [me_169, me_142]
  refine m_zero11 (T := T) (n := n) 194 0 _ (by omega) (by omega) (fun j j0 j1 => by omega) ?_
  intro M1 z1 z2
  have h20 : (zUp M 154 0 0) 154 2 = n := by rw [zUp_there (by decide)]; exact h2
  rw [h20] at z1
  have y : ∀ j, M1 154 j = if j = 7 then -1 else if j = 6 then 0 else if j = 5 then -1 else if j = 4 then 0 else if j = 2 then 0 else if j = 3 then n else if j = 0 then 0 else M 154 j := fun j => by
    rw [z1 154 (by decide), zUp_hit, zUp_hit, zUp_hit, zUp_hit, zUp_hit, zUp_hit, zUp_hit]
  have yc : ∀ c, c ≠ 154 → c ≠ 159 → M1 c = M c := fun c a b => by rw [z1 c b, zUp_away a, zUp_away a, zUp_away a, zUp_away a, zUp_away a, zUp_away a, zUp_away a]
  have y6 : M1 154 6 = 0 := by rw [y]; rfl
  have r0 : mR G0 M1 := ⟨⟨by rw [z2 193 (by decide) (by decide), e41], fun s s0 s1 => by omega⟩, by rw [z2 192 (by decide) (by decide), e40], fun l l0 l1 => by omega, fun l l0 l1 => ⟨z2 _ (by omega) (by omega), z2 _ (by omega) (by omega)⟩⟩
  have t0 : mTk T n 0 false M1 := ⟨⟨by rw [y]; rfl, fun i i0 i1 => by rw [yc 155 (by decide) (by decide)]; exact h155 i i0 i1⟩, ⟨by omega, by omega⟩, ⟨by rw [y]; exact Int.le_refl 0, by rw [y]; show (0 : Int) ≤ n; omega, by rw [y]; rfl⟩, ⟨by rw [y]; exact Int.le_refl (-1), fun q => absurd q (by decide), fun _ => by rw [y]; show (-1 : Int) < 0; decide⟩⟩
  have fq : ∀ {M' : Mm}, nH M1 M' → (∀ c, c ≠ 154 → c ≠ 159 → c ≠ 160 → c ≠ 161 → M' c = M c) ∧ (∀ j, 13 < j → M' 154 j = M 154 j) ∧ M' 154 2 = 0 := fun q => by
    refine ⟨fun c a b e f => by rw [q.1 c a b e f, yc c a b], fun j hj => ?_, by rw [q.2 2 (by omega), y]; rfl⟩
    rw [q.2 j (by omega), y, if_neg (by omega), if_neg (by omega), if_neg (by omega), if_neg (by omega), if_neg (by omega), if_neg (by omega), if_neg (by omega)]
  have bad : ∀ (M' M'' : Mm) (k q : Int), 1 ≤ k ∧ k ≤ 5 → (((gAl T n 25 G0 0 false).1 ≠ 0 ∧ k = (gAl T n 25 G0 0 false).1 ∧ q = (gAl T n 25 G0 0 false).2.1) ∨ ((gAl T n 25 G0 0 false).1 = 0 ∧ ¬ aF (gAl T n 25 G0 0 false).2.2.1 ∧ k = 5 ∧ q = n)) → nH M1 M' → (∀ c, c ≠ 164 → c ≠ 154 → M'' c = M' c) → (∀ j, j ≠ 6 → j ≠ 7 → M'' 154 j = M' 154 j) → M'' 154 6 = k → M'' 154 7 = q → zWp (zSp (d + 8)) 169 K 74 [some (.inr (.inr 154)), some (.inl 194)] [] M'' := by
    intro M' M'' k q kb hh nq g1 g2 g3 g4
    obtain ⟨q1, q2, q3⟩ := fq nq
    rw [fe_169_74]
    refine m_unRead kb g3 g4 ?_
    refine zC_i (by decide) ⟨fun z => absurd rfl z, fun _ => ?_⟩
    refine hKf _ k q hh (by rw [zUp_there (by decide), zUp_here]) zUp_here ⟨fun c hc => ?_, fun c hc => ?_, fun j _ => ?_, fun j hj _ _ _ => ?_, ?_⟩ ⟨fun c hc => ?_, fun j hj => ?_⟩
    · rw [zUp_away (by omega), zUp_away (by omega), g1 c (by omega) (by omega), q1 c (by omega) (by omega) (by omega) (by omega)]
    · rw [zUp_away (by omega), zUp_away (by omega), g1 c (by omega) (by omega), q1 c (by omega) (by omega) (by omega) (by omega)]
    · rw [zUp_away (by omega), zUp_away (by omega), g1 165 (by omega) (by omega), q1 165 (by omega) (by omega) (by omega) (by omega)]
    · rw [zUp_there (by omega), zUp_there (by omega), g2 j (by omega) (by omega), q2 j hj]
    · rw [zUp_there (by omega), zUp_there (by omega), g2 2 (by omega) (by omega), q3]
    · rw [zUp_away (by omega), zUp_away (by omega), g1 c (by omega) (by omega), q1 c (by omega) (by omega) (by omega) (by omega)]
    · rw [zUp_there (by omega), zUp_there (by omega), g2 j (by omega) (by omega), q2 j (by omega)]
  have un63 : ∀ M', 1 ≤ (gAl T n 25 G0 0 false).1 ∧ (gAl T n 25 G0 0 false).1 ≤ 4 → mFl T n M' (gAl T n 25 G0 0 false).1 (gAl T n 25 G0 0 false).2.1 → nH M1 M' → zWp (zSp (d + 8)) 169 K 63 [some (.inr (.inr 154)), some (.inl 194)] [] M' := by
    intro M' kb fl nq
    rw [fe_169_63]
    refine m_unfine (by rw [fl.1]; omega) ?_
    refine zC_i (by decide) ⟨fun _ => ?_, fun z => absurd rfl z⟩
    exact bad M' M' _ _ (by omega) (.inl ⟨by omega, rfl, rfl⟩) nq (fun _ _ _ => rfl) (fun _ _ _ => rfl) fl.1 fl.2.1
  rw [fe_169_11]
  refine zC_i (by decide) ⟨fun _ => ?_, fun z => absurd (by decide) z⟩
  refine m_isOver (d := d + 6) hT t0 ?_
  intro M2 f1 f2
  have n2 : nH M1 M2 := nH_of (nG_of f2)
  have b2 : M2 154 6 = 0 := by rw [nF_bad f2]; exact y6
  by_cases k0 : tKi T n 0 false = 0
  · rw [fl_t k0]
    refine zC_i (by decide) ⟨fun z => absurd z (by decide), fun _ => ?_⟩
    refine m_unlike (d := d + 6) hT f1 b2 ?_
    intro M3 g1 g2
    have e : gLi T n G0 0 false = (1, tQ T n 0, G0, 0, false) := by
      unfold gLi
      rw [if_neg (fun q => by omega)]
    have ea : gAl T n 25 G0 0 false = (1, tQ T n 0, G0, 0, false) := by
      show (if _ then _ else _) = _
      rw [e, if_neg (fun q => absurd q.1 (show ¬ ((1 : Int) = 0) by decide))]
    rw [fe_169_42]
    refine m_unfine (by rw [zUp_there (by decide), zUp_here]; decide) ?_
    refine zC_i (by decide) ⟨fun _ => ?_, fun z => absurd rfl z⟩
    refine un63 _ (by rw [ea]; exact ⟨by show (1 : Int) ≤ 1; decide, by show (1 : Int) ≤ 4; decide⟩) (by rw [ea]; exact mFl_i g1) (nH_trans n2 (nH_trans (nH_of (nG_of g2)) nH_bad))
  · rw [fl_f k0]
    refine zC_i (by decide) ⟨fun _ => ?_, fun z => absurd rfl z⟩
    have r2 : mR G0 M2 := mR_fr r0 (f2.1 159 (by decide)) (f2.1 160 (by decide)) (f2.1 161 (by decide))
    refine m_lines_l (d := d) hT 25 M2 G0 0 false (by omega) (by omega) hg0 r2 f1 b2 k0 (fun M' a b c => un63 M' a b (nH_trans n2 c)) ?_
    intro M3 e gl r3 t3 ke b3 q3
    have n3 := nH_trans n2 q3
    obtain ⟨F, hF, h67, hw⟩ := lstL gl
    have e3 : M3 154 3 = n := t3.1.1
    have sb := gl.1
    rw [fe_169_63]
    refine m_fine b3 ?_
    refine zC_i (by decide) ⟨fun z => absurd z (by decide), fun _ => ?_⟩
    refine m_laysLeast (d := d + 6) gl r3 b3 ?_ ?_
    · intro M4 a4 r4 f4
      have af : aF (gAl T n 25 G0 0 false).2.2.1 := fun s s0 s1 => by
        have x := a4 s s0 s1
        have y := h67 s s0 (by omega)
        omega
      obtain ⟨q1, q2, q3'⟩ := fq n3
      rw [fe_169_74]
      refine m_isRead (by rw [f4 154 (by decide)]; exact b3) ?_
      refine zC_i (by decide) ⟨fun _ => ?_, fun z => absurd (by decide) z⟩
      refine m_cp85 194 0 _ (by omega) (by omega) ?_
      intro M5 g1 g2
      refine m_cp112 24 0 _ (by omega) (by omega) ?_
      intro M6 k1 k2
      refine m_cp138 6 0 _ (by omega) (by omega) ?_
      intro M7 l1 l2 l3
      have u : ∀ c, c ≠ 154 → c ≠ 156 → c ≠ 157 → c ≠ 158 → c ≠ 162 → c ≠ 163 → M7 c = M4 c := fun c a1 a2 a3 a5 a6 a7 => by rw [l1 c a5 a6 a7, k1 c a3, g1 c a2, zUp_away a1, zUp_away a1]
      have u154 : ∀ j, M7 154 j = if j = 9 then -1 else if j = 8 then 0 else M3 154 j := fun j => by
        rw [l1 154 (by decide) (by decide) (by decide), k1 154 (by decide), g1 154 (by decide), zUp_hit, zUp_hit, f4 154 (by decide)]
      have v56 : ∀ j, 0 ≤ j → j < 194 → M7 156 j = M4 159 j := fun j j0 j1 => by rw [l1 156 (by decide) (by decide) (by decide), k1 156 (by decide), g2 j, if_pos ⟨j0, j1⟩, zUp_away (by decide), zUp_away (by decide)]
      have v57 : ∀ j, 0 ≤ j → j < 24 → M7 157 j = M4 160 j := fun j j0 j1 => by rw [l1 157 (by decide) (by decide) (by decide), k2 j, if_pos ⟨j0, j1⟩, g1 160 (by decide), zUp_away (by decide), zUp_away (by decide)]
      have v58 : ∀ j, 0 ≤ j → j < 6 → M7 158 j = M4 161 j := fun j j0 j1 => by rw [l2 j, if_pos ⟨j0, j1⟩, k1 161 (by decide), g1 161 (by decide), zUp_away (by decide), zUp_away (by decide)]
      have v62 : ∀ j, 0 ≤ j → j < 6 → M7 162 j = F j := fun j j0 j1 => by rw [l3 j, if_pos ⟨j0, j1⟩, k1 164 (by decide), g1 164 (by decide), zUp_away (by decide), zUp_away (by decide), r4.2 j j0 j1, (h67 j j0 j1).2]
      have w159 := u 159 (by decide) (by decide) (by decide) (by decide) (by decide) (by decide)
      have w160 := u 160 (by decide) (by decide) (by decide) (by decide) (by decide) (by decide)
      have w161 := u 161 (by decide) (by decide) (by decide) (by decide) (by decide) (by decide)
      have w164 := u 164 (by decide) (by decide) (by decide) (by decide) (by decide) (by decide)
      have r7 : rL (gAl T n 25 G0 0 false).2.2.1 (roL (gAl T n 25 G0 0 false).2.2.1 7 q0L) M7 := ⟨mR_fr r4.1 w159 w160 w161, fun s s0 s1 => by rw [w164]; exact r4.2 s s0 s1⟩
      have e192 : M6 156 192 = (gAl T n 25 G0 0 false).2.2.1 4 0 := by
        have := v56 192 (by decide) (by decide)
        rw [l1 156 (by decide) (by decide) (by decide)] at this
        rw [this]
        exact r4.1.2.1
      rw [e192]
      refine m_lst192 (d := d + 7) gl hF (fun s s0 s1 => (h67 s s0 s1).2) ((gAl T n 25 G0 0 false).2.2.1 4 0).toNat _ M7 (by omega) (by omega) r7 (fun l l0 l1 => ?_) (fun s s0 s1 => v62 s s0 (by omega)) (fun s l s0 s1 w hl => by have := w.1.1; omega) ?_
      · rw [v56 _ (by omega) (by omega)]
        exact (r4.1.2.2.1 l l0 l1).2.1
      · intro M8 m1 m2
        have e8 : M8 156 192 = (gAl T n 25 G0 0 false).2.2.1 4 0 := by rw [m1 156 (by decide), v56 192 (by decide) (by decide)]; exact r4.1.2.1
        rw [e8]
        have y8 : ∀ c, c ≠ 154 → c ≠ 165 → c ≠ 163 → (zUp (zUp (zUp (zUp M8 165 0 0) 154 37 0) 154 24 0) 154 57 0) c = M7 c := fun c a b e => by rw [zUp_away a, zUp_away a, zUp_away a, zUp_away b, m1 c e]
        have y154 : ∀ j, (zUp (zUp (zUp (zUp M8 165 0 0) 154 37 0) 154 24 0) 154 57 0) 154 j = if j = 57 then 0 else if j = 24 then 0 else if j = 37 then 0 else M7 154 j := fun j => by
          rw [zUp_hit, zUp_hit, zUp_hit, zUp_away (show (154 : Nat) ≠ 165 by decide), m1 154 (by decide)]
        have l4 : ∀ s, 0 ≤ s → s < (gAl T n 25 G0 0 false).2.2.1 4 1 → lwL (gAl T n 25 G0 0 false).2.2.1 F s ((roL (gAl T n 25 G0 0 false).2.2.1 6 q0L).2 s) := fun s s0 s1 => hw s s0 (by omega) (by have := af s s0 s1; have := (h67 s s0 (by omega)).1; omega)
        refine hK1 _ F e gl af hF (fun s s0 s1 => (h67 s s0 s1).1) l4 (fun j j0 j1 => ?_) (fun j j0 j1 => ?_) (fun j j0 j1 => ?_) (mR_fr r7.1 (y8 159 (by decide) (by decide) (by decide)) (y8 160 (by decide) (by decide) (by decide)) (y8 161 (by decide) (by decide) (by decide))) (fun s s0 s1 => ?_) (fun s s0 s1 => ?_) ?_ ?_ ?_ ?_ ?_ ?_ ⟨fun c hc => ?_, fun c hc => ?_, fun j hj => ?_, fun j j1 j2 j3 j4 => ?_, ?_⟩
        · rw [y8 156 (by decide) (by decide) (by decide), y8 159 (by decide) (by decide) (by decide), v56 j j0 j1, w159]
        · rw [y8 157 (by decide) (by decide) (by decide), y8 160 (by decide) (by decide) (by decide), v57 j j0 j1, w160]
        · rw [y8 158 (by decide) (by decide) (by decide), y8 161 (by decide) (by decide) (by decide), v58 j j0 j1, w161]
        · rw [y8 162 (by decide) (by decide) (by decide)]; exact v62 s s0 s1
        · rw [zUp_away (by decide), zUp_away (by decide), zUp_away (by decide), zUp_away (by decide)]
          exact m2 s _ s0 s1 (l4 s s0 s1)
        · rw [zUp_away (by decide), zUp_away (by decide), zUp_away (by decide), zUp_here]
        · rw [y154]; rfl
        · rw [y154]; rfl
        · rw [y154]; rfl
        · rw [y154, if_neg (by decide), if_neg (by decide), if_neg (by decide), u154]; rfl
        · rw [y154, if_neg (by decide), if_neg (by decide), if_neg (by decide), u154]; rfl
        · rw [y8 c (by omega) (by omega) (by omega), u c (by omega) (by omega) (by omega) (by omega) (by omega) (by omega), f4 c (by omega), q1 c (by omega) (by omega) (by omega) (by omega)]
        · rw [y8 c (by omega) (by omega) (by omega), u c (by omega) (by omega) (by omega) (by omega) (by omega) (by omega), f4 c (by omega), q1 c (by omega) (by omega) (by omega) (by omega)]
        · rw [zUp_away (by decide), zUp_away (by decide), zUp_away (by decide), zUp_there hj, m1 165 (by decide), u 165 (by decide) (by decide) (by decide) (by decide) (by decide) (by decide), f4 165 (by decide), q1 165 (by decide) (by decide) (by decide) (by decide)]
        · rw [y154, if_neg j4, if_neg j2, if_neg j3, u154, if_neg (by omega), if_neg (by omega), q2 j j1]
        · rw [y154, if_neg (by decide), if_neg (by decide), if_neg (by decide), u154, if_neg (by decide), if_neg (by decide), q3']
    · intro M4 a4 f4
      obtain ⟨s, s1, s2⟩ := a4
      refine bad M3 _ 5 (M3 154 3) (by decide) (.inr ⟨e, fun h => ?_, rfl, e3⟩) n3 (fun c a b => by rw [zUp_away b, zUp_away b, f4 c a]) (fun j a b => by rw [zUp_there b, zUp_there a, f4 154 (by decide)]) (by rw [zUp_there (by decide), zUp_here]) zUp_here
      have x := h s s1.1 s1.2
      have y := h67 s s1.1 (by omega)
      omega
