/-! LAYER 3: the reference takes the grammar over -/
theorem m_cp85 {d : Nat} {K : Kt} : ∀ (m : Nat) (x : Int) (M : Mm), 0 ≤ x → x + m = 194 → (∀ M', (∀ c, c ≠ 156 → M' c = M c) → (∀ j, M' 156 j = if x ≤ j ∧ j < 194 then M 159 j else M 156 j) → zWp (zSp d) 169 K 112 [some (.inr (.inr 154)), some (.inl 0)] [] M') → zWp (zSp d) 169 K 85 [some (.inr (.inr 154)), some (.inl x)] [] M
  | 0, x, M, h0, hm, hK => by
    rw [fe_169_85]
    exact zC_i (zr (by omega) (by omega)) ⟨fun _ => hK M (fun _ _ => rfl) (fun j => by rw [if_neg (by omega)]), fun c => absurd (by omega) c⟩
  | m + 1, x, M, h0, hm, hK => by
    rw [fe_169_85]
    have sm : zSm x 194 = true := zs h0 (by omega)
    refine zC_i (zr (by omega) (by omega)) ⟨fun c => absurd c (by omega), fun _ => zC_i sm (zC_i sm ?_)⟩
    refine m_cp85 m (x + 1) _ (by omega) (by omega) ?_
    intro M' f1 f2
    refine hK M' (fun c a => by rw [f1 c a, zUp_away a]) (fun j => ?_)
    rw [f2 j, zUp_away (show (159 : Nat) ≠ 156 by decide)]
    by_cases e : j = x
    · rw [if_neg (by omega), if_pos (by omega), e, zUp_here]
    · rw [zUp_there e]
      by_cases e2 : x + 1 ≤ j ∧ j < 194
      · rw [if_pos e2, if_pos (by omega)]
      · rw [if_neg e2, if_neg (by omega)]
theorem m_cp112 {d : Nat} {K : Kt} : ∀ (m : Nat) (x : Int) (M : Mm), 0 ≤ x → x + m = 24 → (∀ M', (∀ c, c ≠ 157 → M' c = M c) → (∀ j, M' 157 j = if x ≤ j ∧ j < 24 then M 160 j else M 157 j) → zWp (zSp d) 169 K 138 [some (.inr (.inr 154)), some (.inl 0)] [] M') → zWp (zSp d) 169 K 112 [some (.inr (.inr 154)), some (.inl x)] [] M
  | 0, x, M, h0, hm, hK => by
    rw [fe_169_112]
    exact zC_i (zr (by omega) (by omega)) ⟨fun _ => hK M (fun _ _ => rfl) (fun j => by rw [if_neg (by omega)]), fun c => absurd (by omega) c⟩
  | m + 1, x, M, h0, hm, hK => by
    rw [fe_169_112]
    have sm : zSm x 24 = true := zs h0 (by omega)
    refine zC_i (zr (by omega) (by omega)) ⟨fun c => absurd c (by omega), fun _ => zC_i sm (zC_i sm ?_)⟩
    refine m_cp112 m (x + 1) _ (by omega) (by omega) ?_
    intro M' f1 f2
    refine hK M' (fun c a => by rw [f1 c a, zUp_away a]) (fun j => ?_)
    rw [f2 j, zUp_away (show (160 : Nat) ≠ 157 by decide)]
    by_cases e : j = x
    · rw [if_neg (by omega), if_pos (by omega), e, zUp_here]
    · rw [zUp_there e]
      by_cases e2 : x + 1 ≤ j ∧ j < 24
      · rw [if_pos e2, if_pos (by omega)]
      · rw [if_neg e2, if_neg (by omega)]
theorem m_cp138 {d : Nat} {K : Kt} : ∀ (m : Nat) (x : Int) (M : Mm), 0 ≤ x → x + m = 6 → (∀ M', (∀ c, c ≠ 158 → c ≠ 162 → c ≠ 163 → M' c = M c) → (∀ j, M' 158 j = if x ≤ j ∧ j < 6 then M 161 j else M 158 j) → (∀ j, M' 162 j = if x ≤ j ∧ j < 6 then M 164 j else M 162 j) → zWp (zSp d) 169 K 192 [some (.inr (.inr 154)), some (.inl (M 156 192 - 1))] [] M') → zWp (zSp d) 169 K 138 [some (.inr (.inr 154)), some (.inl x)] [] M
  | 0, x, M, h0, hm, hK => by
    rw [fe_169_138]
    exact zC_i (zr (by omega) (by omega)) ⟨fun _ => hK M (fun _ _ _ _ => rfl) (fun j => by rw [if_neg (by omega)]) (fun j => by rw [if_neg (by omega)]), fun c => absurd (by omega) c⟩
  | m + 1, x, M, h0, hm, hK => by
    rw [fe_169_138]
    have sm : zSm x 6 = true := zs h0 (by omega)
    refine zC_i (zr (by omega) (by omega)) ⟨fun c => absurd c (by omega), fun _ => zC_i sm (zC_i sm (zC_i sm (zC_i sm (zC_i sm ?_))))⟩
    refine m_cp138 m (x + 1) _ (by omega) (by omega) ?_
    intro M' f1 f2 f3
    rw [zUp_away (show (156 : Nat) ≠ 163 by decide), zUp_away (show (156 : Nat) ≠ 162 by decide), zUp_away (show (156 : Nat) ≠ 158 by decide)]
    refine hK M' (fun c a b e => by rw [f1 c a b e, zUp_away e, zUp_away b, zUp_away a]) (fun j => ?_) (fun j => ?_)
    · rw [f2 j, zUp_away (show (161 : Nat) ≠ 163 by decide), zUp_away (show (161 : Nat) ≠ 162 by decide), zUp_away (show (161 : Nat) ≠ 158 by decide), zUp_away (show (158 : Nat) ≠ 163 by decide), zUp_away (show (158 : Nat) ≠ 162 by decide)]
      by_cases e : j = x
      · rw [if_neg (by omega), if_pos (by omega), e, zUp_here]
      · rw [zUp_there e]
        by_cases e2 : x + 1 ≤ j ∧ j < 6
        · rw [if_pos e2, if_pos (by omega)]
        · rw [if_neg e2, if_neg (by omega)]
    · rw [f3 j, zUp_away (show (164 : Nat) ≠ 163 by decide), zUp_away (show (164 : Nat) ≠ 162 by decide), zUp_away (show (164 : Nat) ≠ 158 by decide), zUp_away (show (162 : Nat) ≠ 163 by decide)]
      by_cases e : j = x
      · rw [if_neg (by omega), if_pos (by omega), e, zUp_here]
      · rw [zUp_there e, zUp_away (show (162 : Nat) ≠ 158 by decide)]
        by_cases e2 : x + 1 ≤ j ∧ j < 6
        · rw [if_pos e2, if_pos (by omega)]
        · rw [if_neg e2, if_neg (by omega)]
theorem m_lst192 {d : Nat} {G : Mm} {q : Lpq} {F : Int → Int} {K : Kt} (hg : gLn G) (hF : fxL G F) (hq : ∀ s, 0 ≤ s → s < 6 → q.1 s = F s) : ∀ (m : Nat) (x : Int) (M : Mm), x + 1 = m → x < G 4 0 → rL G q M → (∀ l, 0 ≤ l → l < G 4 0 → M 156 (8 * l + 0) = G 7 l) → (∀ s, 0 ≤ s → s < G 4 1 → M 162 s = F s) → (∀ s l, 0 ≤ s → s < G 4 1 → lwL G F s l → x < l → M 163 s = l) →
    (∀ M', (∀ c, c ≠ 163 → M' c = M c) → (∀ s l, 0 ≤ s → s < G 4 1 → lwL G F s l → M' 163 s = l) → K (M' 156 192) (zUp (zUp (zUp (zUp M' 165 0 0) 154 37 0) 154 24 0) 154 57 0)) → zWp (zSp (d + 1)) 169 K 192 [some (.inr (.inr 154)), some (.inl x)] [] M
  | 0, x, M, hm, hx, hr, h6, h2, ho, hK => by
    have c0 := hg.1
    rw [fe_169_192]
    refine zC_i (zr (by omega) (by omega)) ⟨fun _ => ?_, fun c => absurd (by omega) c⟩
    rw [me_209]
    exact hK M (fun _ _ => rfl) (fun s l s0 s1 w => ho s l s0 s1 w (by have := w.1.1; omega))
  | m + 1, x, M, hm, hx, hr, h6, h2, ho, hK => by
    have c0 := hg.1
    have x0 : 0 ≤ x := by omega
    have gs := (hg.2.1 x x0 hx).2.2.1
    have hb : bdL q.1 := fun s s0 s1 => by rw [hq s s0 s1]; exact hF.1 s s0 s1
    have eF : szA G q.1 x = szA G F x := szL_cg _ (fun i hi => by
      have p := gPr hg x0 hx hi
      exact hq _ p.1 p.2.2)
    have zb := szA_b hg hF.1 x0 hx
    have lb := hF.1 _ gs.1 (by omega)
    rw [fe_169_192]
    refine zC_i (zr (by omega) (by omega)) ⟨fun c => absurd c (by omega), fun _ => ?_⟩
    refine m_leastOf hg hb hr x0 hx ?_
    rw [me_170, h6 x x0 hx, h2 _ gs.1 gs.2, eF]
    refine zC_i (zs (by omega) (by omega)) (zC_i (zs gs.1 (by omega)) (zC_i (zr (by omega) (by omega)) (zC_i (zr (by omega) (by omega)) ⟨fun c => ?_, fun c => ?_⟩)))
    · refine m_lst192 hg hF hq m _ M (by omega) (by omega) hr h6 h2 (fun s l s0 s1 w hl => ?_) hK
      refine ho s l s0 s1 w ?_
      by_cases e : l = x
      · exfalso
        have w2 := w.1.2.1
        have w3 := w.1.2.2
        rw [e] at w2 w3
        rw [← w2] at w3
        exact c w3
      · omega
    · rw [me_170, h6 x x0 hx]
      refine zC_i (zs (by omega) (by omega)) (zC_i (zs gs.1 (by omega)) ?_)
      refine m_lst192 hg hF hq m _ _ (by omega) (by omega) ⟨mR_fr hr.1 (by rw [zUp_away (by decide)]) (by rw [zUp_away (by decide)]) (by rw [zUp_away (by decide)]), fun s s0 s1 => by rw [zUp_away (by decide)]; exact hr.2 s s0 s1⟩ (fun l l0 l1 => by rw [zUp_away (by decide)]; exact h6 l l0 l1) (fun s s0 s1 => by rw [zUp_away (by decide)]; exact h2 s s0 s1) (fun s l s0 s1 w hl => ?_) (fun M' a b => hK M' (fun c e => by rw [a c e, zUp_away e]) b)
      by_cases e : s = G 7 x
      · rw [e, zUp_here]
        have := w.2 x ⟨x0, hx⟩ e.symm (by rw [e]; omega)
        omega
      · rw [zUp_there e]
        refine ho s l s0 s1 w ?_
        by_cases e2 : l = x
        · exfalso
          have w2 := w.1.2.1
          rw [e2] at w2
          exact e w2.symm
        · omega
theorem m_isRead {d : Nat} {M : Mm} {K : Kt} (h0 : M 154 6 = 0) (hK : K 1 (zUp (zUp M 154 8 0) 154 9 (-1))) : zSp (d + 1) 145 [.inr (.inr 154)] M K := by
  rw [me_145, h0]
  refine zC_i (by decide) ⟨fun c => absurd rfl c, fun _ => ?_⟩
  rw [fe_145_24, zUp_there (by decide), h0]
  exact zC_i (by decide) ⟨fun c => absurd rfl c, fun _ => hK⟩
theorem m_unRead {d : Nat} {M : Mm} {K : Kt} {k q : Int} (h0 : 1 ≤ k ∧ k ≤ 5) (h6 : M 154 6 = k) (h7 : M 154 7 = q) (hK : K 0 (zUp (zUp M 154 8 k) 154 9 q)) : zSp (d + 1) 145 [.inr (.inr 154)] M K := by
  rw [me_145, h6, h7]
  refine zC_i (zr (by omega) (by omega)) ⟨fun _ => ?_, fun c => absurd (by omega) c⟩
  rw [fe_145_24, zUp_there (by decide), h6]
  exact zC_i (zr (by omega) (by omega)) ⟨fun _ => hK, fun c => absurd (by omega) c⟩
theorem m_zero11 {d : Nat} {T : Int → Int} {n : Int} {K : Kt} : ∀ (m : Nat) (x : Int) (M : Mm), 0 ≤ x → x + m = 194 → (∀ j, 0 ≤ j → j < x → M 159 j = 0) → (∀ M', (∀ c, c ≠ 159 → M' c = M c) → (∀ j, 0 ≤ j → j < 194 → M' 159 j = 0) → zWp (zSp d) 169 K 11 [some (.inr (.inr 154)), some (.inl 194)] [] M') → zWp (zSp d) 169 K 11 [some (.inr (.inr 154)), some (.inl x)] [] M
  | 0, x, M, h0, hm, hz, hK => by
    rw [show x = 194 by omega]
    exact hK M (fun _ _ => rfl) (fun j j0 j1 => hz j j0 (by omega))
  | m + 1, x, M, h0, hm, hz, hK => by
    rw [fe_169_11]
    refine zC_i (zr (by omega) (by omega)) ⟨fun c => absurd c (by omega), fun _ => zC_i (zs h0 (by omega)) ?_⟩
    refine m_zero11 (T := T) (n := n) m (x + 1) _ (by omega) (by omega) (fun j j0 j1 => ?_) (fun M' a b => hK M' (fun c e => by rw [a c e, zUp_away e]) b)
    by_cases e : j = x
    · rw [e, zUp_here]
    · rw [zUp_there e]; exact hz j j0 (by omega)
